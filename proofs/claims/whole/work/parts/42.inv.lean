/-! what stands between the class's cells and the reference's: the pictures -/
-- the way: wy 0 LENGTH, 1 turn, 2 back, 3 hold, 4 rest, 5 damp, 6 how many rollers, 7 how many eyes
def WayOK (wy ro sp ey : Nat → Int) : Prop :=
  (40 ≤ wy 0 ∧ wy 0 ≤ 300) ∧ (0 ≤ wy 6 ∧ wy 6 ≤ 10) ∧ (0 ≤ wy 7 ∧ wy 7 ≤ 19) ∧
  (wy 1 = 0 ∨ (2 ≤ wy 1 ∧ wy 1 ≤ wy 0 - 1 ∧ 1 ≤ wy 2 ∧ wy 2 ≤ wy 1 - 1 ∧ 1 ≤ wy 3 ∧ wy 3 ≤ 3 ∧ 1 ≤ wy 4 ∧ wy 4 ≤ 20)) ∧ (0 ≤ wy 5 ∧ wy 5 ≤ 90) ∧
  (∀ r : Nat, (r : Int) < wy 6 → 1 ≤ ro r ∧ ro r ≤ wy 0 - 1 ∧ 1 ≤ sp r ∧ sp r ≤ 9) ∧ (∀ e : Nat, (e : Int) < wy 7 → 1 ≤ ey e ∧ ey e ≤ wy 0) ∧
  (∀ r : Nat, (r : Int) + 1 < wy 6 → ro r < ro (r + 1)) ∧ (∀ e : Nat, (e : Int) + 1 < wy 7 → ey e < ey (e + 1)) ∧ 0 ≤ wy 3
def WayR (Iw : Nat → Int) (Aw : Nat → Nat → Int) (wy ro sp ey : Nat → Int) : Prop :=
  Iw 0 = wy 0 ∧ Iw 1 = wy 6 ∧ Iw 4 = wy 7 ∧ Iw 6 = wy 1 ∧ Iw 7 = wy 2 ∧ Iw 8 = wy 3 ∧ Iw 9 = wy 4 ∧ Iw 10 = wy 5 ∧
  (∀ r : Nat, (r : Int) < wy 6 → Aw 3 r = ro r ∧ Aw 4 r = sp r) ∧ (∀ e : Nat, (e : Int) < wy 7 → Aw 6 e = ey e)
def InvW (I2 I19 I20 : Nat → Int) (A19 A20 : Nat → Nat → Int) (wy ro sp ey : Nat → Int) : Prop :=
  WayOK wy ro sp ey ∧ ((I2 11 = 19 ∧ I2 12 = 20 ∧ WayR I19 A19 wy ro sp ey) ∨ (I2 11 = 20 ∧ I2 12 = 19 ∧ WayR I20 A20 wy ro sp ey))
-- the tape
def InvT (I3 : Nat → Int) (A3 : Nat → Nat → Int) (taped : Int) (tape : Nat → Int) (fk fp : Int) : Prop :=
  I3 1 = taped ∧ (0 ≤ taped ∧ taped ≤ 400) ∧ (∀ k : Nat, (k : Int) < taped → 0 ≤ tape k ∧ tape k < 256 ∧ A3 1 k = if tape k < 128 then tape k else tape k - 256) ∧ I3 2 = fk ∧ I3 3 = fp
-- wear, beats, corners
def InvF (I4 : Nat → Int) (A4 : Nat → Nat → Int) (len : Int) (wear beat cor : Nat → Int) (many : Int) : Prop :=
  (∀ r : Nat, r < 10 → A4 1 r = wear r ∧ (0 ≤ wear r ∧ wear r ≤ 1000) ∧ A4 2 r = beat r ∧ (beat r = 0 ∨ (2 ≤ beat r ∧ beat r ≤ 20))) ∧
  I4 3 = many ∧ (0 ≤ many ∧ many ≤ 3) ∧ (∀ c : Nat, (c : Int) < many → A4 3 c = cor c ∧ 1 ≤ cor c ∧ cor c ≤ len)
-- sheets
def TrafR (I6 : Nat → Int) (A6 : Nat → Nat → Int) (wp sheets now jammed : Int) (len head state side stood came turned : Nat → Int) (L P : List Nat) : Prop :=
  I6 1 = sheets ∧ I6 2 = now ∧ I6 3 = jammed ∧ I6 4 = (P.length : Int) ∧ I6 13 = (L.length : Int) ∧ I6 15 = wp ∧ I6 16 = 4 ∧
  (∀ s : Nat, (s : Int) < sheets → A6 6 s = state s ∧ A6 7 s = head s ∧ A6 8 s = side s ∧ A6 9 s = stood s ∧ A6 10 s = 10 * len s ∧ A6 12 s = turned s ∧ (state s = 1 → A6 11 s = came s)) ∧
  (∀ i (h : i < L.length), A6 13 i = (L[i] : Int)) ∧ (∀ i (h : i < P.length), A6 15 i = (P[i] : Int))
def TrafOK (wy ro : Nat → Int) (sheets now jammed : Int) (len head state side stood came turned : Nat → Int) (L P : List Nat) (n : Nat) : Prop :=
  (0 ≤ sheets ∧ sheets ≤ 40) ∧ (0 ≤ now ∧ now ≤ 300 * (n : Int)) ∧ (jammed = -1 ∨ (0 ≤ jammed ∧ jammed < sheets ∧ state jammed.toNat = 3)) ∧
  (∀ s : Nat, (s : Int) < sheets → (0 ≤ state s ∧ state s ≤ 4) ∧ (10 ≤ len s ∧ len s ≤ 60) ∧ (side s = 1 ∨ side s = 2) ∧ (0 ≤ stood s ∧ stood s ≤ 5) ∧ (10 ≤ head s ∧ head s < 10 * wy 0 + 700) ∧ (turned s = 0 ∨ (turned s = 1 ∧ wy 1 ≠ 0)) ∧
    (state s = 3 → jammed = (s : Int)) ∧ (state s = 1 → turned s = 1 ∧ came s ≤ now ∧ 0 ≤ came s) ∧ (state s = 0 → head s - 10 * len s < 10 * wy 0 ∧ (jammed = -1 → stood s ≤ 4)) ∧
    (state s = 0 ∨ state s = 3 → turned s = 1 → side s = 1 → head s - 10 * len s < 10 * wy 1 + 90 ∨ head s = 10 * ro 0)) ∧
  (∀ s : Nat, s ∈ L ↔ (s : Int) < sheets ∧ (state s = 0 ∨ state s = 3)) ∧ L.Pairwise (fun a b => head b ≤ head a - 10 * len a) ∧
  (∀ s : Nat, s ∈ P ↔ (s : Int) < sheets ∧ state s = 1) ∧ P.Pairwise (fun a b => came a < came b) ∧ (P.length : Int) ≤ wy 3 ∧ (0 < sheets → 0 < wy 6) ∧ (∀ s : Nat, (s : Int) < sheets → state s = 0 ∨ state s = 3 → side s = 1 → 10 * ro 0 ≤ head s) ∧
  (∀ s : Nat, (s : Int) < sheets → state s = 0 → turned s = 1 → side s = 1 → 10 * wy 1 ≤ head s - 10 * len s → head s ≠ 10 * ro 0 → wy 3 ≤ (P.length : Int) + 1)
def WatR (A7 : Nat → Nat → Int) (eyes : Int) (seeing kept passings passOn passOff : Nat → Int) : Prop :=
  ∀ e : Nat, (e : Int) < eyes → A7 1 e = seeing e ∧ (seeing e = 0 ∨ seeing e = 1) ∧ (seeing e = 1 → kept e = 0 ∨ kept e = 1) ∧ A7 2 e = passings e ∧ (0 ≤ passings e ∧ passings e ≤ 12) ∧
    (∀ i : Nat, (i : Int) < passings e → A7 3 (12 * e + i) = passOn (12 * e + i) ∧ A7 4 (12 * e + i) = passOff (12 * e + i)) ∧
    (seeing e = 1 ∧ kept e = 1 → 1 ≤ passings e ∧ A7 5 e = 12 * (e : Int) + passings e - 1) ∧ (¬(seeing e = 1 ∧ kept e = 1) → A7 5 e = -1)
def InvX (n : Nat) (wp : Int) (I6 : Nat → Int) (A6 A7 : Nat → Nat → Int) (wy ro : Nat → Int) (sheets now jammed : Int) (len head state side stood came turned seeing kept passings passOn passOff : Nat → Int) : Prop :=
  (∃ L P, TrafR I6 A6 wp sheets now jammed len head state side stood came turned L P ∧ TrafOK wy ro sheets now jammed len head state side stood came turned L P n) ∧ WatR A7 (wy 7) seeing kept passings passOn passOff
-- what was observed
def ObsOK (on off : Int) : Prop := (on = -1 ∧ off = -1) ∨ ((1 ≤ on ∧ on ≤ 120) ∧ (off = -1 ∨ (on < off ∧ off ≤ 120)))
def InvO (I10 : Nat → Int) (A10 : Nat → Nat → Int) (eyes : Int) (seen on off : Nat → Int) : Prop :=
  I10 0 = (cnt (fun e => decide (seen e ≠ 0)) 19 : Int) ∧ ∀ e : Nat, e < 19 → A10 5 e = seen e ∧ (seen e = 0 ∨ (seen e = 1 ∧ (e : Int) < eyes ∧ A10 6 e = on e ∧ A10 7 e = off e ∧ ObsOK (on e) (off e)))
-- the set: kinds at 0, sides at 8, trays' kinds at 16, papers at 20, hold 24, rest 25, heat 26, need 27, cost 28, gain 29, copies 30, pages 31, stacked 32, the stack at 33, prices at 93, weeks at 103, ages at 113, told at 123
def JobOK (al : Nat → Int) : Prop :=
  (0 ≤ al 31 ∧ al 31 ≤ 8) ∧ (∀ p : Nat, (p : Int) < al 31 → (0 ≤ al p ∧ al p ≤ 3) ∧ (al (8 + p) = 1 ∨ al (8 + p) = 2)) ∧ (∀ t : Nat, t < 4 → (0 ≤ al (16 + t) ∧ al (16 + t) ≤ 3) ∧ (al (20 + t) = 0 ∨ al (20 + t) = 1)) ∧
  (1 ≤ al 24 ∧ al 24 ≤ 3) ∧ (0 ≤ al 25 ∧ al 25 ≤ 4) ∧ (0 ≤ al 26 ∧ al 26 ≤ 30) ∧ (0 ≤ al 27 ∧ al 27 ≤ 30) ∧ (0 ≤ al 28 ∧ al 28 ≤ 10) ∧ (1 ≤ al 29 ∧ al 29 ≤ 10) ∧ (1 ≤ al 30 ∧ al 30 ≤ 40) ∧
  (0 ≤ al 32 ∧ al 32 ≤ 60) ∧ (∀ i : Nat, (i : Int) < al 32 → 0 ≤ al (33 + i) ∧ al (33 + i) < al 31) ∧
  (∀ p : Nat, p < 10 → (0 ≤ al (93 + p) ∧ al (93 + p) ≤ 99) ∧ (1 ≤ al (103 + p) ∧ al (103 + p) ≤ 12) ∧ (0 ≤ al (113 + p) ∧ al (113 + p) ≤ 12) ∧ (al (123 + p) = 0 ∨ al (123 + p) = 1))
def JobR (Ij : Nat → Int) (Aj : Nat → Nat → Int) (al : Nat → Int) : Prop :=
  JobOK al ∧ Ij 0 = al 31 ∧ Ij 5 = al 24 ∧ Ij 6 = al 25 ∧ Ij 7 = al 26 ∧ Ij 8 = al 27 ∧ Ij 9 = al 28 ∧ Ij 10 = al 29 ∧ Ij 11 = al 30 ∧ Ij 12 = al 32 ∧
  (∀ p : Nat, (p : Int) < al 31 → Aj 2 p = al p ∧ Aj 3 p = al (8 + p) - 1) ∧ (∀ t : Nat, t < 4 → Aj 4 t = al (16 + t) ∧ Aj 5 t = al (20 + t)) ∧ (∀ i : Nat, (i : Int) < al 32 → Aj 14 i = al (33 + i)) ∧
  (∀ p : Nat, p < 10 → Aj 15 p = al (93 + p) ∧ (al (123 + p) = 0 ∨ Aj 16 p = al (103 + p)) ∧ Aj 17 p = al (113 + p) ∧ Aj 18 p = al (123 + p))
def InvI (A2 : Nat → Nat → Int) (I12 I13 : Nat → Int) (A12 A13 : Nat → Nat → Int) (al has : Nat → Int) : Prop :=
  A2 7 0 = has 0 ∧ A2 7 1 = has 1 ∧ (has 0 = 0 ∨ (has 0 = 1 ∧ JobR I12 A12 (fun k => al (133 + k)))) ∧ (has 1 = 0 ∨ (has 1 = 1 ∧ JobR I13 A13 (fun k => al (266 + k))))
-- rows of memory
def InvM (A18 : Nat → Nat → Int) (rs rm ce : Nat → Int) : Prop :=
  ∀ r : Nat, r < 4 → (A18 3 r = -1 ∧ rs r = -1) ∨ (A18 3 r = rm r ∧ (0 ≤ rm r ∧ rm r ≤ 60) ∧ A18 2 r = rs r ∧ (0 ≤ rs r ∧ rs r ≤ 3) ∧ ∀ i : Nat, (i : Int) < rm r → A18 (10 + r) i = ce (60 * r + i))
-- pairs of the stack: of the last i of n on the stack and the last w of many places
def kms (st : Nat → Int) (n pg many : Nat) : Nat → Nat → Nat
  | 0, _ => 0
  | _ + 1, 0 => 0
  | i + 1, w + 1 =>
    let v := max (kms st n pg many i (w + 1)) (kms st n pg many (i + 1) w)
    if st (n - (i + 1)) = (((many - (w + 1)) % pg : Nat) : Int) then max v (kms st n pg many i w + 1) else v
/-- the first on the stack from f on that is page w's -/
def kfi (st : Nat → Int) (n pg : Nat) (f w : Nat) : Nat := fnd (fun j => decide (f ≤ j ∧ st j = ((w % pg : Nat) : Int))) n
/-- behind w places: the first on the stack that may come, how many are left -/
def kst (st : Nat → Int) (n pg many : Nat) : Nat → Nat × Nat
  | 0 => (0, kms st n pg many n many)
  | w + 1 =>
    let q := kst st n pg many w
    if q.2 = 0 then q else if kfi st n pg q.1 w < n ∧ 1 + kms st n pg many (n - (kfi st n pg q.1 w + 1)) (many - (w + 1)) = q.2 then (kfi st n pg q.1 w + 1, q.2 - 1) else q
def kpo (st : Nat → Int) (n pg many w : Nat) : Int :=
  let q := kst st n pg many w
  if q.2 = 0 then -1 else if kfi st n pg q.1 w < n ∧ 1 + kms st n pg many (n - (kfi st n pg q.1 w + 1)) (many - (w + 1)) = q.2 then (kfi st n pg q.1 w : Int) else -1
def InvK (I16 : Nat → Int) (A16 : Nat → Nat → Int) (al : Nat → Int) : Prop :=
  I16 0 = 0 ∨ (I16 0 = 1 ∧ I16 1 = al 30 * al 31 ∧ I16 2 = (kms (fun i => al (33 + i)) (al 32).toNat (al 31).toNat (al 30 * al 31).toNat (al 32).toNat (al 30 * al 31).toNat : Int) ∧
    ∀ w : Nat, (w : Int) < al 30 * al 31 → A16 4 w = kpo (fun i => al (33 + i)) (al 32).toNat (al 31).toNat (al 30 * al 31).toNat w)
-- service: of a part behind w weeks how many new ones, when it was born, the last visit; none if that can't be
def vre (wk ag : Int) (m : Nat) : Nat → Option (Int × Int × Int)
  | 0 => some (0, -ag, -1)
  | w + 1 => (vre wk ag m w).bind fun q =>
    let l : Int := if m / 2 ^ w % 2 = 1 then (w : Int) else q.2.2
    if (w : Int) - q.2.1 + 1 ≤ wk then some (q.1, q.2.1, l) else if l = -1 then none else if wk < (w : Int) - l + 1 then none else some (q.1 + 1, l, -1)
/-- the bits of m below w -/
def vpc (m : Nat) : Nat → Nat
  | 0 => 0
  | w + 1 => vpc m w + m / 2 ^ w % 2
/-- cost of new ones and how many, of the first p parts -/
def vco (al : Nat → Int) (n m : Nat) : Nat → Option (Int × Int)
  | 0 => some (0, 0)
  | p + 1 => (vco al n m p).bind fun q =>
    if al (123 + p) = 0 then some q else (vre (al (103 + p)) (al (113 + p)) m n).bind fun f => some (q.1 + f.1 * al (93 + p), q.2 + f.1)
/-- the best of the first k sets of visits: which, the least in all, how many new ones -/
def vbe (al : Nat → Int) (n : Nat) (price : Int) : Nat → Int × Int × Int
  | 0 => (-1, 0, 0)
  | k + 1 =>
    let b := vbe al n price k
    match vco al n k 10 with
    | none => b
    | some c => if b.1 ≠ -1 ∧ (b.2.1 < (vpc k n : Int) * price + c.1 ∨ ((vpc k n : Int) * price + c.1 = b.2.1 ∧ vpc b.1.toNat n ≤ vpc k n)) then b else ((k : Int), (vpc k n : Int) * price + c.1, c.2)
def InvR (I17 : Nat → Int) (al : Nat → Int) : Prop :=
  I17 0 = -1 ∨ ((1 ≤ I17 0 ∧ I17 0 ≤ 10) ∧ (0 ≤ I17 4 ∧ I17 4 ≤ 999) ∧ (vbe al (I17 0).toNat (I17 4) (2 ^ (I17 0).toNat)).2.1 = I17 1 ∧ (vbe al (I17 0).toNat (I17 4) (2 ^ (I17 0).toNat)).1 = I17 2 ∧ (vbe al (I17 0).toNat (I17 4) (2 ^ (I17 0).toNat)).2.2 = I17 3)
-- plans: page, three that lie (5: none), heat, tray (4: none), whether a stop is right ahead
abbrev PS : Type := Nat × Nat × Nat × Nat × Nat × Nat × Nat
def pln (al : Nat → Int) (a : Nat) : Nat := if a = 5 then 5 else if (a : Int) < al 25 then a + 1 else (al 25).toNat
def pli (a b c : Nat) : Nat := (if a = 5 then 0 else 1) + (if b = 5 then 0 else 1) + (if c = 5 then 0 else 1)
def pst (al : Nat → Int) : PS → Nat → Option PS
  | (pg, a, b, c, h, t, s), act =>
    if act = 0 then some (pg, pln al a, pln al b, pln al c, min 30 (h + (al 29).toNat), t, 1)
    else if (h : Int) < al 27 then none
    else if act = 1 then (if a ≠ 5 ∧ al 25 ≤ (a : Int) then some (pg, pln al b, pln al c, 5, h - (al 28).toNat, t, 0) else none)
    else if act < 6 ∧ (pg : Int) < al 31 ∧ al (20 + (act - 2)) ≠ 0 ∧ al (16 + (act - 2)) = al pg ∧ (t = 4 ∨ t = act - 2 ∨ s = 1) then
      (if al (8 + pg) = 1 then (if pli a b c = 0 then some (pg + 1, 5, 5, 5, h - (al 28).toNat, act - 2, 0) else none)
      else if (pli a b c : Int) < al 24 then some (pg + 1, (if pli a b c = 0 then 0 else pln al a), (if pli a b c = 1 then 0 else pln al b), (if pli a b c = 2 then 0 else pln al c), h - (al 28).toNat, act - 2, 0) else none)
    else none
def pac (al : Nat → Int) : PS → Bool
  | (pg, a, b, c, _) => decide ((pg : Int) = al 31 ∧ a = 5 ∧ b = 5 ∧ c = 5)
def p0 (al : Nat → Int) : PS := (0, 5, 5, 5, (al 26).toNat, 4, 0)
section BFS
variable {σ : Type}
/-- a word run from a state -/
def wrun (step : σ → Nat → Option σ) : σ → List Nat → Option σ
  | s, [] => some s
  | s, a :: w => (step s a).bind fun s' => wrun step s' w
def wacc (step : σ → Nat → Option σ) (ac : σ → Bool) (s : σ) (w : List Nat) : Prop := ∃ t, wrun step s w = some t ∧ ac t = true
/-- shorter, or as long and not behind -/
def wle : List Nat → List Nat → Prop
  | v, w => v.length < w.length ∨ (v.length = w.length ∧ (v = w ∨ List.Lex (· < ·) v w))
end BFS
def PlanIs (al : Nat → Int) (slots : Int) (acts : Nat → Int) : Prop :=
  (slots = -1 ∧ ∀ w, ¬ wacc (pst al) (pac al) (p0 al) w) ∨
  ∃ w, wacc (pst al) (pac al) (p0 al) w ∧ (∀ v, wacc (pst al) (pac al) (p0 al) v → wle w v) ∧ slots = (w.length : Int) ∧ ∀ k (h : k < w.length), acts k = (w[k] : Int)
def InvP (I14 : Nat → Int) (A14 : Nat → Nat → Int) (al : Nat → Int) : Prop := I14 0 = 0 ∨ (I14 0 = 1 ∧ PlanIs al (I14 1) (A14 3))
-- a sheet alone: drive of the first r rollers, bound of the first c corners, a tick, so many ticks
def sgD (wy ro sp wear beat : Nat → Int) (top low t : Int) : Nat → Int
  | 0 => 0
  | r + 1 => if 10 * ro r ≤ low ∨ top < 10 * ro r ∨ (beat r ≠ 0 ∧ t % beat r = 0) then sgD wy ro sp wear beat top low t r else max (sgD wy ro sp wear beat top low t r) (10 * sp r * (1000 - wear r - wy 5) / 1000)
def sgB (cor : Nat → Int) (top to : Int) : Nat → Int
  | 0 => to
  | c + 1 => if top ≤ 10 * cor c ∧ 10 * cor c < sgB cor top to c then 10 * cor c else sgB cor top to c
def sgT (wy ro sp wear beat cor : Nat → Int) (many : Nat) (its t : Int) (q : Int × Int) : Int × Int :=
  let to := sgB cor q.1 (q.1 + sgD wy ro sp wear beat q.1 (q.1 - 10 * its) t (wy 6).toNat) many
  if q.1 < to then (to, 0) else (q.1, q.2 + 1)
def sgS (wy ro sp wear beat cor : Nat → Int) (many : Nat) (its : Int) : Nat → Int × Int
  | 0 => (10 * ro 0, 0)
  | t + 1 => sgT wy ro sp wear beat cor many its ((t : Int) + 1) (sgS wy ro sp wear beat cor many its t)
-- what causes a, b do
def cwe (a b : Int) (r : Nat) : Int := if a = 10 + (r : Int) ∨ b = 10 + (r : Int) then 500 else if a = (r : Int) ∨ b = (r : Int) then 200 else 0
def cbe (a b : Int) (r : Nat) : Int := if a = 20 + (r : Int) ∨ b = 20 + (r : Int) then 3 else 0
def cma (a b : Int) : Nat := (if 50 ≤ a then 1 else 0) + (if 50 ≤ b then 1 else 0)
def cco (ey : Nat → Int) (a b : Int) (c : Nat) : Int := if 50 ≤ a ∧ c = 0 then ey (a - 50).toNat + 2 else ey (b - 50).toNat + 2
def cle (a b len : Int) : Int := if a = 49 ∨ b = 49 then len + 10 else len
def cSg (wy ro sp ey : Nat → Int) (a b len : Int) (t : Nat) : Int × Int := sgS wy ro sp (cwe a b) (cbe a b) (cco ey a b) (cma a b) (cle a b len) t
/-- out at a tick; the trial goes on over it -/
def cOut (wy ro sp ey : Nat → Int) (a b len : Int) (t : Nat) : Prop := 10 * wy 0 ≤ (cSg wy ro sp ey a b len t).1 - 10 * cle a b len
def cVis (wy ro sp ey : Nat → Int) (a b len : Int) (e t : Nat) : Prop :=
  ¬ cOut wy ro sp ey a b len t ∧ (cSg wy ro sp ey a b len t).1 - 10 * cle a b len < 10 * ey e ∧ 10 * ey e ≤ (cSg wy ro sp ey a b len t).1
/-- ticks 1 to t + 1 are looked at: none of 1 to t was its jam -/
def cGo (wy ro sp ey : Nat → Int) (a b len : Int) (t : Nat) : Prop := ∀ u, 1 ≤ u → u ≤ t → cOut wy ro sp ey a b len u ∨ (cSg wy ro sp ey a b len u).2 < 5
def cDue (on off : Int) (t : Nat) : Prop := on ≠ -1 ∧ on ≤ (t : Int) ∧ (off = -1 ∨ (t : Int) < off)
def cBl (a b : Int) (e : Nat) : Prop := a = 30 + (e : Int) ∨ b = 30 + (e : Int)
def Expl (wy ro sp ey seen on off : Nat → Int) (len a b : Int) : Prop :=
  ∀ e : Nat, (e : Int) < wy 7 → seen e ≠ 0 →
    (∀ t : Nat, 1 ≤ t → t ≤ 120 → cGo wy ro sp ey a b len (t - 1) → (cDue (on e) (off e) t ↔ (¬ cBl a b e ∧ cVis wy ro sp ey a b len e t))) ∧
    (∀ t : Nat, 1 ≤ t → t ≤ 120 → cGo wy ro sp ey a b len (t - 1) → ¬ cGo wy ro sp ey a b len t → on e ≤ (t : Int) ∧ off e ≤ (t : Int))
def cIs (wy ey : Nat → Int) (c : Nat) : Prop := if c < 30 then ((c % 10 : Nat) : Int) < wy 6 else if c < 49 then ((c - 30 : Nat) : Int) < wy 7 else c = 49 ∨ (((c - 50 : Nat) : Int) < wy 7 ∧ ey (c - 50) + 2 ≤ wy 0)
def CauseIs (wy ro sp ey seen on off : Nat → Int) (len found first second : Int) : Prop :=
  (found = 0 ∧ Expl wy ro sp ey seen on off len (-1) (-1)) ∨
  (¬ Expl wy ro sp ey seen on off len (-1) (-1) ∧
    ((found = 1 ∧ ∃ a : Nat, a < 69 ∧ first = (a : Int) ∧ cIs wy ey a ∧ Expl wy ro sp ey seen on off len a (-1) ∧ ∀ c : Nat, c < a → cIs wy ey c → ¬ Expl wy ro sp ey seen on off len c (-1)) ∨
    ((∀ c : Nat, c < 69 → cIs wy ey c → ¬ Expl wy ro sp ey seen on off len c (-1)) ∧
      ((found = 2 ∧ ∃ a b : Nat, a < b ∧ b < 69 ∧ first = (a : Int) ∧ second = (b : Int) ∧ cIs wy ey a ∧ cIs wy ey b ∧ Expl wy ro sp ey seen on off len a b ∧ ∀ c d : Nat, c < d → d < 69 → (c < a ∨ (c = a ∧ d < b)) → cIs wy ey c → cIs wy ey d → ¬ Expl wy ro sp ey seen on off len c d) ∨
      (found = -1 ∧ ∀ c d : Nat, c < d → d < 69 → cIs wy ey c → cIs wy ey d → ¬ Expl wy ro sp ey seen on off len c d)))))
def InvC (I10 : Nat → Int) (wy ro sp ey seen on off : Nat → Int) : Prop :=
  I10 10 = -1 ∨ ((10 ≤ I10 10 ∧ I10 10 ≤ 60) ∧ 0 < wy 6 ∧ CauseIs wy ro sp ey seen on off (I10 10) (I10 1) (I10 2) (I10 3))
/-- all of it, behind n calls -/
def Inv (n : Nat) (S : ZS) : Prop :=
  InvT (S.1 3) (S.2 3) (S.1 1 2) (S.2 1 2) (S.1 1 21) (S.1 1 22) ∧
  InvW (S.1 2) (S.1 19) (S.1 20) (S.2 19) (S.2 20) (S.2 1 4) (S.2 1 6) (S.2 1 7) (S.2 1 10) ∧
  InvF (S.1 4) (S.2 4) (S.2 1 4 0) (S.2 1 24) (S.2 1 25) (S.2 1 26) (S.1 1 26) ∧
  InvX n (S.1 2 11) (S.1 6) (S.2 6) (S.2 7) (S.2 1 4) (S.2 1 6) (S.1 1 27) (S.1 1 28) (S.1 1 29) (S.2 1 31) (S.2 1 32) (S.2 1 33) (S.2 1 34) (S.2 1 35) (S.2 1 36) (S.2 1 37) (S.2 1 39) (S.2 1 40) (S.2 1 41) (S.2 1 42) (S.2 1 43) ∧
  InvO (S.1 10) (S.2 10) (S.2 1 4 7) (S.2 1 38) (S.2 1 44) (S.2 1 45) ∧
  InvC (S.1 10) (S.2 1 4) (S.2 1 6) (S.2 1 7) (S.2 1 10) (S.2 1 38) (S.2 1 44) (S.2 1 45) ∧
  JobR (S.1 11) (S.2 11) (S.2 1 55) ∧ InvI (S.2 2) (S.1 12) (S.1 13) (S.2 12) (S.2 13) (S.2 1 55) (S.2 1 56) ∧
  InvP (S.1 14) (S.2 14) (S.2 1 55) ∧ InvK (S.1 16) (S.2 16) (S.2 1 55) ∧ InvR (S.1 17) (S.2 1 55) ∧ InvM (S.2 18) (S.2 1 67) (S.2 1 68) (S.2 1 69)
/-- what the law asks of a pair of calls: like answers, the script as it was, the pictures hold -/
def Pair (n : Nat) (S : ZS) (fx fm : ZS → Option (Int × ZS)) : Prop := zp (fx S) fun v => v.2.2 0 = S.2 0 ∧ zp (fm v.2) fun u => u.1 = v.1 ∧ u.2.2 0 = S.2 0 ∧ Inv (n + 1) u.2
def PairI (n : Nat) (S : ZS) (fx : ZS → Option Int) (fm : ZS → Option (Int × ZS)) : Prop := zp (fx S) fun v => zp (fm S) fun u => u.1 = v ∧ u.2.2 0 = S.2 0 ∧ Inv (n + 1) u.2
