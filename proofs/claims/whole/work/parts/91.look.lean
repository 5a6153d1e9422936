/-! explain: the reference's look at a sheet alone -/
noncomputable def fOn (wy ro sp ey : Nat → Int) (a b len : Int) (e : Nat) : Nat → Int
  | 0 => -1
  | t + 1 => @ite Int (fOn wy ro sp ey a b len e t = -1 ∧ cVis wy ro sp ey a b len e (t + 1)) (Classical.propDecidable _) ((t : Int) + 1) (fOn wy ro sp ey a b len e t)
noncomputable def fOf (wy ro sp ey : Nat → Int) (a b len : Int) (e : Nat) : Nat → Int
  | 0 => -1
  | t + 1 => @ite Int (¬ cVis wy ro sp ey a b len e (t + 1) ∧ fOn wy ro sp ey a b len e t ≠ -1 ∧ fOf wy ro sp ey a b len e t = -1) (Classical.propDecidable _) ((t : Int) + 1) (fOf wy ro sp ey a b len e t)
section LOOK
variable {wy ro sp ey seen on off : Nat → Int} {len a b x : Int} {t u e T : Nat}
theorem vis_gap {p q u : Nat} (H : DrOK wy ro sp (cwe a b) (cbe a b)) (h1 : p ≤ q) (h2 : q ≤ u) (hp : cVis wy ro sp ey a b len e p) (hq : ¬ cVis wy ro sp ey a b len e q) : ¬ cVis wy ro sp ey a b len e u := by
  intro hu
  apply hq
  have m1 := cSg_mn (ey := ey) (len := len) H h1
  have m2 := cSg_mn (ey := ey) (len := len) H h2
  obtain ⟨p1, p2, p3⟩ := hp
  obtain ⟨u1, u2, u3⟩ := hu
  exact ⟨fun z => u1 (cOut_mn H h2 z), by omega, by omega⟩
theorem fo_inv (H : DrOK wy ro sp (cwe a b) (cbe a b)) : ∀ t, (fOn wy ro sp ey a b len e t = -1 ∧ fOf wy ro sp ey a b len e t = -1 ∧ ∀ u, 1 ≤ u → u ≤ t → ¬ cVis wy ro sp ey a b len e u) ∨
    (∃ p q : Nat, 1 ≤ p ∧ p ≤ t ∧ p < q ∧ fOn wy ro sp ey a b len e t = (p : Int) ∧ (∀ u, 1 ≤ u → u ≤ t → (cVis wy ro sp ey a b len e u ↔ p ≤ u ∧ u < q)) ∧ ((q = t + 1 ∧ fOf wy ro sp ey a b len e t = -1) ∨ (q ≤ t ∧ fOf wy ro sp ey a b len e t = (q : Int))))
  | 0 => Or.inl ⟨rfl, rfl, fun u h1 h2 => absurd h1 (by omega)⟩
  | t + 1 => by
    have en : fOn wy ro sp ey a b len e (t + 1) = @ite Int (fOn wy ro sp ey a b len e t = -1 ∧ cVis wy ro sp ey a b len e (t + 1)) (Classical.propDecidable _) ((t : Int) + 1) (fOn wy ro sp ey a b len e t) := rfl
    have ef : fOf wy ro sp ey a b len e (t + 1) = @ite Int (¬ cVis wy ro sp ey a b len e (t + 1) ∧ fOn wy ro sp ey a b len e t ≠ -1 ∧ fOf wy ro sp ey a b len e t = -1) (Classical.propDecidable _) ((t : Int) + 1) (fOf wy ro sp ey a b len e t) := rfl
    rw [en, ef]
    rcases fo_inv H t with ⟨h1, h2, h3⟩ | ⟨p, q, h1, h2, h3, h4, h5, h6⟩
    · by_cases v : cVis wy ro sp ey a b len e (t + 1)
      · refine Or.inr ⟨t + 1, t + 2, by omega, by omega, by omega, ?_, fun u hu1 hu2 => ?_, Or.inl ⟨rfl, ?_⟩⟩
        · rw [if_pos ⟨h1, v⟩]; rfl
        · by_cases e1 : u = t + 1
          · rw [e1]
            exact ⟨fun _ => ⟨by omega, by omega⟩, fun _ => v⟩
          · exact ⟨fun z => absurd z (h3 u hu1 (by omega)), fun z => absurd z.1 (by omega)⟩
        · rw [if_neg (fun z => z.1 v)]; exact h2
      · refine Or.inl ⟨?_, ?_, fun u hu1 hu2 => ?_⟩
        · rw [if_neg (fun z => v z.2)]; exact h1
        · rw [if_neg (fun z => z.2.1 h1)]; exact h2
        · by_cases e1 : u = t + 1
          · rw [e1]; exact v
          · exact h3 u hu1 (by omega)
    · have hn : fOn wy ro sp ey a b len e t ≠ -1 := by omega
      rw [if_neg (fun z => hn z.1)]
      rcases h6 with ⟨h6, h7⟩ | ⟨h6, h7⟩
      · by_cases v : cVis wy ro sp ey a b len e (t + 1)
        · rw [if_neg (fun z => z.1 v)]
          refine Or.inr ⟨p, t + 2, h1, by omega, by omega, h4, fun u hu1 hu2 => ?_, Or.inl ⟨rfl, h7⟩⟩
          by_cases e1 : u = t + 1
          · rw [e1]
            exact ⟨fun _ => ⟨by omega, by omega⟩, fun _ => v⟩
          · rw [h5 u hu1 (by omega)]
            omega
        · rw [if_pos ⟨v, hn, h7⟩]
          refine Or.inr ⟨p, t + 1, h1, by omega, by omega, h4, fun u hu1 hu2 => ?_, Or.inr ⟨by omega, rfl⟩⟩
          by_cases e1 : u = t + 1
          · rw [e1]
            exact ⟨fun z => absurd z v, fun z => absurd z.2 (by omega)⟩
          · rw [h5 u hu1 (by omega)]
            omega
      · rw [if_neg (fun z => absurd z.2.2 (by omega))]
        refine Or.inr ⟨p, q, h1, by omega, h3, h4, fun u hu1 hu2 => ?_, Or.inr ⟨by omega, h7⟩⟩
        by_cases e1 : u = t + 1
        · have v : ¬ cVis wy ro sp ey a b len e (t + 1) := vis_gap H (show p ≤ q by omega) (show q ≤ t + 1 by omega) ((h5 p h1 h2).mpr ⟨Nat.le_refl _, h3⟩) (fun z => by have := (h5 q (by omega) h6).mp z; omega)
          rw [e1]
          exact ⟨fun z => absurd z v, fun z => absurd z.2 (by omega)⟩
        · exact h5 u hu1 (by omega)
/-- what an eye is to have seen, and what it saw -/
theorem eye_eq {o f : Int} (H : DrOK wy ro sp (cwe a b) (cbe a b)) (hb : (o = -1 ∧ f = -1) ∨ ((1 ≤ o ∧ o ≤ (T : Int)) ∧ (f = -1 ∨ (o < f ∧ f ≤ (T : Int))))) :
    (∀ u, 1 ≤ u → u ≤ T → (cDue o f u ↔ cVis wy ro sp ey a b len e u)) ↔ (fOn wy ro sp ey a b len e T = o ∧ fOf wy ro sp ey a b len e T = f) := by
  rcases fo_inv (e := e) (ey := ey) (len := len) H T with ⟨h1, h2, h3⟩ | ⟨p, q, h1, h2, h3, h4, h5, h6⟩
  · rw [h1, h2]
    constructor
    · intro h
      rcases hb with ⟨b1, b2⟩ | ⟨⟨b1, b2⟩, b3⟩
      · exact ⟨b1.symm, b2.symm⟩
      · exact absurd ((h o.toNat (by omega) (by omega)).mp ⟨by omega, by omega, by omega⟩) (h3 o.toNat (by omega) (by omega))
    · intro ⟨e1, e2⟩ u hu1 hu2
      exact ⟨fun z => absurd e1.symm z.1, fun z => absurd z (h3 u hu1 hu2)⟩
  · rw [h4]
    constructor
    · intro h
      have d1 := (h p h1 h2).mpr ((h5 p h1 h2).mpr ⟨Nat.le_refl _, h3⟩)
      obtain ⟨d2, d3, d4⟩ := d1
      rcases hb with ⟨b1, b2⟩ | ⟨⟨b1, b2⟩, b3⟩
      · exact absurd b1 d2
      · have d5 := (h5 o.toNat (by omega) (by omega)).mp ((h o.toNat (by omega) (by omega)).mp ⟨by omega, by omega, by omega⟩)
        refine ⟨by omega, ?_⟩
        have d6 : f ≠ -1 → ¬ (p ≤ f.toNat ∧ f.toNat < q) := fun hf z => by
          have := (h f.toNat (by omega) (by omega)).mpr ((h5 f.toNat (by omega) (by omega)).mpr z)
          have := this.2.2
          omega
        rcases h6 with ⟨h6, h7⟩ | ⟨h6, h7⟩
        · rw [h7]
          rcases b3 with b3 | b3
          · exact b3.symm
          · exact absurd ⟨by omega, by omega⟩ (d6 (by omega))
        · rw [h7]
          have d7 : ¬ cDue o f q := fun z => by
            have := (h5 q (by omega) h6).mp ((h q (by omega) h6).mp z)
            omega
          have d8 : f ≠ -1 ∧ f ≤ (q : Int) := by
            refine ⟨fun z => d7 ⟨d2, by omega, Or.inl z⟩, ?_⟩
            rcases Int.lt_or_le (q : Int) f with z | z
            · exact absurd ⟨d2, by omega, Or.inr z⟩ d7
            · exact z
          have := d6 d8.1
          omega
    · intro ⟨e1, e2⟩ u hu1 hu2
      rw [h5 u hu1 hu2, ← e1, ← e2]
      unfold cDue
      rcases h6 with ⟨h6, h7⟩ | ⟨h6, h7⟩
      · rw [h7]; omega
      · rw [h7]; omega
theorem eye_no {o f : Int} (hb : (o = -1 ∧ f = -1) ∨ ((1 ≤ o ∧ o ≤ (T : Int)) ∧ (f = -1 ∨ (o < f ∧ f ≤ (T : Int))))) : (∀ u, 1 ≤ u → u ≤ T → ¬ cDue o f u) ↔ (-1 = o ∧ -1 = f) := by
  constructor
  · intro h
    rcases hb with ⟨b1, b2⟩ | ⟨⟨b1, b2⟩, b3⟩
    · exact ⟨b1.symm, b2.symm⟩
    · exact absurd ⟨by omega, by omega, by omega⟩ (h o.toNat (by omega) (by omega))
  · intro ⟨e1, e2⟩ u _ _ z
    exact z.1 e1.symm
def cJam (wy ro sp ey : Nat → Int) (a b len : Int) (u : Nat) : Prop := ¬ (cOut wy ro sp ey a b len u ∨ (cSg wy ro sp ey a b len u).2 < 5)
theorem Expl_T (H : DrOK wy ro sp (cwe a b) (cbe a b)) (OB : ∀ e : Nat, (e : Int) < wy 7 → seen e ≠ 0 → ObsOK (on e) (off e)) (hT : 1 ≤ T ∧ T ≤ 120) (hj : ∀ u, 1 ≤ u → u < T → ¬ cJam wy ro sp ey a b len u) (hJ : T = 120 ∨ cJam wy ro sp ey a b len T) :
    Expl wy ro sp ey seen on off len a b ↔ ∀ e : Nat, (e : Int) < wy 7 → seen e ≠ 0 → (cBl a b e ∧ -1 = on e ∧ -1 = off e) ∨ (¬ cBl a b e ∧ fOn wy ro sp ey a b len e T = on e ∧ fOf wy ro sp ey a b len e T = off e) := by
  have hgo : ∀ u, u < T → cGo wy ro sp ey a b len u := fun u hu v hv1 hv2 => Classical.byContradiction fun z => hj v hv1 (by omega) z
  unfold Expl
  refine forall_congr' fun e => forall_congr' fun he => forall_congr' fun hs => ?_
  have hO := OB e he hs
  constructor
  · intro ⟨x1, x2⟩
    have hbd : on e ≤ (T : Int) ∧ off e ≤ (T : Int) := by
      rcases hJ with z | z
      · rcases hO with y | y <;> omega
      · exact x2 T hT.1 hT.2 (hgo _ (by omega)) (fun hg => z (hg T hT.1 (Nat.le_refl _)))
    have hbb : (on e = -1 ∧ off e = -1) ∨ ((1 ≤ on e ∧ on e ≤ (T : Int)) ∧ (off e = -1 ∨ (on e < off e ∧ off e ≤ (T : Int)))) := by
      rcases hO with y | y <;> omega
    by_cases hbl : cBl a b e
    · refine Or.inl ⟨hbl, (eye_no hbb).mp (fun u h1 h2 z => ?_)⟩
      exact ((x1 u h1 (by omega) (hgo _ (by omega))).mp z).1 hbl
    · refine Or.inr ⟨hbl, (eye_eq (T := T) H hbb).mp (fun u h1 h2 => ?_)⟩
      rw [x1 u h1 (by omega) (hgo _ (by omega))]
      exact ⟨fun z => z.2, fun z => ⟨hbl, z⟩⟩
  · intro h
    have hle : ∀ u, 1 ≤ u → u ≤ 120 → cGo wy ro sp ey a b len (u - 1) → u ≤ T := by
      intro u h1 h2 hg
      rcases hJ with z | z
      · omega
      · rcases Nat.lt_or_ge T u with y | y
        · exact absurd (hg T hT.1 (by omega)) z
        · exact y
    have hlast : ∀ u, 1 ≤ u → u ≤ 120 → cGo wy ro sp ey a b len (u - 1) → ¬ cGo wy ro sp ey a b len u → u = T := by
      intro u h1 h2 hg hn
      have := hle u h1 h2 hg
      rcases Nat.lt_or_ge u T with y | y
      · exact absurd (hgo u y) hn
      · omega
    rcases h with ⟨h1, h2, h3⟩ | ⟨h1, h2, h3⟩
    · refine ⟨fun u hu1 hu2 hg => ⟨fun z => absurd h2.symm z.1, fun z => absurd h1 z.1⟩, fun u hu1 hu2 hg hn => by omega⟩
    · have hbb : (on e = -1 ∧ off e = -1) ∨ ((1 ≤ on e ∧ on e ≤ (T : Int)) ∧ (off e = -1 ∨ (on e < off e ∧ off e ≤ (T : Int)))) := by
        rw [← h2, ← h3]
        rcases fo_inv (e := e) (ey := ey) (len := len) H T with ⟨y1, y2, y3⟩ | ⟨p, q, y1, y2, y3, y4, y5, y6⟩ <;> omega
      have key := (eye_eq (T := T) H hbb).mpr ⟨h2, h3⟩
      refine ⟨fun u hu1 hu2 hg => ?_, fun u hu1 hu2 hg hn => ?_⟩
      · rw [key u hu1 (hle u hu1 hu2 hg)]
        exact ⟨fun z => ⟨h1, z⟩, fun z => z.2⟩
      · rw [hlast u hu1 hu2 hg hn]
        omega
end LOOK
