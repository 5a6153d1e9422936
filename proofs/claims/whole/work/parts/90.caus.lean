/-! causes: what a trial decides, what can't matter, what isn't worth trying -/
section CAUS
variable {wy ro sp ey seen on off : Nat → Int} {len a b a' b' x : Int} {t u : Nat}
abbrev cE (wy ro sp ey : Nat → Int) (a b len : Int) (t : Nat) : Bool := alE wy ro sp (cwe a b) (cbe a b) (cco ey a b) (cma a b) (cle a b len) t
theorem cE_t : cE wy ro sp ey a b len t = true ↔ cOut wy ro sp ey a b len t ∨ 5 ≤ (cSg wy ro sp ey a b len t).2 := decide_eq_true_iff
theorem cE_f : cE wy ro sp ey a b len t = false ↔ ¬ (cOut wy ro sp ey a b len t ∨ 5 ≤ (cSg wy ro sp ey a b len t).2) := decide_eq_false_iff_not
def cSeen (wy ro sp ey seen on off : Nat → Int) (len a b : Int) (t : Nat) : Prop := ∀ e : Nat, (e : Int) < wy 7 → seen e ≠ 0 → (cDue (on e) (off e) t ↔ (¬ cBl a b e ∧ cVis wy ro sp ey a b len e t))
def cAll (wy seen on off : Nat → Int) (t : Nat) : Prop := ∀ e : Nat, (e : Int) < wy 7 → seen e ≠ 0 → on e ≤ (t : Int) ∧ off e ≤ (t : Int)
def RefAt (wy ro sp ey seen on off : Nat → Int) (len a b : Int) (t : Nat) : Prop := (1 ≤ t ∧ t ≤ 120) ∧ (∀ u, 1 ≤ u → u < t → cE wy ro sp ey a b len u = false) ∧ (¬ cSeen wy ro sp ey seen on off len a b t ∨ (cE wy ro sp ey a b len t = true ∧ ¬ cAll wy seen on off t))
def AccAt (wy ro sp ey seen on off : Nat → Int) (len a b : Int) : Prop := (∃ t, (1 ≤ t ∧ t ≤ 120) ∧ (∀ u, 1 ≤ u → u < t → cE wy ro sp ey a b len u = false) ∧ (∀ u, 1 ≤ u → u ≤ t → cSeen wy ro sp ey seen on off len a b u) ∧ cE wy ro sp ey a b len t = true ∧ cAll wy seen on off t) ∨
  (∀ u, 1 ≤ u → u ≤ 120 → cE wy ro sp ey a b len u = false ∧ cSeen wy ro sp ey seen on off len a b u)
theorem cSg_s (t : Nat) : cSg wy ro sp ey a b len (t + 1) = sgT wy ro sp (cwe a b) (cbe a b) (cco ey a b) (cma a b) (cle a b len) ((t : Int) + 1) (cSg wy ro sp ey a b len t) := rfl
theorem DrOK_c {wear beat : Nat → Int} (H : DrOK wy ro sp wear beat) : DrOK wy ro sp (cwe a b) (cbe a b) := by
  obtain ⟨H1, H2, H3⟩ := H
  refine ⟨H1, H2, fun r hr => ⟨(H3 r hr).1, (H3 r hr).2.1, ?_, ?_⟩⟩
  · unfold cwe
    split
    · omega
    · split <;> omega
  · unfold cbe
    split <;> omega
def cOk (ey : Nat → Int) (x : Int) : Prop := 50 ≤ x → 1 ≤ ey (x - 50).toNat ∧ ey (x - 50).toNat ≤ 300
theorem CoOK_c (ha : cOk ey a) (hb : cOk ey b) : CoOK (cco ey a b) (cma a b) := by
  unfold cOk at ha hb
  refine ⟨?_, fun c hc => ?_⟩
  · unfold cma
    split <;> split <;> omega
  · unfold cco
    unfold cma at hc
    by_cases h1 : 50 ≤ a ∧ c = 0
    · rw [if_pos h1]
      have := ha h1.1
      omega
    · rw [if_neg h1]
      by_cases h2 : 50 ≤ b
      · have := hb h2
        omega
      · rw [if_neg h2] at hc
        split at hc
        · rename_i h3
          exact absurd ⟨h3, by omega⟩ h1
        · omega
theorem cSg_mono1 (H : DrOK wy ro sp (cwe a b) (cbe a b)) : (cSg wy ro sp ey a b len t).1 ≤ (cSg wy ro sp ey a b len (t + 1)).1 := by
  rw [cSg_s]
  exact (sgT_b (cor := cco ey a b) (many := cma a b) (its := cle a b len) (t := (t : Int) + 1) H _).1
theorem cSg_mono (H : DrOK wy ro sp (cwe a b) (cbe a b)) : ∀ d : Nat, (cSg wy ro sp ey a b len t).1 ≤ (cSg wy ro sp ey a b len (t + d)).1
  | 0 => Int.le_refl _
  | d + 1 => Int.le_trans (cSg_mono H d) (cSg_mono1 H)
theorem cSg_mn (H : DrOK wy ro sp (cwe a b) (cbe a b)) (h : u ≤ t) : (cSg wy ro sp ey a b len u).1 ≤ (cSg wy ro sp ey a b len t).1 := by
  have := cSg_mono (ey := ey) (len := len) (t := u) H (t - u)
  rwa [show u + (t - u) = t by omega] at this
theorem cOut_mn (H : DrOK wy ro sp (cwe a b) (cbe a b)) (h : u ≤ t) (ho : cOut wy ro sp ey a b len u) : cOut wy ro sp ey a b len t := by
  have := cSg_mn (ey := ey) (len := len) H h
  unfold cOut at ho ⊢
  omega
theorem Ref_no (H : DrOK wy ro sp (cwe a b) (cbe a b)) (OB : ∀ e : Nat, (e : Int) < wy 7 → seen e ≠ 0 → ObsOK (on e) (off e)) (h : RefAt wy ro sp ey seen on off len a b t) : ¬ Expl wy ro sp ey seen on off len a b := by
  intro hx
  obtain ⟨⟨h1, h2⟩, h3, h4⟩ := h
  have hgo : cGo wy ro sp ey a b len (t - 1) := fun u hu1 hu2 => by
    have := cE_f.mp (h3 u hu1 (by omega))
    exact Or.inr (by omega)
  rcases h4 with h4 | ⟨h4, h5⟩
  · exact h4 (fun e he hs => (hx e he hs).1 t h1 h2 hgo)
  · apply h5
    intro e he hs
    obtain ⟨x1, x2⟩ := hx e he hs
    by_cases ho : cOut wy ro sp ey a b len t
    · have key : ∀ u, t ≤ u → u ≤ 120 → ¬ cDue (on e) (off e) u := by
        intro u hu1 hu2 hd
        have hg : cGo wy ro sp ey a b len (u - 1) := fun v hv1 hv2 => by
          by_cases hv : v < t
          · have := cE_f.mp (h3 v hv1 hv)
            exact Or.inr (by omega)
          · exact Or.inl (cOut_mn H (by omega) ho)
        exact ((x1 u (by omega) hu2 hg).mp hd).2.1 (cOut_mn H hu1 ho)
      rcases OB e he hs with ⟨o1, o2⟩ | ⟨⟨o1, o2⟩, o3⟩
      · omega
      · have hon : on e ≤ (t : Int) := by
          rcases Int.lt_or_le (t : Int) (on e) with z | z
          · exact absurd ⟨by omega, by omega, by omega⟩ (key (on e).toNat (by omega) (by omega))
          · exact z
        refine ⟨hon, ?_⟩
        rcases Int.lt_or_le (t : Int) (off e) with z | z
        · exact absurd ⟨by omega, hon, Or.inr z⟩ (key t (Nat.le_refl _) h2)
        · exact z
    · refine x2 t h1 h2 hgo (fun hg => ?_)
      have := cE_t.mp h4
      rcases hg t h1 (Nat.le_refl _) with z | z
      · exact ho z
      · rcases this with y | y
        · exact ho y
        · omega
theorem Acc_yes (H : DrOK wy ro sp (cwe a b) (cbe a b)) (h : AccAt wy ro sp ey seen on off len a b) : Expl wy ro sp ey seen on off len a b := by
  intro e he hs
  rcases h with ⟨t, ⟨h1, h2⟩, h3, h4, h5, h6⟩ | h
  · obtain ⟨y1, y2⟩ := h6 e he hs
    have hout : ∀ v, t ≤ v → cGo wy ro sp ey a b len v → cOut wy ro sp ey a b len t := by
      intro v hv hg
      rcases hg t h1 hv with z | z
      · exact z
      · rcases cE_t.mp h5 with y | y
        · exact y
        · omega
    refine ⟨fun u hu1 hu2 hg => ?_, fun u hu1 hu2 hg hn => ?_⟩
    · by_cases hu : u ≤ t
      · exact h4 u hu1 hu e he hs
      · have ho := hout (u - 1) (by omega) hg
        have hs4 := h4 t h1 (Nat.le_refl _) e he hs
        have hnd : ¬ cDue (on e) (off e) t := fun hd => (hs4.mp hd).2.1 ho
        refine ⟨fun hd => ?_, fun hv => absurd (cOut_mn H (by omega) ho) hv.2.1⟩
        obtain ⟨d1, d2, d3⟩ := hd
        refine absurd ⟨d1, y1, ?_⟩ hnd
        rcases d3 with d3 | d3
        · exact Or.inl d3
        · omega
    · have hj : ¬ (cOut wy ro sp ey a b len u ∨ (cSg wy ro sp ey a b len u).2 < 5) := fun z => hn (fun v hv1 hv2 => by
        by_cases e : v = u
        · rw [e]; exact z
        · exact hg v hv1 (by omega))
      by_cases hu : u < t
      · have := cE_f.mp (h3 u hu1 hu)
        exact absurd (Or.inr (by omega)) hj
      · by_cases e : u = t
        · rw [e]; exact ⟨y1, y2⟩
        · exact absurd (Or.inl (cOut_mn H (by omega) (hout (u - 1) (by omega) hg))) hj
  · refine ⟨fun u hu1 hu2 _ => (h u hu1 hu2).2 e he hs, fun u hu1 hu2 _ hn => ?_⟩
    refine absurd (fun v hv1 hv2 => ?_) hn
    have := cE_f.mp (h v hv1 (by omega)).1
    exact Or.inr (by omega)
-- trials that go the same way
theorem sgD_far {wear' beat' wear beat : Nat → Int} {top low t : Int} : ∀ r : Nat, (∀ i, i < r → (wear' i = wear i ∧ beat' i = beat i) ∨ top < 10 * ro i) → sgD wy ro sp wear' beat' top low t r = sgD wy ro sp wear beat top low t r
  | 0, _ => rfl
  | r + 1, h => by
    rw [sgD_s, sgD_s, sgD_far r (fun i hi => h i (by omega))]
    rcases h r (by omega) with ⟨h1, h2⟩ | h1
    · rw [h1, h2]
    · rw [if_pos (Or.inr (Or.inl h1)), if_pos (Or.inr (Or.inl h1))]
theorem cSg_same {h : Int} (H : DrOK wy ro sp (cwe a b) (cbe a b)) (hle : cle a' b' len = cle a b len) (hw : ∀ r : Nat, (r : Int) < wy 6 → (cwe a' b' r = cwe a b r ∧ cbe a' b' r = cbe a b r) ∨ h < 10 * ro r)
    (hb : ∀ top to, sgB (cco ey a b) top to (cma a b) ≤ h → sgB (cco ey a' b') top to (cma a' b') = sgB (cco ey a b) top to (cma a b)) : ∀ t, (cSg wy ro sp ey a b len t).1 ≤ h → cSg wy ro sp ey a' b' len t = cSg wy ro sp ey a b len t
  | 0, _ => rfl
  | t + 1, ht => by
    have h1 := cSg_mono1 (ey := ey) (len := len) (t := t) H
    have ih := cSg_same (h := h) H hle hw hb t (by omega)
    rw [cSg_s] at ht h1
    rw [cSg_s, cSg_s, ih, hle]
    have h6 := H.1.1
    unfold sgT at ht h1 ⊢
    dsimp only at ht h1 ⊢
    rw [sgD_far (wear' := cwe a' b') (beat' := cbe a' b') (wear := cwe a b) (beat := cbe a b) (wy 6).toNat (fun i hi => by
      rcases hw i (by omega) with z | z
      · exact Or.inl z
      · refine Or.inr ?_
        split at h1 <;> split at ht <;> omega)]
    rw [hb]
    split at ht
    · exact ht
    · omega
theorem Ref_same (H : DrOK wy ro sp (cwe a b) (cbe a b)) (hle : cle a' b' len = cle a b len) (hw : ∀ r : Nat, (r : Int) < wy 6 → (cwe a' b' r = cwe a b r ∧ cbe a' b' r = cbe a b r) ∨ (cSg wy ro sp ey a b len t).1 < 10 * ro r)
    (hb : ∀ top to, sgB (cco ey a b) top to (cma a b) ≤ (cSg wy ro sp ey a b len t).1 → sgB (cco ey a' b') top to (cma a' b') = sgB (cco ey a b) top to (cma a b))
    (hl : ∀ e : Nat, (e : Int) < wy 7 → (cBl a' b' e ↔ cBl a b e) ∨ (cSg wy ro sp ey a b len t).1 < 10 * ey e) (h : RefAt wy ro sp ey seen on off len a b t) :
    RefAt wy ro sp ey seen on off len a' b' t ∧ (cSg wy ro sp ey a' b' len t).1 = (cSg wy ro sp ey a b len t).1 := by
  have key := fun u (hu : u ≤ t) => cSg_same (h := (cSg wy ro sp ey a b len t).1) H hle hw hb u (cSg_mn H hu)
  have hE : ∀ u, u ≤ t → cE wy ro sp ey a' b' len u = cE wy ro sp ey a b len u := by
    intro u hu
    show decide (10 * wy 0 ≤ (cSg wy ro sp ey a' b' len u).1 - 10 * cle a' b' len ∨ 5 ≤ (cSg wy ro sp ey a' b' len u).2) = decide (10 * wy 0 ≤ (cSg wy ro sp ey a b len u).1 - 10 * cle a b len ∨ 5 ≤ (cSg wy ro sp ey a b len u).2)
    rw [key u hu, hle]
  obtain ⟨h1, h2, h3⟩ := h
  refine ⟨⟨h1, fun u hu1 hu2 => by rw [hE u (by omega)]; exact h2 u hu1 hu2, ?_⟩, by rw [key t (Nat.le_refl _)]⟩
  rw [hE t (Nat.le_refl _)]
  rcases h3 with h3 | h3
  · refine Or.inl (fun hc => h3 (fun e he hs => ?_))
    have := hc e he hs
    have hv : cVis wy ro sp ey a' b' len e t ↔ cVis wy ro sp ey a b len e t := by
      unfold cVis cOut
      rw [key t (Nat.le_refl _), hle]
    rw [hv] at this
    rcases hl e he with z | z
    · rw [z] at this
      exact this
    · have hnv : ¬ cVis wy ro sp ey a b len e t := fun y => by
        have := y.2.2
        omega
      refine this.trans ⟨fun y => absurd y.2 hnv, fun y => absurd y.2 hnv⟩
  · exact Or.inr h3
/-- what can't matter where the head came to h -/
def cCant (ro ey : Nat → Int) (x h : Int) : Prop := (0 ≤ x ∧ x < 30 ∧ h < 10 * ro (x % 10).toNat) ∨ (30 ≤ x ∧ x < 49 ∧ h < 10 * ey (x - 30).toNat) ∨ (50 ≤ x ∧ h ≤ 10 * (ey (x - 50).toNat + 2))
theorem cma_b (hx : x < 50) : cma a x = cma a (-1) := by
  unfold cma
  rw [if_neg (show ¬ 50 ≤ x by omega), if_neg (show ¬ 50 ≤ (-1 : Int) by omega)]
theorem cma_l (hx : x < 50) : cma x b = cma b (-1) := by
  unfold cma
  rw [if_neg (show ¬ 50 ≤ x by omega), if_neg (show ¬ 50 ≤ (-1 : Int) by omega)]
  omega
theorem sgB_R (hx : x < 50) (top to : Int) : sgB (cco ey a x) top to (cma a x) = sgB (cco ey a (-1)) top to (cma a (-1)) := by
  rw [cma_b hx]
  refine sgB_cong _ (fun c hc => ?_)
  unfold cma at hc
  rw [if_neg (show ¬ 50 ≤ (-1 : Int) by omega)] at hc
  split at hc
  · rename_i h
    unfold cco
    rw [if_pos ⟨h, by omega⟩, if_pos ⟨h, by omega⟩]
  · omega
theorem sgB_L (hx : x < 50) (top to : Int) : sgB (cco ey x b) top to (cma x b) = sgB (cco ey b (-1)) top to (cma b (-1)) := by
  rw [cma_l hx]
  refine sgB_cong _ (fun c hc => ?_)
  unfold cma at hc
  rw [if_neg (show ¬ 50 ≤ (-1 : Int) by omega)] at hc
  split at hc
  · rename_i h
    unfold cco
    rw [if_neg (fun z => absurd z.1 (by omega)), if_pos ⟨h, by omega⟩]
  · omega
theorem cle_R (hx : x ≠ 49) : cle a x len = cle a (-1) len := by
  unfold cle
  split <;> split <;> first | rfl | (exfalso; omega)
theorem cle_L (hx : x ≠ 49) : cle x b len = cle b (-1) len := by
  unfold cle
  split <;> split <;> first | rfl | (exfalso; omega)
theorem cw_R {r : Nat} (h0 : 0 ≤ x) (hr : r < 10) (hx : ¬ (x < 30 ∧ x % 10 = (r : Int))) : cwe a x r = cwe a (-1) r ∧ cbe a x r = cbe a (-1) r := by
  have e1 : x ≠ 10 + (r : Int) := by omega
  have e2 : x ≠ (r : Int) := by omega
  have e3 : x ≠ 20 + (r : Int) := by omega
  have e4 : (-1 : Int) ≠ 10 + (r : Int) := by omega
  have e5 : (-1 : Int) ≠ (r : Int) := by omega
  have e6 : (-1 : Int) ≠ 20 + (r : Int) := by omega
  unfold cwe cbe
  simp only [e1, e2, e3, e4, e5, e6, or_false, and_self]
theorem cw_L {r : Nat} (h0 : 0 ≤ x) (hr : r < 10) (hx : ¬ (x < 30 ∧ x % 10 = (r : Int))) : cwe x b r = cwe b (-1) r ∧ cbe x b r = cbe b (-1) r := by
  have e1 : x ≠ 10 + (r : Int) := by omega
  have e2 : x ≠ (r : Int) := by omega
  have e3 : x ≠ 20 + (r : Int) := by omega
  have e4 : (-1 : Int) ≠ 10 + (r : Int) := by omega
  have e5 : (-1 : Int) ≠ (r : Int) := by omega
  have e6 : (-1 : Int) ≠ 20 + (r : Int) := by omega
  unfold cwe cbe
  simp only [e1, e2, e3, e4, e5, e6, or_false, false_or, and_self]
theorem cant_r {r : Nat} {h : Int} (hc : cCant ro ey x h) (hr : r < 10) (hx : x < 30 ∧ x % 10 = (r : Int)) : h < 10 * ro r := by
  rcases hc with ⟨c0, c1, c2⟩ | ⟨c0, c1, c2⟩ | ⟨c0, c2⟩
  · rw [show (x % 10).toNat = r by omega] at c2
    exact c2
  · omega
  · omega
theorem add_R (h7 : wy 7 ≤ 19) (H : DrOK wy ro sp (cwe a (-1)) (cbe a (-1))) (hc : cCant ro ey x (cSg wy ro sp ey a (-1) len t).1) (h : RefAt wy ro sp ey seen on off len a (-1) t) :
    RefAt wy ro sp ey seen on off len a x t ∧ (cSg wy ro sp ey a x len t).1 = (cSg wy ro sp ey a (-1) len t).1 := by
  have h6 := H.1
  have hx0 : 0 ≤ x ∧ x ≠ 49 := by
    rcases hc with ⟨c0, c1, c2⟩ | ⟨c0, c1, c2⟩ | ⟨c0, c2⟩ <;> omega
  refine Ref_same H (cle_R hx0.2) (fun r hr => ?_) (fun top to hto => ?_) (fun e he => ?_) h
  · by_cases e : x < 30 ∧ x % 10 = (r : Int)
    · exact Or.inr (cant_r hc (by omega) e)
    · exact Or.inl (cw_R hx0.1 (by omega) e)
  · by_cases hx : x < 50
    · exact sgB_R hx top to
    · rcases hc with ⟨c0, c1, c2⟩ | ⟨c0, c1, c2⟩ | ⟨c0, c2⟩
      · omega
      · omega
      · generalize (cSg wy ro sp ey a (-1) len t).1 = hh at c2 hto
        by_cases ha : 50 ≤ a
        · have e1 : cma a (-1) = 1 := by unfold cma; rw [if_pos ha, if_neg (by omega)]
          have e2 : cma a x = 2 := by unfold cma; rw [if_pos ha, if_pos c0]
          have e3 : sgB (cco ey a x) top to 1 = sgB (cco ey a (-1)) top to 1 := sgB_cong 1 (fun c hc => by unfold cco; rw [if_pos ⟨ha, by omega⟩, if_pos ⟨ha, by omega⟩])
          have e4 : cco ey a x 1 = ey (x - 50).toNat + 2 := by unfold cco; rw [if_neg (fun z => absurd z.2 (by decide))]
          rw [e1] at hto ⊢
          rw [e2, sgB_s, e3, e4, if_neg (by omega)]
        · have e1 : cma a (-1) = 0 := by unfold cma; rw [if_neg ha, if_neg (by omega)]
          have e2 : cma a x = 1 := by unfold cma; rw [if_neg ha, if_pos c0]
          have e4 : cco ey a x 0 = ey (x - 50).toNat + 2 := by unfold cco; rw [if_neg (fun z => ha z.1)]
          rw [e1] at hto ⊢
          have e5 : sgB (cco ey a (-1)) top to 0 = to := rfl
          have e6 : sgB (cco ey a x) top to 0 = to := rfl
          rw [e5] at hto ⊢
          rw [e2, sgB_s, e6, e4, if_neg (by omega)]
  · by_cases hx : x = 30 + (e : Int)
    · refine Or.inr ?_
      rcases hc with ⟨c0, c1, c2⟩ | ⟨c0, c1, c2⟩ | ⟨c0, c2⟩
      · omega
      · rwa [show (x - 30).toNat = e by omega] at c2
      · omega
    · refine Or.inl ?_
      unfold cBl
      omega
theorem add_L (h7 : wy 7 ≤ 19) (H : DrOK wy ro sp (cwe b (-1)) (cbe b (-1))) (hc : cCant ro ey x (cSg wy ro sp ey b (-1) len t).1) (h : RefAt wy ro sp ey seen on off len b (-1) t) :
    RefAt wy ro sp ey seen on off len x b t ∧ (cSg wy ro sp ey x b len t).1 = (cSg wy ro sp ey b (-1) len t).1 := by
  have h6 := H.1
  have hx0 : 0 ≤ x ∧ x ≠ 49 := by
    rcases hc with ⟨c0, c1, c2⟩ | ⟨c0, c1, c2⟩ | ⟨c0, c2⟩ <;> omega
  refine Ref_same H (cle_L hx0.2) (fun r hr => ?_) (fun top to hto => ?_) (fun e he => ?_) h
  · by_cases e : x < 30 ∧ x % 10 = (r : Int)
    · exact Or.inr (cant_r hc (by omega) e)
    · exact Or.inl (cw_L hx0.1 (by omega) e)
  · by_cases hx : x < 50
    · exact sgB_L hx top to
    · rcases hc with ⟨c0, c1, c2⟩ | ⟨c0, c1, c2⟩ | ⟨c0, c2⟩
      · omega
      · omega
      · generalize (cSg wy ro sp ey b (-1) len t).1 = hh at c2 hto
        have e6 : ∀ c : Nat → Int, sgB c top to 0 = to := fun c => rfl
        have e7 : cco ey x b 0 = ey (x - 50).toNat + 2 := by unfold cco; rw [if_pos ⟨c0, rfl⟩]
        by_cases hb : 50 ≤ b
        · have e1 : cma b (-1) = 1 := by unfold cma; rw [if_pos hb, if_neg (by omega)]
          have e2 : cma x b = 2 := by unfold cma; rw [if_pos c0, if_pos hb]
          have e3 : cco ey b (-1) 0 = ey (b - 50).toNat + 2 := by unfold cco; rw [if_pos ⟨hb, rfl⟩]
          have e4 : cco ey x b 1 = ey (b - 50).toNat + 2 := by unfold cco; rw [if_neg (fun z => absurd z.2 (by decide))]
          rw [e1, sgB_s, e6, e3] at hto
          rw [e1, e2, sgB_s, sgB_s, sgB_s, e6, e6, e3, e4, e7]
          generalize ey (b - 50).toNat + 2 = eb at *
          generalize ey (x - 50).toNat + 2 = ea at *
          clear h e3 e4 e7 e1 e2 e6
          (repeat' split at hto) <;> (repeat' split) <;> omega
        · have e1 : cma b (-1) = 0 := by unfold cma; rw [if_neg hb, if_neg (by omega)]
          have e2 : cma x b = 1 := by unfold cma; rw [if_pos c0, if_neg hb]
          rw [e1, e6] at hto
          rw [e1, e2, sgB_s, e6, e6, e7, if_neg (by omega)]
  · by_cases hx : x = 30 + (e : Int)
    · refine Or.inr ?_
      rcases hc with ⟨c0, c1, c2⟩ | ⟨c0, c1, c2⟩ | ⟨c0, c2⟩
      · omega
      · rwa [show (x - 30).toNat = e by omega] at c2
      · omega
    · refine Or.inl ?_
      unfold cBl
      omega
theorem Expl_same (H : DrOK wy ro sp (cwe a b) (cbe a b)) (hle : cle a' b' len = cle a b len) (hw : ∀ r : Nat, (r : Int) < wy 6 → (cwe a' b' r = cwe a b r ∧ cbe a' b' r = cbe a b r))
    (hb : ∀ top to, sgB (cco ey a' b') top to (cma a' b') = sgB (cco ey a b) top to (cma a b)) (hl : ∀ e : Nat, (e : Int) < wy 7 → seen e ≠ 0 → (cBl a' b' e ↔ cBl a b e)) :
    Expl wy ro sp ey seen on off len a' b' ↔ Expl wy ro sp ey seen on off len a b := by
  have key : ∀ t, cSg wy ro sp ey a' b' len t = cSg wy ro sp ey a b len t := fun t => cSg_same (h := (cSg wy ro sp ey a b len t).1) H hle (fun r hr => Or.inl (hw r hr)) (fun top to _ => hb top to) t (Int.le_refl _)
  have ho : ∀ t, cOut wy ro sp ey a' b' len t ↔ cOut wy ro sp ey a b len t := fun t => by unfold cOut; rw [key, hle]
  have hv : ∀ e t, cVis wy ro sp ey a' b' len e t ↔ cVis wy ro sp ey a b len e t := fun e t => by unfold cVis; rw [ho, key, hle]
  have hg : ∀ t, cGo wy ro sp ey a' b' len t ↔ cGo wy ro sp ey a b len t := fun t => by
    unfold cGo
    refine forall_congr' fun u => forall_congr' fun h1 => forall_congr' fun h2 => ?_
    rw [ho, key]
  unfold Expl
  refine forall_congr' fun e => forall_congr' fun he => forall_congr' fun hs => ?_
  simp only [hg, hv, hl e he hs]
theorem unw_R {e : Nat} (H : DrOK wy ro sp (cwe a (-1)) (cbe a (-1))) (hx : x = 30 + (e : Int)) (h19 : e < 19) (h0 : seen e = 0) : Expl wy ro sp ey seen on off len a x ↔ Expl wy ro sp ey seen on off len a (-1) := by
  have h6 := H.1
  refine Expl_same H (cle_R (by omega)) (fun r hr => cw_R (by omega) (by omega) (by omega)) (fun top to => sgB_R (by omega) top to) (fun e' he hs => ?_)
  have hne : e' ≠ e := fun z => hs (by rw [z]; exact h0)
  unfold cBl
  omega
theorem unw_L {e : Nat} (H : DrOK wy ro sp (cwe b (-1)) (cbe b (-1))) (hx : x = 30 + (e : Int)) (h19 : e < 19) (h0 : seen e = 0) : Expl wy ro sp ey seen on off len x b ↔ Expl wy ro sp ey seen on off len b (-1) := by
  have h6 := H.1
  refine Expl_same H (cle_L (by omega)) (fun r hr => cw_L (by omega) (by omega) (by omega)) (fun top to => sgB_L (by omega) top to) (fun e' he hs => ?_)
  have hne : e' ≠ e := fun z => hs (by rw [z]; exact h0)
  unfold cBl
  omega
theorem cGo_first : ∀ t, ¬ cGo wy ro sp ey a b len t → ∃ u, 1 ≤ u ∧ u ≤ t ∧ cGo wy ro sp ey a b len (u - 1) ∧ ¬ cGo wy ro sp ey a b len u
  | 0, h => absurd (fun u h1 h2 => absurd h1 (by omega)) h
  | t + 1, h => by
    by_cases hg : cGo wy ro sp ey a b len t
    · exact ⟨t + 1, by omega, by omega, hg, h⟩
    · obtain ⟨u, h1, h2, h3⟩ := cGo_first t hg
      exact ⟨u, h1, by omega, h3⟩
theorem unw_no {e : Nat} (he : (e : Int) < wy 7) (hs : seen e ≠ 0) (ho : on e ≠ -1) (OB : ObsOK (on e) (off e)) (hb : cBl a b e) : ¬ Expl wy ro sp ey seen on off len a b := by
  intro hx
  obtain ⟨x1, x2⟩ := hx e he hs
  rcases OB with ⟨o1, o2⟩ | ⟨⟨o1, o2⟩, o3⟩
  · exact ho o1
  · by_cases hg : cGo wy ro sp ey a b len ((on e).toNat - 1)
    · exact ((x1 (on e).toNat (by omega) (by omega) hg).mp ⟨ho, by omega, by omega⟩).1 hb
    · obtain ⟨u, h1, h2, h3, h4⟩ := cGo_first _ hg
      have := (x2 u h1 (by omega) h3 h4).1
      omega
end CAUS
