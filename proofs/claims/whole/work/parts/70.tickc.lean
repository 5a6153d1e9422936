/-! a tick: the moves one behind another, the class -/
/-- the picture of sheets, by the reference's numbers: 31 length, 32 head, 33 state, 34 side, 35 stood, 36 came, 37 turned; one sheet moved -/
def pmv (p : Nat → Nat → Int) (s : Nat) (h st state came : Int) : Nat → Nat → Int := fun o j => if j = s then (if o = 32 then h else if o = 35 then st else if o = 33 then state else if o = 36 then came else p o j) else p o j
abbrev MS : Type := (Nat → Nat → Int) × List Nat × List Nat × Int
section TICKD
variable (wy ro sp wear beat cor : Nat → Int) (many : Nat) (now : Int)
def mvq (p : Nat → Nat → Int) (s : Nat) (lim : Int) : Int × Int := tqq wy ro sp wear beat cor many now (p 31 s) (p 32 s) (p 35 s) (p 34 s) (p 37 s) lim
def mvp (p : Nat → Nat → Int) (P : List Nat) (s : Nat) (lim : Int) : Nat → Nat → Int :=
  pmv p s (mvq wy ro sp wear beat cor many now p s lim).1 (if twt wy (p 31 s) (mvq wy ro sp wear beat cor many now p s lim).1 (p 34 s) (p 37 s) then 0 else (mvq wy ro sp wear beat cor many now p s lim).2)
    (if twt wy (p 31 s) (mvq wy ro sp wear beat cor many now p s lim).1 (p 34 s) (p 37 s) ∧ (P.length : Int) < wy 3 then 1 else if 10 * wy 0 ≤ (mvq wy ro sp wear beat cor many now p s lim).1 - 10 * p 31 s then 2 else 0)
    (if twt wy (p 31 s) (mvq wy ro sp wear beat cor many now p s lim).1 (p 34 s) (p 37 s) ∧ (P.length : Int) < wy 3 then now else p 36 s)
/-- sheets, the line anew, the pocket, the limit: one more sheet -/
def mv1 (q : MS) (s : Nat) : MS :=
  (mvp wy ro sp wear beat cor many now q.1 q.2.2.1 s q.2.2.2, if mvp wy ro sp wear beat cor many now q.1 q.2.2.1 s q.2.2.2 33 s = 0 then q.2.1 ++ [s] else q.2.1, if mvp wy ro sp wear beat cor many now q.1 q.2.2.1 s q.2.2.2 33 s = 1 then q.2.2.1 ++ [s] else q.2.2.1,
    if mvp wy ro sp wear beat cor many now q.1 q.2.2.1 s q.2.2.2 33 s = 0 then mvp wy ro sp wear beat cor many now q.1 q.2.2.1 s q.2.2.2 32 s - 10 * q.1 31 s else q.2.2.2)
def mvN (L : List Nat) (p : Nat → Nat → Int) (P : List Nat) : Nat → MS
  | 0 => (p, [], P, 1000000)
  | i + 1 => mv1 wy ro sp wear beat cor many now (mvN L p P i) (L.getD i 0)
end TICKD
section TICKC
variable {S : ZS} {T W F m s : Nat} {wy ro sp wear beat cor : Nat → Int} {many : Nat} {now limit : Int} {p : Nat → Nat → Int} {L P : List Nat}
theorem pmv_o {h st state came : Int} {o j : Nat} (h1 : o ≠ 32) (h2 : o ≠ 35) (h3 : o ≠ 33) (h4 : o ≠ 36) : pmv p s h st state came o j = p o j := by
  unfold pmv
  rw [if_neg h1, if_neg h2, if_neg h3, if_neg h4]
  split <;> rfl
theorem pmv_n {h st state came : Int} {o j : Nat} (h1 : j ≠ s) : pmv p s h st state came o j = p o j := if_neg h1
theorem mvN_out {o j : Nat} : ∀ {i : Nat}, (∀ k, k < i → L.getD k 0 ≠ j) → (mvN wy ro sp wear beat cor many now L p P i).1 o j = p o j
  | 0, _ => rfl
  | i + 1, h => by
    show mvp wy ro sp wear beat cor many now (mvN wy ro sp wear beat cor many now L p P i).1 _ (L.getD i 0) _ o j = _
    unfold mvp
    rw [pmv_n (fun z => h i (by omega) z.symm)]
    exact mvN_out fun k hk => h k (by omega)
theorem mvN_o {o j : Nat} (h1 : o ≠ 32) (h2 : o ≠ 35) (h3 : o ≠ 33) (h4 : o ≠ 36) : ∀ i : Nat, (mvN wy ro sp wear beat cor many now L p P i).1 o j = p o j
  | 0 => rfl
  | i + 1 => by
    show mvp wy ro sp wear beat cor many now (mvN wy ro sp wear beat cor many now L p P i).1 _ (L.getD i 0) _ o j = _
    unfold mvp
    rw [pmv_o h1 h2 h3 h4]
    exact mvN_o h1 h2 h3 h4 i
theorem nd_ne (h : L.Nodup) {i j : Nat} (hi : i < L.length) (hj : j < L.length) (hn : i ≠ j) : L.getD i 0 ≠ L.getD j 0 := by
  rw [getD_el hi, getD_el hj]
  rcases Nat.lt_or_gt_of_ne hn with c | c
  · exact List.pairwise_iff_getElem.mp h i j hi hj c
  · exact fun z => List.pairwise_iff_getElem.mp h j i hj hi c z.symm
theorem mvN_rest (h : L.Nodup) {o i j : Nat} (hj : j < L.length) (hi : i ≤ j) : (mvN wy ro sp wear beat cor many now L p P i).1 o (L.getD j 0) = p o (L.getD j 0) :=
  mvN_out fun k hk => nd_ne h (by omega) hj (by omega)
theorem app_get {N : List Nat} {G G' : Nat → Int} (h : ∀ j (h : j < N.length), G j = (N[j] : Int)) (hG : ∀ j, j < N.length → G' j = G j) (hs : G' N.length = (s : Int)) : ∀ j (h : j < (N ++ [s]).length), G' j = ((N ++ [s])[j] : Int) := by
  intro j hj
  have hl : (N ++ [s]).length = N.length + 1 := by simp
  by_cases e : j < N.length
  · rw [List.getElem_append_left e, hG j e]
    exact h j e
  · have : j = N.length := by omega
    subst this
    rw [List.getElem_append_right (Nat.le_refl _), hs]
    simp
/-- the class's cells of region T tell the picture -/
def CRel (T : Nat) (A : ZA) (m : Nat) (p : Nat → Nat → Int) : Prop := ∀ s, s < m → A T 6 s = p 33 s ∧ A T 7 s = p 32 s ∧ A T 8 s = p 34 s ∧ A T 9 s = p 35 s ∧ A T 10 s = 10 * p 31 s ∧ A T 12 s = p 37 s ∧ (p 33 s = 1 → A T 11 s = p 36 s)
theorem CRel_mv {A A' : ZA} {h st state came came2 : Int} (hC : CRel T A m p) (hA : ∀ o j, o ≠ 13 → o ≠ 15 → A' T o j = if j = s then (if o = 7 then h else if o = 9 then st else if o = 6 then state else if o = 11 then came else A T o j) else A T o j) (hc : state = 1 → came = came2) : CRel T A' m (pmv p s h st state came2) := by
  intro j hj
  obtain ⟨c1, c2, c3, c4, c5, c6, c7⟩ := hC j hj
  rw [hA 6 j (by decide) (by decide), hA 7 j (by decide) (by decide), hA 8 j (by decide) (by decide), hA 9 j (by decide) (by decide), hA 10 j (by decide) (by decide), hA 11 j (by decide) (by decide), hA 12 j (by decide) (by decide)]
  unfold pmv
  by_cases e : j = s
  · simp only [if_pos e, Nat.reduceEqDiff, reduceIte]
    exact ⟨by trivial, by trivial, c3, by trivial, c5, c6, hc⟩
  · simp only [if_neg e]
    exact ⟨c1, c2, c3, c4, c5, c6, c7⟩
theorem lp_move8' (hT : T = 6 ∨ T = 8) (hW : W = 19 ∨ W = 20) (hF : F = 4 ∨ F = 5) (t15 : S.1 T 15 = (W : Int)) (t16 : S.1 T 16 = (F : Int)) (t2 : S.1 T 2 = now) (bn : 0 ≤ now ∧ now < 2147483648)
    (w0 : S.1 W 0 = wy 0) (w6 : S.1 W 6 = wy 1) (w8 : S.1 W 8 = wy 3) (b0 : 40 ≤ wy 0 ∧ wy 0 ≤ 300) (b1 : 0 ≤ wy 1 ∧ wy 1 ≤ 300)
    (H : DrOK wy ro sp wear beat) (k1 : S.1 W 1 = wy 6) (k2 : S.1 W 10 = wy 5) (K : ∀ r : Nat, (r : Int) < wy 6 → S.2 W 3 r = ro r ∧ S.2 W 4 r = sp r ∧ S.2 F 1 r = wear r ∧ S.2 F 2 r = beat r)
    (C : CoOK cor many) (k3 : S.1 F 3 = (many : Int)) (KC : ∀ c : Nat, c < many → S.2 F 3 c = cor c)
    {k : Nat} (t4 : S.1 T 4 = (k : Int)) (hs : s < 40) {h ln side turned st : Int} (b3 : wy 3 ≤ 3 ∨ turned = 0) (a7 : S.2 T 7 s = h) (a10 : S.2 T 10 s = 10 * ln) (a8 : S.2 T 8 s = side) (a12 : S.2 T 12 s = turned) (a9 : S.2 T 9 s = st) (a6 : S.2 T 6 s = 0)
    (bh : 0 ≤ h ∧ h ≤ 9000) (bl : 10 ≤ ln ∧ ln ≤ 70) (bt : turned = 0 ∨ turned = 1) (bs : 0 ≤ st ∧ st ≤ 1000) {q : Int × Int} (hq : q = tqq wy ro sp wear beat cor many now ln h st side turned limit) :
    zp (F_X8_move T (s : Int) limit S) (fun V => (∀ r, r ≠ T → V.1 r = S.1 r) ∧ (∀ r, r ≠ T → V.2 r = S.2 r) ∧ (∀ j, j ≠ 4 → V.1 T j = S.1 T j) ∧ V.1 T 4 = (if twt wy ln q.1 side turned ∧ (k : Int) < wy 3 then ((k + 1 : Nat) : Int) else (k : Int)) ∧
      V.2 T 13 = S.2 T 13 ∧ V.2 T 15 = (if twt wy ln q.1 side turned ∧ (k : Int) < wy 3 then zset (S.2 T 15) k s else S.2 T 15) ∧
      ∀ o j, o ≠ 13 → o ≠ 15 → V.2 T o j = if j = s then (if o = 7 then q.1 else if o = 9 then (if twt wy ln q.1 side turned then 0 else q.2) else if o = 6 then (if twt wy ln q.1 side turned ∧ (k : Int) < wy 3 then 1 else if 10 * wy 0 ≤ q.1 - 10 * ln then 2 else 0) else if o = 11 then (if twt wy ln q.1 side turned ∧ (k : Int) < wy 3 then now else S.2 T 11 s) else S.2 T o j) else S.2 T o j) := by
  rw [zp_eq (lp_move8 (p := k) hs hW hF t15 t16 t2 t4 bn w0 w6 w8 b0 b1 b3 a7 a10 a8 a12 a9 a6 bh bl bt bs H k1 k2 K C k3 KC hq)]
  by_cases d : twt wy ln q.1 side turned ∧ (k : Int) < wy 3
  · simp only [if_pos d]
    refine ⟨fun r hr => zup_R hr, fun r hr => ?_, fun j hj => zup_k hj, zup_s, ?_, ?_, fun o j h13 h15 => ?_⟩
    · funext o j
      rw [tA_ap, if_neg (fun z => hr z.1), zuA_R hr]
    · funext j
      rw [tA_ap]
      simp only [zuA_ap, Nat.reduceEqDiff, reduceIte, and_false]
      split <;> rfl
    · funext j
      rw [tA_ap]
      simp only [zuA_ap, Nat.reduceEqDiff, reduceIte, and_self]
      split <;> rfl
    · rw [tA_ap, zuA_o h15]
      simp only [true_and]
  · simp only [if_neg d]
    refine ⟨fun r hr => by trivial, fun r hr => ?_, fun j hj => by trivial, t4, ?_, ?_, fun o j h13 h15 => ?_⟩
    · funext o j
      rw [tA_ap, if_neg (fun z => hr z.1)]
    · funext j
      rw [tA_ap]
      simp only [Nat.reduceEqDiff, reduceIte]
      split <;> rfl
    · funext j
      rw [tA_ap]
      simp only [Nat.reduceEqDiff, reduceIte]
      split <;> rfl
    · rw [tA_ap]
      simp only [true_and]
def LInv (T : Nat) (S St : ZS) (m : Nat) (L : List Nat) (i : Nat) (q : MS) : Prop :=
  (∀ r, r ≠ T → St.1 r = S.1 r) ∧ (∀ r, r ≠ T → St.2 r = S.2 r) ∧ (∀ k, k ≠ 13 → k ≠ 4 → St.1 T k = S.1 T k) ∧ St.1 T 13 = (q.2.1.length : Int) ∧ St.1 T 4 = (q.2.2.1.length : Int) ∧ CRel T St.2 m q.1 ∧
  (∀ j (h : j < q.2.1.length), St.2 T 13 j = (q.2.1[j] : Int)) ∧ (∀ j (h : j < L.length), i ≤ j → St.2 T 13 j = (L[j] : Int)) ∧ (∀ j (h : j < q.2.2.1.length), St.2 T 15 j = (q.2.2.1[j] : Int)) ∧ q.2.1.length ≤ i
theorem mvp_33 {lim : Int} : mvp wy ro sp wear beat cor many now p P s lim 33 s = if twt wy (p 31 s) (mvq wy ro sp wear beat cor many now p s lim).1 (p 34 s) (p 37 s) ∧ (P.length : Int) < wy 3 then 1 else if 10 * wy 0 ≤ (mvq wy ro sp wear beat cor many now p s lim).1 - 10 * p 31 s then 2 else 0 := by
  unfold mvp pmv
  rw [if_pos rfl]
  simp only [Nat.reduceEqDiff, reduceIte]
theorem mvp_32 {lim : Int} : mvp wy ro sp wear beat cor many now p P s lim 32 s = (mvq wy ro sp wear beat cor many now p s lim).1 := by
  unfold mvp pmv
  rw [if_pos rfl, if_pos rfl]
/-- what is asked of the sheets in the line -/
def LBd (m : Nat) (p : Nat → Nat → Int) (L : List Nat) : Prop := ∀ a, a ∈ L → a < m ∧ p 33 a = 0 ∧ (0 ≤ p 32 a ∧ p 32 a ≤ 9000) ∧ (10 ≤ p 31 a ∧ p 31 a ≤ 70) ∧ (p 37 a = 0 ∨ p 37 a = 1) ∧ (0 ≤ p 35 a ∧ p 35 a ≤ 1000)
theorem lp_c25 {Q : ZS → Prop} (hT : T = 6 ∨ T = 8) (hW : W = 19 ∨ W = 20) (hF : F = 4 ∨ F = 5) (t15 : S.1 T 15 = (W : Int)) (t16 : S.1 T 16 = (F : Int)) (t2 : S.1 T 2 = now) (bn : 0 ≤ now ∧ now < 2147483648)
    (w0 : S.1 W 0 = wy 0) (w6 : S.1 W 6 = wy 1) (w8 : S.1 W 8 = wy 3) (b0 : 40 ≤ wy 0 ∧ wy 0 ≤ 300) (b1 : 0 ≤ wy 1 ∧ wy 1 ≤ 300)
    (H : DrOK wy ro sp wear beat) (k1 : S.1 W 1 = wy 6) (k2 : S.1 W 10 = wy 5) (K : ∀ r : Nat, (r : Int) < wy 6 → S.2 W 3 r = ro r ∧ S.2 W 4 r = sp r ∧ S.2 F 1 r = wear r ∧ S.2 F 2 r = beat r)
    (C : CoOK cor many) (k3 : S.1 F 3 = (many : Int)) (KC : ∀ c : Nat, c < many → S.2 F 3 c = cor c)
    (t13 : S.1 T 13 = 0) (t4 : S.1 T 4 = (P.length : Int)) (b3 : wy 3 ≤ 3 ∨ ∀ a, a ∈ L → p 37 a = 0) (hm : m ≤ 40) (hC : CRel T S.2 m p) (hLl : L.length ≤ 40) (hLs : ∀ i (h : i < L.length), S.2 T 13 i = (L[i] : Int)) (hPs : ∀ i (h : i < P.length), S.2 T 15 i = (P[i] : Int))
    (hLb : LBd m p L) (hnd : L.Nodup) (hQ : ∀ St, LInv T S St m L L.length (mvN wy ro sp wear beat cor many now L p P L.length) → zp ((F_X8_findJam T St).bind fun S2 => F_X8_comeBack T S2) Q) :
    zp (F_X8_carryOn_25 T (L.length : Int) 1000000 0 S) Q := by
  have hWT : W ≠ T := by omega
  have hFT : F ≠ T := by omega
  unfold F_X8_carryOn_25
  refine zp_w (fun k st => ∃ i St, k + i = L.length ∧ st = ((mvN wy ro sp wear beat cor many now L p P i).2.2.2, (i : Int), St) ∧ LInv T S St m L i (mvN wy ro sp wear beat cor many now L p P i)) (fun k st hst => ?_) L.length _ ⟨0, S, by omega, rfl, fun r _ => rfl, fun r _ => rfl, fun k _ _ => rfl, t13, t4, hC, fun j h => absurd h (by show ¬ j < 0; omega), fun j h _ => hLs j h, hPs, Nat.le_refl 0⟩
  obtain ⟨i, St, hki, rfl, hI⟩ := hst
  dsimp only
  by_cases hi : i < L.length
  · have e : mvN wy ro sp wear beat cor many now L p P (i + 1) = mv1 wy ro sp wear beat cor many now (mvN wy ro sp wear beat cor many now L p P i) L[i] := by
      show mv1 wy ro sp wear beat cor many now _ (L.getD i 0) = _
      rw [getD_el hi]
    have hcell : ∀ o, (mvN wy ro sp wear beat cor many now L p P i).1 o L[i] = p o L[i] := by
      intro o
      rw [← getD_el hi]
      exact mvN_rest hnd hi (Nat.le_refl i)
    have hb := hLb L[i] (List.getElem_mem hi)
    have b3' : wy 3 ≤ 3 ∨ p 37 L[i] = 0 := b3.imp id (fun z => z _ (List.getElem_mem hi))
    generalize mvN wy ro sp wear beat cor many now L p P i = q at *
    generalize hs : L[i] = s at *
    obtain ⟨pi, N, Pk, lim⟩ := q
    obtain ⟨i1, i2, i3, i4, i5, i6, i7, i8, i9, i10⟩ := hI
    dsimp only at *
    have hs40 : s < 40 := by omega
    obtain ⟨c1, c2, c3, c4, c5, c6, c7⟩ := i6 s (by omega)
    simp only [← hcell] at hb b3'
    obtain ⟨hb1, hb2, hb3, hb4, hb5, hb6⟩ := hb
    obtain ⟨q, hq⟩ : ∃ q, q = tqq wy ro sp wear beat cor many now (pi 31 s) (pi 32 s) (pi 35 s) (pi 34 s) (pi 37 s) lim := ⟨_, rfl⟩
    have hmv := lp_move8' (S := St) (s := s) (k := Pk.length) (limit := lim) (q := q) hT hW hF (by rw [i3 15 (by decide) (by decide)]; exact t15) (by rw [i3 16 (by decide) (by decide)]; exact t16) (by rw [i3 2 (by decide) (by decide)]; exact t2) bn (by rw [i1 W hWT]; exact w0) (by rw [i1 W hWT]; exact w6) (by rw [i1 W hWT]; exact w8) b0 b1 H (by rw [i1 W hWT]; exact k1) (by rw [i1 W hWT]; exact k2) (fun r hr => by rw [i2 W hWT, i2 F hFT]; exact K r hr) C (by rw [i1 F hFT]; exact k3) (fun c hc => by rw [i2 F hFT]; exact KC c hc) i5 hs40 b3' c2 c5 c3 c6 c4 (c1.trans hb2) hb3 hb4 hb5 hb6 hq
    have hq2 : mvq wy ro sp wear beat cor many now pi s lim = q := hq.symm
    have e33 := mvp_33 (wy := wy) (ro := ro) (sp := sp) (wear := wear) (beat := beat) (cor := cor) (many := many) (now := now) (p := pi) (P := Pk) (s := s) (lim := lim)
    have e32 := mvp_32 (wy := wy) (ro := ro) (sp := sp) (wear := wear) (beat := beat) (cor := cor) (many := many) (now := now) (p := pi) (P := Pk) (s := s) (lim := lim)
    rw [hq2] at e33 e32
    have hcr : ∀ A' : ZA, (∀ o j, o ≠ 13 → o ≠ 15 → A' T o j = if j = s then (if o = 7 then q.1 else if o = 9 then (if twt wy (pi 31 s) q.1 (pi 34 s) (pi 37 s) then 0 else q.2) else if o = 6 then (if twt wy (pi 31 s) q.1 (pi 34 s) (pi 37 s) ∧ (Pk.length : Int) < wy 3 then 1 else if 10 * wy 0 ≤ q.1 - 10 * pi 31 s then 2 else 0) else if o = 11 then (if twt wy (pi 31 s) q.1 (pi 34 s) (pi 37 s) ∧ (Pk.length : Int) < wy 3 then now else St.2 T 11 s) else St.2 T o j) else St.2 T o j) → CRel T A' m (mvp wy ro sp wear beat cor many now pi Pk s lim) := by
      intro A' hA'
      unfold mvp
      rw [hq2]
      refine CRel_mv i6 hA' fun z => ?_
      by_cases d : twt wy (pi 31 s) q.1 (pi 34 s) (pi 37 s) ∧ (Pk.length : Int) < wy 3
      · rw [if_pos d, if_pos d]
      · rw [if_neg d] at z
        split at z <;> omega
    simp only [Int.toNat_natCast, i8 i hi (Nat.le_refl i), hs]
    refine zp_pos (by omega) (zp_pos (by omega) (zp_bind.mpr (zp_mono hmv fun V hV => ?_)))
    obtain ⟨v1, v2, v3, v4, v5, v6, v7⟩ := hV
    have v66 := v7 6 s (by decide) (by decide)
    simp only [Nat.reduceEqDiff, reduceIte] at v66
    rw [← e33] at v66
    refine zp_pos (by omega) (zp_if (fun d => ?_) (fun d => ?_))
    · rw [v66] at d
      have hne : ¬ (twt wy (pi 31 s) q.1 (pi 34 s) (pi 37 s) ∧ (Pk.length : Int) < wy 3) := fun z => by rw [d, if_pos z] at e33; omega
      have v13 : V.1 T 13 = (N.length : Int) := by rw [v3 13 (by decide)]; exact i4
      refine zp_pos (by rw [v13]; omega) (zp_lt.mpr (zp_lt.mpr ?_))
      dsimp only
      unfold F_X8_tailOf
      rw [v13, Int.toNat_natCast, if_pos (by omega), Option.bind_some, zp_some, zor2_l]
      dsimp only
      rw [Int.toNat_natCast]
      have z7 : zuA V.2 T 13 (zset (V.2 T 13) N.length s) T 7 s = q.1 := by
        rw [zuA_o (by decide), v7 7 s (by decide) (by decide), if_pos rfl, if_pos rfl]
      have z10 : zuA V.2 T 13 (zset (V.2 T 13) N.length s) T 10 s = 10 * pi 31 s := by
        rw [zuA_o (by decide), v7 10 s (by decide) (by decide), if_pos rfl]
        exact c5
      have hqb : 0 ≤ q.1 ∧ q.1 ≤ 9090 := by
        rw [hq]
        unfold tqq
        split
        · dsimp only; omega
        · have := (tdr_b (cor := cor) (many := many) (now := now) (ln := pi 31 s) (h := pi 32 s) (st := pi 35 s) (limit := lim) H).1
          omega
      rw [z7, z10, zsub_ok (by omega) (by omega), zadd_ok (by omega) (by omega), zadd_ok (by omega) (by omega)]
      refine ⟨k - 1, by omega, i + 1, (zup V.1 T 13 ((N.length : Int) + 1), zuA V.2 T 13 (zset (V.2 T 13) N.length s)), by omega, ?_, ?_⟩
      · rw [e]
        unfold mv1
        dsimp only
        rw [if_pos d, e32]
        rfl
      · rw [e]
        unfold mv1 LInv
        dsimp only
        rw [if_pos d, if_neg (by omega)]
        refine ⟨fun r hr => by rw [zup_R hr]; exact (v1 r hr).trans (i1 r hr), fun r hr => by rw [zuA_R hr]; exact (v2 r hr).trans (i2 r hr), fun j h1 h2 => by rw [zup_k h1]; exact (v3 j h2).trans (i3 j h1 h2), ?_, ?_, hcr _ (fun o j h1 h2 => by rw [zuA_o h1]; exact v7 o j h1 h2), ?_, fun j h hj => ?_, fun j h => ?_, ?_⟩
        · rw [zup_s, List.length_append]
          rfl
        · rw [zup_k (by decide), v4, if_neg hne]
        · rw [zuA_s]
          exact app_get i7 (fun j hj => by rw [zset_n (by omega), v5]) (by rw [zset_s])
        · rw [zuA_s, zset_n (by omega), v5]
          exact i8 j h (by omega)
        · rw [zuA_o (by decide), v6, if_neg hne]
          exact i9 j h
        · rw [List.length_append, List.length_singleton]
          omega
    · rw [v66] at d
      rw [zp_some, zor2_l]
      rw [zadd_ok (by omega) (by omega)]
      refine ⟨k - 1, by omega, i + 1, V, by omega, ?_, ?_⟩
      · rw [e]
        unfold mv1
        dsimp only
        rw [if_neg d]
        rfl
      · rw [e]
        unfold mv1 LInv
        dsimp only
        rw [if_neg d]
        by_cases hne : twt wy (pi 31 s) q.1 (pi 34 s) (pi 37 s) ∧ (Pk.length : Int) < wy 3
        · rw [if_pos hne] at e33 v4 v6
          rw [if_pos e33]
          refine ⟨fun r hr => (v1 r hr).trans (i1 r hr), fun r hr => (v2 r hr).trans (i2 r hr), fun j h1 h2 => (v3 j h2).trans (i3 j h1 h2), ?_, ?_, hcr _ v7, ?_, fun j h hj => ?_, ?_, by omega⟩
          · rw [v3 13 (by decide)]; exact i4
          · rw [v4, List.length_append]
            rfl
          · intro j h
            rw [v5]
            exact i7 j h
          · rw [v5]
            exact i8 j h (by omega)
          · rw [v6]
            exact app_get i9 (fun j hj => by rw [zset_n (by omega)]) (by rw [zset_s])
        · have e1 : mvp wy ro sp wear beat cor many now pi Pk s lim 33 s ≠ 1 := by
            rw [e33, if_neg hne]
            split <;> omega
          rw [if_neg hne] at v4 v6
          rw [if_neg e1]
          refine ⟨fun r hr => (v1 r hr).trans (i1 r hr), fun r hr => (v2 r hr).trans (i2 r hr), fun j h1 h2 => (v3 j h2).trans (i3 j h1 h2), ?_, v4, hcr _ v7, ?_, fun j h hj => ?_, ?_, by omega⟩
          · rw [v3 13 (by decide)]; exact i4
          · intro j h
            rw [v5]
            exact i7 j h
          · rw [v5]
            exact i8 j h (by omega)
          · intro j h
            rw [v6]
            exact i9 j h
  · have hil : i = L.length := by have := hI.2.2.2.2.2.2.2.2.2; omega
    subst hil
    refine zp_neg (by omega) ?_
    have hq := hQ St hI
    rw [zp_bind] at hq ⊢
    refine zp_mono hq fun S2 h2 => ?_
    rw [zp_bind]
    refine zp_mono h2 fun S3 h3 => ?_
    rw [zp_some, zor2_r]
    exact h3
end TICKC
