/-! arraycopy, four rows at once, strings and statics, what is left -/
theorem zs_len : ∀ r, r < 10 → zslen.getD r 0 = (zstr r).length ∧ (zstr r).length < 100 := by decide +kernel
theorem zs_byt : ∀ r, r < 10 → zsbyt.getD r [] = (zstr r).map Int32.ofInt := by decide +kernel
theorem zs_all : ∀ r, r < 10 → (zstr r).all (fun x => decide (0 ≤ x) && decide (x < 128)) = true := by decide +kernel
section ZF1
variable {D : va_G} {cA : Nat → ClassId} {e0 : Nat → Nat → Option Nat} {bS nS : Nat} {xS : Nat → Int} {A : Nat → Prop} {p : Program} {l : Launch} {e : Env} {R : Room} {s : State} {m : MethodId} {args : Array Value} {below : List Frame} {meth : Method} {c : Code} {Q : State → Prop} {L0 : List (Nat × Nat)} {ad0 : Nat → Nat → Nat} {u0 v0 : Nat}
variable {own nm : String} {cc : ByteArray} {nL pc : Nat} {lsv stv lsv' stv' : List ZV} {μ μ' : ZM}
theorem zcatsum {ad : Nat → Nat → Nat} (st : List ZV) : ((st.map (zcv e0 ad)).map fun v => v.category).sum = (st.map zcat).sum := by
  rw [List.map_map]
  congr 1
  apply List.map_congr_left
  intro v _
  exact zcv_cat v
/-- a row becomes another -/
theorem zRel_wA {L : List (Nat × Nat)} {ad : Nat → Nat → Nat} {κ : ZK} {f : ZF} {a a' : ZA} {H H1 : Heap} {locs locs1 : List Loc} (h : zRel D cA e0 bS nS xS A s L ad κ f a H locs) {r o k n : Nat} (hk : κ r o = some (k, n)) (h6 : k ≠ 6) {q : Nat} (hq : L[q]? = some (r, o))
    (hne : ∀ r' o' j, ¬ (r' = r ∧ o' = o) → a' r' o' j = a r' o' j) (hx : (k ≤ 2 → ∀ j, zI32 (a' r o j) ∧ (k = 1 → a' r o j = 0 ∨ a' r o j = 1)) ∧ (k = 3 → ∀ j, zI64 (a' r o j)))
    (hP : va_P D vwCl ((zws cA e0 ad κ f a L).set q (ad r o, zcell cA e0 ad κ f a' r o)) H1) (hD : va_D A ((zws cA e0 ad κ f a L).set q (ad r o, zcell cA e0 ad κ f a' r o))) (hS : va_S A s.heap H1 locs1) : zRel D cA e0 bS nS xS A s L ad κ f a' H1 locs1 := by
  obtain ⟨h1, h2, h3, h4, h5, h6', h7⟩ := h
  have e1 : (zws cA e0 ad κ f a L).set q (ad r o, zcell cA e0 ad κ f a' r o) = zws cA e0 ad κ f a' L := by
    refine zws_set h4 hq fun r' o' hn => ?_
    unfold zcell
    simp only [fun j => hne r' o' j hn]
  rw [e1] at hP hD
  refine ⟨hP, hD, hS, h4, h5, fun r' o' k' n' hk' => ?_, h7⟩
  obtain ⟨g1, g2, g3, g4⟩ := h6' r' o' k' n' hk'
  by_cases hrr : r' = r ∧ o' = o
  · obtain ⟨rfl, rfl⟩ := hrr
    rw [hk] at hk'
    cases hk'
    exact ⟨fun hz j => hx.1 (by omega) j, fun hz j => hx.2 hz j, g3, fun hz => absurd hz h6⟩
  · exact ⟨fun hz j => by rw [hne _ _ _ hrr]; exact g1 hz j, fun hz j => by rw [hne _ _ _ hrr]; exact g2 hz j, g3, fun hz => ⟨(g4 hz).1, (g4 hz).2.1, fun j => by rw [hne _ _ _ hrr]; exact (g4 hz).2.2 j⟩⟩
theorem zI32_nn {n : Int} (h : zI32 n) (h0 : 0 ≤ n) : ¬ Int32.ofInt n < 0 ∧ (Int32.ofInt n).toNatClampNeg = n.toNat := by
  refine ⟨fun q => by have := (zlt32 h zI32_0).mp q; omega, ?_⟩
  show ((Int32.ofInt n).toInt).toNat = n.toNat
  rw [zI32_to h]
theorem zo_copy (F : zFr D cA e0 bS nS xS A p s m args meth c own nm cc nL) {idx : Nat} (hw1 : Cond.methodLink own idx arraycopyName ∈ zgood) (hw2 : Cond.native arraycopyName ∈ zgood) (hw3 : Cond.static arraycopyName ∈ zgood) (hw4 : Cond.initialized "java/lang/System" ∈ zgood) (hdg : decode cc pc = .ok (.invokestatic idx, 3))
    (hfr : 1 ≤ R.frames ∧ 37 ≤ R.locals) (hlen : lsv.length = nL) (hsum : (stv.map zcat).sum ≤ 13) (h : zcopy stv lsv μ = some (lsv', stv', μ'))
    (kk : zcont D cA e0 bS nS xS A p l e R s m args below meth c Q L0 ad0 u0 v0 (pc + 3) lsv' stv' μ') : zcont D cA e0 bS nS xS A p l e R s m args below meth c Q L0 ad0 u0 v0 pc lsv stv μ := by
  obtain ⟨hx, hb, hml, hown, hts, hE, hRO, hlk, hnm, hA⟩ := F
  unfold zcopy at h
  split at h
  · rename_i n dp r2 o2 sp r1 o1 st0
    split at h
    · rename_i k1 n1 k2 n2 hk1 hk2
      split at h
      · rename_i hc0
        cases h
        obtain ⟨rfl, hk2', hne, hn0, hsp, hdp, hb1, hb2⟩ := hc0
        intro L ad H locs ls cells slots hext hrel hl hlv hsv hc hs
        obtain ⟨g1, g2⟩ := zI32_nn (zvok_head hsv) hn0
        obtain ⟨g3, g4⟩ := zI32_nn (zvok_head (zvok_tail hsv)) hdp
        obtain ⟨g5, g6⟩ := zI32_nn (zvok_head (zvok_tail (zvok_tail (zvok_tail hsv)))) hsp
        have e1 : zcv e0 ad (.inr (.inr (1, r1, o1))) = .ref (ad r1 o1) := rfl
        have e2 : zcv e0 ad (.inr (.inr (1, r2, o2))) = .ref (ad r2 o2) := rfl
        simp only [List.map_cons]
        rw [e1, e2]
        obtain ⟨q1, hq1⟩ := zRel_place hrel hk1 (by omega)
        obtain ⟨q2, hq2⟩ := zRel_place hrel hk2 (by omega)
        have hg1 := zws_get (cA := cA) (e0 := e0) (ad := ad) (κ := μ.1) (f := μ.2.1) (a := μ.2.2.1) hq1
        have hg2 := zws_get (cA := cA) (e0 := e0) (ad := ad) (κ := μ.1) (f := μ.2.1) (a := μ.2.2.1) hq2
        rw [zcell_n hk1 (by omega)] at hg1
        rw [zcell_n hk2 (by omega)] at hg2
        have hok1 := (hrel.2.2.2.2.2.1 r1 o1 k1 n1 hk1).1 (Or.inl (by omega))
        have hok2 := (hrel.2.2.2.2.2.1 r2 o2 k1 n2 hk2).1 (Or.inl (by omega))
        obtain ⟨ty, hty, hp, hfit⟩ : ∃ ty, (zTY cA)[k1]? = some (cA k1, ty) ∧ refKind ty = false ∧ ∀ j, fits ty (.int (Int32.ofInt (μ.2.2.1 r1 o1 j))) = true := by
          rcases (show k1 = 0 ∨ k1 = 1 by omega) with rfl | rfl
          · exact ⟨.int, rfl, rfl, fun _ => rfl⟩
          · refine ⟨.boolean, rfl, rfl, fun j => ?_⟩
            rcases (hok1 j).2 rfl with h9 | h9 <;> rw [h9] <;> decide
        refine va_copyi (D := D) (cl := vwCl) hx hb (by rw [hl.1, hlen, hml]) hown (hts _ hw1) (hts _ hw2) (hts _ hw3) (hts _ hw4) hE.1 hrel.1 hrel.2.1 hrel.2.2.1 q1 q2 k1 k1 hg1 hg2 hty hty hp g5 g3 g1 (by rw [g6, g2]; omega) (by rw [g4, g2]; omega) (fun i _ => hfit _) hfr.1 ?_ hdg fun H1 locs1 hP1 hD1 hS1 => ?_
        · rw [zcatsum]
          have e9 : nativeFrameWords "java/lang/System" "arraycopy" 5 = 7 := by decide
          rw [e9]
          simp only [List.map_cons, List.sum_cons] at hsum
          omega
        · rw [g2, g4, g6] at hP1 hD1
          have e3 : va_cpy (fun j => Int32.ofInt (μ.2.2.1 r1 o1 j)) (fun j => Int32.ofInt (μ.2.2.1 r2 o2 j)) sp.toNat dp.toNat n.toNat = fun j => Int32.ofInt (if r2 = r2 ∧ o2 = o2 ∧ dp.toNat ≤ j ∧ j < dp.toNat + n.toNat then μ.2.2.1 r1 o1 (sp.toNat + (j - dp.toNat)) else μ.2.2.1 r2 o2 j) := by
            funext j
            unfold va_cpy
            by_cases hj : dp.toNat ≤ j ∧ j < dp.toNat + n.toNat
            · simp [hj]
            · rw [if_neg hj, if_neg (fun z => hj z.2.2)]
          rw [e3, ← zcell_n (cA := cA) (e0 := e0) (ad := ad) (f := μ.2.1) (a := fun r o j => if r = r2 ∧ o = o2 ∧ dp.toNat ≤ j ∧ j < dp.toNat + n.toNat then μ.2.2.1 r1 o1 (sp.toNat + (j - dp.toNat)) else μ.2.2.1 r o j) hk2 (by omega)] at hP1 hD1
          refine kk L ad H1 locs1 ls cells slots hext (zRel_wA hrel hk2 (by omega) hq2 (fun r' o' j hn => by dsimp only; rw [if_neg (fun z => hn ⟨z.1, z.2.1⟩)]) ⟨fun _ j => ?_, fun z => by omega⟩ hP1 hD1 hS1) hl hlv (zvok_tail (zvok_tail (zvok_tail (zvok_tail (zvok_tail hsv))))) hc hs
          dsimp only
          split
          · exact hok1 _
          · exact hok2 _
      · cases h
    · cases h
  · cases h
theorem zo_objinit (F : zFr D cA e0 bS nS xS A p s m args meth c own nm cc nL) {idx : Nat} (hw1 : Cond.methodLink own idx objectInit ∈ zgood) (hw2 : Cond.instanceMethod objectInit ∈ zgood) (hw3 : Cond.code objectInit ⟨#[0xb1]⟩ 1 none ∈ zgood) (hdg : decode cc pc = .ok (.invokespecial idx, 3)) (hfr : 1 ≤ R.frames ∧ 37 ≤ R.locals) (hlen : lsv.length = nL)
    {r o : Nat} {st0 : List ZV} (hsum : (st0.map zcat).sum ≤ 8)
    (kk : zcont D cA e0 bS nS xS A p l e R s m args below meth c Q L0 ad0 u0 v0 (pc + 3) lsv st0 μ) : zcont D cA e0 bS nS xS A p l e R s m args below meth c Q L0 ad0 u0 v0 pc lsv (.inr (.inr (1, r, o)) :: st0) μ := by
  obtain ⟨hx, hb, hml, hown, hts, hE, hRO, hlk, hnm, hA⟩ := F
  intro L ad H locs ls cells slots hext hrel hl hlv hsv hc hs
  have e1 : zcv e0 ad (.inr (.inr (1, r, o))) = .ref (ad r o) := rfl
  rw [List.map_cons, e1]
  refine W.objInit hx hb hown (hts _ hw1) (hts _ hw2) (hts _ hw3) (g := F0 m pc ls (.ref (ad r o) :: st0.map (zcv e0 ad))) rfl (by rw [hml]; exact hl.1.trans hlen) rfl hdg hfr.1 ?_ (kk L ad H locs ls cells slots hext hrel hl hlv (zvok_tail hsv) hc hs)
  have h8 := zcatsum (e0 := e0) (ad := ad) st0
  show 2 * 0 + _ + 12 ≤ _
  omega
theorem zo_bald (F : zFr D cA e0 bS nS xS A p s m args meth c own nm cc nL) (hdg : decode cc pc = .ok (.baload, 1)) (h : zbald stv lsv μ = some (lsv', stv', μ'))
    (kk : zcont D cA e0 bS nS xS A p l e R s m args below meth c Q L0 ad0 u0 v0 (pc + 1) lsv' stv' μ') : zcont D cA e0 bS nS xS A p l e R s m args below meth c Q L0 ad0 u0 v0 pc lsv stv μ := by
  obtain ⟨hx, hb, hml, hown, hts, hE, hRO, hlk, hnm, hA⟩ := F
  unfold zbald at h
  split at h
  · rename_i i t r o st0
    split at h
    · split at h
      · rename_i hc0
        cases h
        obtain ⟨h0, hi, hr⟩ := hc0
        intro L ad H locs ls cells slots hext hrel hl hlv hsv hc hs
        obtain ⟨⟨adK, adV, hK, hS10⟩, -⟩ := hRO
        have e1 : zcv e0 ad (.inr (.inr (5, r, o))) = .ref (adV r) := by unfold zcv; simp [(hK r hr).2, va_rf]
        obtain ⟨hi1, hn⟩ := zin (n := (zstr r).length) (zvok_head hsv) h0 hi
        have hT := (hS10.1 r hr).2.2.2
        have el := (zs_len r hr).1
        have ev : ∀ j, j < (zstr r).length → (zsbyt.getD r []).getD j 0 = Int32.ofInt ((zstr r).getD j 0) := by
          intro j hj
          have e2 := zs_byt r hr
          rw [e2, List.getD_eq_getElem?_getD, List.getElem?_map, List.getD_eq_getElem?_getD, List.getElem?_eq_getElem hj]
          rfl
        have hb1 : zI32 ((zstr r).getD i.toNat 0) := by
          have hlt : i.toNat < (zstr r).length := by omega
          have h9 := List.all_eq_true.mp (zs_all r hr) ((zstr r)[i.toNat]) (List.getElem_mem hlt)
          rw [List.getD_eq_getElem?_getD, List.getElem?_eq_getElem hlt]
          simp only [Bool.and_eq_true, decide_eq_true_eq] at h9
          unfold zI32
          simp only [Option.getD_some]
          omega
        have kx := kk L ad H locs ls cells slots hext hrel hl hlv (zvok_cons hb1 (zvok_tail (zvok_tail hsv))) hc hs
        simp only [List.map_cons] at kx ⊢
        rw [e1]
        exact va_tb hx hb (A := A) hT hrel.2.2.1 (by rw [el]; exact hi1) (v := .int (Int32.ofInt ((zstr r).getD i.toNat 0))) (by rw [hn, ev _ (by omega)]) hdg kx
      · cases h
    · split at h
      · rename_i k n hk
        split at h
        · rename_i hc0
          cases h
          intro L ad H locs ls cells slots hext hrel hl hlv hsv hc hs
          obtain ⟨hi, hn⟩ := zin (zvok_head hsv) hc0.2.1 hc0.2.2
          have e1 : zcv e0 ad (.inr (.inr (1, r, o))) = .ref (ad r o) := rfl
          have hok := hrel.2.2.2.2.2.1 r o k n hk
          have kx := kk L ad H locs ls cells slots hext hrel hl hlv (zvok_cons (show zI32 _ from (hok.1 (by omega) i.toNat).1) (zvok_tail (zvok_tail hsv))) hc hs
          simp only [List.map_cons] at kx ⊢
          rw [e1]
          obtain ⟨q, hq⟩ := zRel_place hrel hk (by omega)
          have hg := zws_get (cA := cA) (e0 := e0) (ad := ad) (κ := μ.1) (f := μ.2.1) (a := μ.2.2.1) hq
          rw [zcell_n hk (by omega)] at hg
          rcases hc0.1 with rfl | rfl
          · refine va_zald (D := D) (cl := vwCl) hx hb hE.1 hrel.1 q 1 hg rfl hi hdg ?_
            rw [hn]
            exact kx
          · refine va_bald (D := D) (cl := vwCl) hx hb hE.1 hrel.1 q 2 hg rfl hi hdg ?_
            rw [hn]
            exact kx
        · cases h
      · cases h
    · cases h
  · cases h
theorem zo_alen (F : zFr D cA e0 bS nS xS A p s m args meth c own nm cc nL) (hdg : decode cc pc = .ok (.arraylength, 1)) (h : zalen stv lsv μ = some (lsv', stv', μ'))
    (kk : zcont D cA e0 bS nS xS A p l e R s m args below meth c Q L0 ad0 u0 v0 (pc + 1) lsv' stv' μ') : zcont D cA e0 bS nS xS A p l e R s m args below meth c Q L0 ad0 u0 v0 pc lsv stv μ := by
  obtain ⟨hx, hb, hml, hown, hts, hE, hRO, hlk, hnm, hA⟩ := F
  unfold zalen at h
  split at h
  · rename_i t r o st0
    split at h
    · split at h
      · rename_i hr
        cases h
        intro L ad H locs ls cells slots hext hrel hl hlv hsv hc hs
        obtain ⟨⟨adK, adV, hK, hS10⟩, -⟩ := hRO
        have e1 : zcv e0 ad (.inr (.inr (5, r, o))) = .ref (adV r) := by unfold zcv; simp [(hK r hr).2, va_rf]
        have hT := (hS10.1 r hr).2.2.2
        have el := zs_len r hr
        have kx := kk L ad H locs ls cells slots hext hrel hl hlv (zvok_cons (show zI32 _ by unfold zI32; omega) (zvok_tail hsv)) hc hs
        simp only [List.map_cons] at kx ⊢
        rw [e1]
        exact va_tlen hx hb (A := A) hT hrel.2.2.1 (v := Int32.ofInt ((zstr r).length : Int)) (by rw [el.1, Int32.ofInt_eq_ofNat]) hdg kx
      · cases h
    · split at h
      · rename_i k n hk
        split at h
        · rename_i hc0
          cases h
          intro L ad H locs ls cells slots hext hrel hl hlv hsv hc hs
          have e1 : zcv e0 ad (.inr (.inr (1, r, o))) = .ref (ad r o) := rfl
          have hok := hrel.2.2.2.2.2.1 r o k n hk
          have kx := kk L ad H locs ls cells slots hext hrel hl hlv (zvok_cons (show zI32 _ by unfold zI32; omega) (zvok_tail hsv)) hc hs
          simp only [List.map_cons] at kx ⊢
          rw [e1]
          have e5 : zcv e0 ad (.inl (n : Int)) = .int (Int32.ofNat n) := by show Value.int (Int32.ofInt (n : Int)) = _; rw [Int32.ofInt_eq_ofNat]
          rw [e5] at kx
          by_cases h6 : k = 6
          · obtain ⟨q1, q2, q3⟩ := hok.2.2.2 h6
            rw [q1]
            rw [q2] at kx
            exact va_slen hx hb (xs := fun j => Int32.ofInt (xS j)) hRO.2.2.2.1 hRO.2.2.2.2.1 hRO.2.2.2.2.2 hrel.2.2.1 hdg kx
          · obtain ⟨q, hq⟩ := zRel_place hrel hk h6
            have hg := zws_get (cA := cA) (e0 := e0) (ad := ad) (κ := μ.1) (f := μ.2.1) (a := μ.2.2.1) hq
            obtain ⟨ty, hty⟩ := zTY_at (cA := cA) k (by omega)
            have hz : ∃ z : vp_A, zcell cA e0 ad μ.1 μ.2.1 μ.2.2.1 r o = .inl (cA k, z) ∧ z.1 = n := by
              by_cases h2 : k ≤ 2
              · exact ⟨_, zcell_n hk h2, rfl⟩
              · by_cases h3 : k = 3
                · subst h3; exact ⟨_, zcell_l hk, rfl⟩
                · exact ⟨_, zcell_q hk (by omega), rfl⟩
            obtain ⟨z, hz1, hz2⟩ := hz
            rw [hz1] at hg
            exact va_alen (D := D) (cl := vwCl) hx hb hE.1 hrel.1 q k hg hty (v := Int32.ofNat n) (by rw [hz2]) hdg kx
        · cases h
      · cases h
    · cases h
  · cases h
theorem zo_max (F : zFr D cA e0 bS nS xS A p s m args meth c own nm cc nL) {idx : Nat} (hw1 : Cond.methodLink own idx Lib.Math.max.name ∈ zgood) (hw2 : Cond.static Lib.Math.max.name ∈ zgood) (hw3 : Cond.initialized "java/lang/Math" ∈ zgood) (hw4 : Cond.code Lib.Math.max.name Lib.Math.max.code 2 (some .int) ∈ zgood) (hdg : decode cc pc = .ok (.invokestatic idx, 3))
    (hfr : 1 ≤ R.frames ∧ 37 ≤ R.locals) (hlen : lsv.length = nL) (hsum : (stv.map zcat).sum ≤ 13) (hR : μ.2.2.2.2.1 ≤ R.cells + u0 ∧ μ.2.2.2.2.2 ≤ R.slots + v0) (h : zbin stv lsv μ zmax = some (lsv', stv', μ'))
    (kk : zcont D cA e0 bS nS xS A p l e R s m args below meth c Q L0 ad0 u0 v0 (pc + 3) lsv' stv' μ') : zcont D cA e0 bS nS xS A p l e R s m args below meth c Q L0 ad0 u0 v0 pc lsv stv μ := by
  obtain ⟨hx, hb, hml, hown, hts, hE, hRO, hlk, hnm, hA⟩ := F
  unfold zbin at h
  split at h
  · rename_i y x st0
    cases h
    intro L ad H locs ls cells slots hext hrel hl hlv hsv hc hs
    have hy := zvok_head hsv
    have hx0 := zvok_head (zvok_tail hsv)
    have kx := kk L ad H locs ls cells slots hext hrel hl hlv (zvok_cons (by unfold zmax; split; exact hy; exact hx0) (zvok_tail (zvok_tail hsv))) hc hs
    have e1 : zcv e0 ad (.inl (zmax x y)) = .int (if Int32.ofInt x < Int32.ofInt y then Int32.ofInt y else Int32.ofInt x) := by
      unfold zmax
      by_cases hh : x < y
      · rw [if_pos hh, if_pos ((zlt32 hx0 hy).mpr hh)]; rfl
      · rw [if_neg hh, if_neg (fun z => hh ((zlt32 hx0 hy).mp z))]; rfl
    rw [List.map_cons, e1] at kx
    refine va_mmax hx hb (by rw [hl.1, hlen, hml]) hown (hts _ hw1) (hts _ hw2) (hts _ hw3) (hts _ hw4) hfr.1 ?_ (by omega) (by omega) hdg kx
    rw [zcatsum]
    simp only [List.map_cons, List.sum_cons] at hsum
    omega
  · cases h
theorem zo_min (F : zFr D cA e0 bS nS xS A p s m args meth c own nm cc nL) {idx : Nat} (hw1 : Cond.methodLink own idx Lib.Math.min.name ∈ zgood) (hw2 : Cond.static Lib.Math.min.name ∈ zgood) (hw3 : Cond.initialized "java/lang/Math" ∈ zgood) (hw4 : Cond.code Lib.Math.min.name Lib.Math.min.code 2 (some .int) ∈ zgood) (hdg : decode cc pc = .ok (.invokestatic idx, 3))
    (hfr : 1 ≤ R.frames ∧ 37 ≤ R.locals) (hlen : lsv.length = nL) (hsum : (stv.map zcat).sum ≤ 13) (hR : μ.2.2.2.2.1 ≤ R.cells + u0 ∧ μ.2.2.2.2.2 ≤ R.slots + v0) (h : zbin stv lsv μ zmin = some (lsv', stv', μ'))
    (kk : zcont D cA e0 bS nS xS A p l e R s m args below meth c Q L0 ad0 u0 v0 (pc + 3) lsv' stv' μ') : zcont D cA e0 bS nS xS A p l e R s m args below meth c Q L0 ad0 u0 v0 pc lsv stv μ := by
  obtain ⟨hx, hb, hml, hown, hts, hE, hRO, hlk, hnm, hA⟩ := F
  unfold zbin at h
  split at h
  · rename_i y x st0
    cases h
    intro L ad H locs ls cells slots hext hrel hl hlv hsv hc hs
    have hy := zvok_head hsv
    have hx0 := zvok_head (zvok_tail hsv)
    have kx := kk L ad H locs ls cells slots hext hrel hl hlv (zvok_cons (by unfold zmin; split; exact hy; exact hx0) (zvok_tail (zvok_tail hsv))) hc hs
    have e1 : zcv e0 ad (.inl (zmin x y)) = .int (if Int32.ofInt y < Int32.ofInt x then Int32.ofInt y else Int32.ofInt x) := by
      unfold zmin
      by_cases hh : y < x
      · rw [if_pos hh, if_pos ((zlt32 hy hx0).mpr hh)]; rfl
      · rw [if_neg hh, if_neg (fun z => hh ((zlt32 hy hx0).mp z))]; rfl
    rw [List.map_cons, e1] at kx
    refine va_mmin hx hb (by rw [hl.1, hlen, hml]) hown (hts _ hw1) (hts _ hw2) (hts _ hw3) (hts _ hw4) hfr.1 ?_ (by omega) (by omega) hdg kx
    rw [zcatsum]
    simp only [List.map_cons, List.sum_cons] at hsum
    omega
  · cases h
end ZF1
