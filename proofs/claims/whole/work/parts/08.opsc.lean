/-! reads and writes of the heap -/
section ZH
variable {D : va_G} {cA : Nat → ClassId} {e0 : Nat → Nat → Option Nat} {bS nS : Nat} {xS : Nat → Int} {A : Nat → Prop} {p : Program} {l : Launch} {e : Env} {R : Room} {s : State} {m : MethodId} {args : Array Value} {below : List Frame} {meth : Method} {c : Code} {Q : State → Prop} {L0 : List (Nat × Nat)} {ad0 : Nat → Nat → Nat} {u0 v0 : Nat}
variable {own nm : String} {cc : ByteArray} {nL pc : Nat} {lsv stv lsv' stv' : List ZV} {μ μ' : ZM}
theorem zws_get {ad : Nat → Nat → Nat} {κ : ZK} {f : ZF} {a : ZA} {L : List (Nat × Nat)} {i r o : Nat} (h : L[i]? = some (r, o)) : (zws cA e0 ad κ f a L)[i]? = some (ad r o, zcell cA e0 ad κ f a r o) := by
  unfold zws
  rw [List.getElem?_map, h]
  rfl
theorem zws_set {ad : Nat → Nat → Nat} {κ : ZK} {f f' : ZF} {a a' : ZA} {L : List (Nat × Nat)} {i r o : Nat} (hn : L.Nodup) (h : L[i]? = some (r, o)) (hq : ∀ r' o', ¬ (r' = r ∧ o' = o) → zcell cA e0 ad κ f' a' r' o' = zcell cA e0 ad κ f a r' o') :
    (zws cA e0 ad κ f a L).set i (ad r o, zcell cA e0 ad κ f' a' r o) = zws cA e0 ad κ f' a' L := by
  apply List.ext_getElem?
  intro j
  have hi : i < L.length := (List.getElem?_eq_some_iff.mp h).1
  by_cases hj : i = j
  · subst hj
    rw [List.getElem?_set_self (by simpa [zws] using hi), zws_get h]
  · rw [List.getElem?_set_ne hj]
    unfold zws
    rw [List.getElem?_map, List.getElem?_map]
    cases hl : L[j]? with
    | none => rfl
    | some q =>
      have hne : ¬ (q.1 = r ∧ q.2 = o) := by
        intro ⟨h1, h2⟩
        have e1 : L[j]? = some (r, o) := by rw [hl]; exact congrArg some (Prod.ext h1 h2)
        have h3 := (List.getElem?_inj (j := j) hi hn).mp (by rw [h, e1])
        exact hj h3
      simp only [Option.map_some]
      rw [hq q.1 q.2 hne]
theorem zRel_place {L : List (Nat × Nat)} {ad : Nat → Nat → Nat} {κ : ZK} {f : ZF} {a : ZA} {H : Heap} {locs : List Loc} (h : zRel D cA e0 bS nS xS A s L ad κ f a H locs) {r o k n : Nat} (hk : κ r o = some (k, n)) (h6 : k ≠ 6) : ∃ i : Nat, L[i]? = some (r, o) :=
  List.getElem?_of_mem ((h.2.2.2.2.1 r o).mpr ⟨k, n, hk, h6⟩)
theorem zTY_at (k : Nat) (h : k ≤ 5) : ∃ ty, (zTY cA)[k]? = some (cA k, ty) := by
  match k, h with
  | 0, _ => exact ⟨_, rfl⟩
  | 1, _ => exact ⟨_, rfl⟩
  | 2, _ => exact ⟨_, rfl⟩
  | 3, _ => exact ⟨_, rfl⟩
  | 4, _ => exact ⟨_, rfl⟩
  | 5, _ => exact ⟨_, rfl⟩
/-- a write of a number into a row -/
theorem zRel_wr {L : List (Nat × Nat)} {ad : Nat → Nat → Nat} {κ : ZK} {f : ZF} {a : ZA} {H H1 : Heap} {locs locs1 : List Loc} (h : zRel D cA e0 bS nS xS A s L ad κ f a H locs) {r o k n i : Nat} {x : Int} (hk : κ r o = some (k, n)) (h6 : k ≠ 6) {q : Nat} (hq : L[q]? = some (r, o))
    (hx : (k ≤ 2 → zI32 x ∧ (k = 1 → x = 0 ∨ x = 1)) ∧ (k = 3 → zI64 x)) (hP : va_P D vwCl ((zws cA e0 ad κ f a L).set q (ad r o, zcell cA e0 ad κ f (zua a r o i x) r o)) H1) (hD : va_D A ((zws cA e0 ad κ f a L).set q (ad r o, zcell cA e0 ad κ f (zua a r o i x) r o))) (hS : va_S A s.heap H1 locs1) : zRel D cA e0 bS nS xS A s L ad κ f (zua a r o i x) H1 locs1 := by
  obtain ⟨h1, h2, h3, h4, h5, h6', h7⟩ := h
  have e1 : (zws cA e0 ad κ f a L).set q (ad r o, zcell cA e0 ad κ f (zua a r o i x) r o) = zws cA e0 ad κ f (zua a r o i x) L := by
    refine zws_set h4 hq fun r' o' hne => ?_
    unfold zcell zua
    have : ∀ j, ¬ (r' = r ∧ o' = o ∧ j = i) := fun j z => hne ⟨z.1, z.2.1⟩
    simp only [this, if_false]
  rw [e1] at hP hD
  refine ⟨hP, hD, hS, h4, h5, fun r' o' k' n' hk' => ?_, h7⟩
  obtain ⟨g1, g2, g3, g4⟩ := h6' r' o' k' n' hk'
  by_cases hrr : r' = r ∧ o' = o
  · obtain ⟨rfl, rfl⟩ := hrr
    rw [hk] at hk'
    cases hk'
    refine ⟨fun hz j => ?_, fun hz j => ?_, g3, fun hz => absurd hz h6⟩
    · by_cases hj : j = i
      · unfold zua; simp only [hj, and_self, if_true]; exact hx.1 (by omega)
      · unfold zua; simp only [hj, and_false, if_false]; exact g1 hz j
    · by_cases hj : j = i
      · unfold zua; simp only [hj, and_self, if_true]; exact hx.2 hz
      · unfold zua; simp only [hj, and_false, if_false]; exact g2 hz j
  · have : ∀ j, zua a r o i x r' o' j = a r' o' j := fun j => by
      unfold zua
      rw [if_neg (fun z => hrr ⟨z.1, z.2.1⟩)]
    exact ⟨fun hz j => by rw [this]; exact g1 hz j, fun hz j => by rw [this]; exact g2 hz j, g3, fun hz => ⟨(g4 hz).1, (g4 hz).2.1, fun j => by rw [this]; exact (g4 hz).2.2 j⟩⟩
/-- a write of a value into a field or a row of references -/
theorem zRel_wf {L : List (Nat × Nat)} {ad : Nat → Nat → Nat} {κ : ZK} {f : ZF} {a : ZA} {H H1 : Heap} {locs locs1 : List Loc} (h : zRel D cA e0 bS nS xS A s L ad κ f a H locs) {r o k n i : Nat} {v : ZV} (hk : κ r o = some (k, n)) (h6 : k ≠ 6) {q : Nat} (hq : L[q]? = some (r, o))
    (hx : zvok κ v) (hv : k = 4 ∨ k = 5 → ∃ t r' o', v = .inr (.inr (t, r', o')) ∧ t ≤ 1) (hP : va_P D vwCl ((zws cA e0 ad κ f a L).set q (ad r o, zcell cA e0 ad κ (zuf f r o i v) a r o)) H1) (hD : va_D A ((zws cA e0 ad κ f a L).set q (ad r o, zcell cA e0 ad κ (zuf f r o i v) a r o))) (hS : va_S A s.heap H1 locs1) : zRel D cA e0 bS nS xS A s L ad κ (zuf f r o i v) a H1 locs1 := by
  obtain ⟨h1, h2, h3, h4, h5, h6', h7⟩ := h
  have e1 : (zws cA e0 ad κ f a L).set q (ad r o, zcell cA e0 ad κ (zuf f r o i v) a r o) = zws cA e0 ad κ (zuf f r o i v) a L := by
    refine zws_set h4 hq fun r' o' hne => ?_
    unfold zcell zuf
    have : ∀ j, ¬ (r' = r ∧ o' = o ∧ j = i) := fun j z => hne ⟨z.1, z.2.1⟩
    simp only [this, if_false]
  rw [e1] at hP hD
  have hz : ∀ r' o' j, (zuf f r o i v r' o' j = v ∧ r' = r ∧ o' = o) ∨ zuf f r o i v r' o' j = f r' o' j := fun r' o' j => by
    unfold zuf
    by_cases hc : r' = r ∧ o' = o ∧ j = i
    · left; rw [if_pos hc]; exact ⟨rfl, hc.1, hc.2.1⟩
    · right; rw [if_neg hc]
  refine ⟨hP, hD, hS, h4, h5, fun r' o' k' n' hk' => ?_, fun r' o' j => ?_⟩
  · obtain ⟨g1, g2, g3, g4⟩ := h6' r' o' k' n' hk'
    refine ⟨g1, g2, fun hz4 j => ?_, g4⟩
    rcases hz r' o' j with ⟨e2, rfl, rfl⟩ | e2
    · rw [e2]
      rw [hk] at hk'
      cases hk'
      exact hv hz4
    · rw [e2]; exact g3 hz4 j
  · rcases hz r' o' j with ⟨e2, -, -⟩ | e2
    · rw [e2]; exact hx
    · rw [e2]; exact h7 r' o' j
theorem zcell_n {ad : Nat → Nat → Nat} {κ : ZK} {f : ZF} {a : ZA} {r o k n : Nat} (hk : κ r o = some (k, n)) (h : k ≤ 2) : zcell cA e0 ad κ f a r o = .inl (cA k, n, .inl fun j => Int32.ofInt (a r o j)) := by
  unfold zcell; simp only [hk, if_pos h]
theorem zcell_l {ad : Nat → Nat → Nat} {κ : ZK} {f : ZF} {a : ZA} {r o n : Nat} (hk : κ r o = some (3, n)) : zcell cA e0 ad κ f a r o = .inl (cA 3, n, .inr (.inl fun j => Int64.ofInt (a r o j))) := by
  unfold zcell; simp only [hk]; rfl
theorem zcell_q {ad : Nat → Nat → Nat} {κ : ZK} {f : ZF} {a : ZA} {r o k n : Nat} (hk : κ r o = some (k, n)) (h : k = 4 ∨ k = 5) : zcell cA e0 ad κ f a r o = .inl (cA k, n, .inr (.inr (.inr (.inr fun j => zop1 ad (f r o j))))) := by
  unfold zcell; rcases h with rfl | rfl <;> simp only [hk] <;> rfl
theorem zcell_o {ad : Nat → Nat → Nat} {κ : ZK} {f : ZF} {a : ZA} {r o k n : Nat} (hk : κ r o = some (k + 10, n)) : zcell cA e0 ad κ f a r o = .inr (k, (List.range n).map fun j => zcv e0 ad (f r o j)) := by
  unfold zcell
  simp only [hk]
  rw [if_neg (by omega), if_neg (by omega), if_neg (by omega)]
  rfl
theorem zo_iald (F : zFr D cA e0 bS nS xS A p s m args meth c own nm cc nL) (hdg : decode cc pc = .ok (.iaload, 1)) (h : zaldN 0 false stv lsv μ = some (lsv', stv', μ'))
    (kk : zcont D cA e0 bS nS xS A p l e R s m args below meth c Q L0 ad0 u0 v0 (pc + 1) lsv' stv' μ') : zcont D cA e0 bS nS xS A p l e R s m args below meth c Q L0 ad0 u0 v0 pc lsv stv μ := by
  obtain ⟨hx, hb, hml, hown, hts, hE, hRO, hlk, hnm, hA⟩ := F
  unfold zaldN at h
  split at h
  · rename_i i t r o st0
    split at h
    · rename_i k n hk
      split at h
      · rename_i hc0
        cases h
        intro L ad H locs ls cells slots hext hrel hl hlv hsv hc hs
        obtain ⟨hi, hn⟩ := zin (zvok_head hsv) hc0.2.1 hc0.2.2
        have e1 : zcv e0 ad (.inr (.inr (1, r, o))) = .ref (ad r o) := rfl
        have hok := hrel.2.2.2.2.2.1 r o k n hk
        have kx := kk L ad H locs ls cells slots hext hrel hl hlv (zvok_cons (show zI32 _ from (hok.1 (by omega) i.toNat).1) (zvok_tail (zvok_tail hsv))) hc hs
        simp only [List.map_cons, cond_false] at kx ⊢
        rw [e1]
        by_cases h6 : k = 6
        · obtain ⟨q1, q2, q3⟩ := hok.2.2.2 h6
          rw [q1]
          refine va_sld hx hb (xs := fun j => Int32.ofInt (xS j)) hRO.2.2.2.1 hRO.2.2.2.2.1 hRO.2.2.2.2.2 hrel.2.2.1 (L := nS) (by rw [← q2]; exact hi) hdg ?_
          rw [hn, ← q3]
          exact kx
        · have h0 : k = 0 := by omega
          subst h0
          obtain ⟨q, hq⟩ := zRel_place hrel hk (by omega)
          have hg := zws_get (cA := cA) (e0 := e0) (ad := ad) (κ := μ.1) (f := μ.2.1) (a := μ.2.2.1) hq
          rw [zcell_n hk (by omega)] at hg
          refine va_iald (D := D) (cl := vwCl) hx hb hE.1 hrel.1 q 0 hg rfl hi hdg ?_
          rw [hn]
          exact kx
      · cases h
    · cases h
  · cases h
theorem zo_lald (F : zFr D cA e0 bS nS xS A p s m args meth c own nm cc nL) (hdg : decode cc pc = .ok (.laload, 1)) (h : zaldN 3 true stv lsv μ = some (lsv', stv', μ'))
    (kk : zcont D cA e0 bS nS xS A p l e R s m args below meth c Q L0 ad0 u0 v0 (pc + 1) lsv' stv' μ') : zcont D cA e0 bS nS xS A p l e R s m args below meth c Q L0 ad0 u0 v0 pc lsv stv μ := by
  obtain ⟨hx, hb, hml, hown, hts, hE, hRO, hlk, hnm, hA⟩ := F
  unfold zaldN at h
  split at h
  · rename_i i t r o st0
    split at h
    · rename_i k n hk
      split at h
      · rename_i hc0
        cases h
        intro L ad H locs ls cells slots hext hrel hl hlv hsv hc hs
        obtain ⟨hi, hn⟩ := zin (zvok_head hsv) hc0.2.1 hc0.2.2
        have e1 : zcv e0 ad (.inr (.inr (1, r, o))) = .ref (ad r o) := rfl
        have hok := hrel.2.2.2.2.2.1 r o k n hk
        have h0 : k = 3 := by omega
        subst h0
        have kx := kk L ad H locs ls cells slots hext hrel hl hlv (zvok_cons (show zI64 _ from hok.2.1 rfl i.toNat) (zvok_tail (zvok_tail hsv))) hc hs
        simp only [List.map_cons, cond_true] at kx ⊢
        rw [e1]
        obtain ⟨q, hq⟩ := zRel_place hrel hk (by omega)
        have hg := zws_get (cA := cA) (e0 := e0) (ad := ad) (κ := μ.1) (f := μ.2.1) (a := μ.2.2.1) hq
        rw [zcell_l hk] at hg
        refine va_lald (D := D) (cl := vwCl) hx hb hE.1 hrel.1 q 3 hg rfl hi hdg ?_
        rw [hn]
        exact kx
      · cases h
    · cases h
  · cases h
theorem zo_aald (F : zFr D cA e0 bS nS xS A p s m args meth c own nm cc nL) (hn0 : ∀ r, e0 0 r = none) (hdg : decode cc pc = .ok (.aaload, 1)) (h : zaald stv lsv μ = some (lsv', stv', μ'))
    (kk : zcont D cA e0 bS nS xS A p l e R s m args below meth c Q L0 ad0 u0 v0 (pc + 1) lsv' stv' μ') : zcont D cA e0 bS nS xS A p l e R s m args below meth c Q L0 ad0 u0 v0 pc lsv stv μ := by
  obtain ⟨hx, hb, hml, hown, hts, hE, hRO, hlk, hnm, hA⟩ := F
  unfold zaald at h
  split at h
  · rename_i i t r o st0
    split at h
    · rename_i k n hk
      split at h
      · rename_i hc0
        cases h
        intro L ad H locs ls cells slots hext hrel hl hlv hsv hc hs
        obtain ⟨hi, hn⟩ := zin (zvok_head hsv) hc0.2.1 hc0.2.2
        have e1 : zcv e0 ad (.inr (.inr (1, r, o))) = .ref (ad r o) := rfl
        have hok := hrel.2.2.2.2.2.1 r o k n hk
        have kx := kk L ad H locs ls cells slots hext hrel hl hlv (zvok_cons (hrel.2.2.2.2.2.2 r o i.toNat) (zvok_tail (zvok_tail hsv))) hc hs
        simp only [List.map_cons] at kx ⊢
        rw [e1]
        obtain ⟨q, hq⟩ := zRel_place hrel hk (by omega)
        have hg := zws_get (cA := cA) (e0 := e0) (ad := ad) (κ := μ.1) (f := μ.2.1) (a := μ.2.2.1) hq
        rw [zcell_q hk hc0.1] at hg
        obtain ⟨t, r', o', e2, ht⟩ := hok.2.2.1 hc0.1 i.toNat
        have e3 : zcv e0 ad (μ.2.1 r o i.toNat) = va_rf (zop1 ad (μ.2.1 r o i.toNat)) := by
          rw [e2]
          unfold zcv zop1
          by_cases h1 : t = 1
          · simp [h1, va_rf]
          · have h0 : t = 0 := by omega
            simp [h0, hn0]
        rw [e3] at kx
        rcases hc0.1 with rfl | rfl
        · refine va_aldq (D := D) (cl := vwCl) hx hb hE.1 hrel.1 q 4 hg rfl hi hdg ?_
          rw [hn]
          exact kx
        · have hlt : (Int32.ofInt i).toNatClampNeg < n := Nat.not_le.mp fun q => hi (Or.inr q)
          refine W.aald (v := va_rf (zop1 ad (μ.2.1 r o i.toNat))) (ty := .array .long) hx hb (hrel.1 q _ hg) ((hE.1.2 5 _ rfl).1 n (fun j => va_rf (zop1 ad (μ.2.1 r o j)))) rfl (fun q => by cases q) (by show ¬ (_ < 0 ∨ (arrV _ _ _).slots.size ≤ _); rw [arrV_size]; exact hi) (by show (arrV _ _ _).slots[_]? = _; rw [arrV_read _ _ hlt, hn]) rfl rfl hdg kx
      · cases h
    · cases h
  · cases h
end ZH
