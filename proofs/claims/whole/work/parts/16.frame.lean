/-! calls and whole methods -/
theorem zgood_GoodIn {cp maxL : Nat} {y : MethodName} {ret : Option FieldType} (h : Cond.code y (zcodeAt cp) maxL ret ∈ zgood) : GoodIn zgood (Cond.code y (zcodeAt cp) maxL ret :: zgood) := by
  have hg : ∀ w ∈ zgood, w ∈ zgood ∧ ((w.onTables && w.keeps) = true ∨ ∃ ty, w = .arrayClass ty) := fun w hw => ⟨hw, good_of_word (List.mem_filter.mp hw).2⟩
  intro w hw
  rcases List.mem_cons.mp hw with h1 | h1
  · rw [h1]; exact hg _ h
  · exact hg w h1
def zrm (d mc ms : Nat) : Room := { frames := d, cells := mc, slots := ms, locals := 37 * d }
/-- the cells that a method may change -/
def zA (ad : Nat → Nat → Nat) (L : List (Nat × Nat)) (sz : Nat) : Nat → Prop := fun q => (∃ z ∈ L, q = ad z.1 z.2) ∨ sz ≤ q
def zdom (κ : ZK) (L : List (Nat × Nat)) : Prop := ∀ r o, (r, o) ∈ L ↔ ∃ k n, κ r o = some (k, n) ∧ k ≠ 6
def zPc (D : va_G) (cA : Nat → ClassId) (e0 : Nat → Nat → Option Nat) (bS nS : Nat) (xS : Nat → Int) (L : List (Nat × Nat)) (ad : Nat → Nat → Nat) (μ : ZM) (as : List ZV) (sz : Nat) : Array Value → State → Prop :=
  va_Pc (as.map (zcv e0 ad)) (fun U => U.heap.size = sz ∧ zEnv D cA e0 U ∧ zRO e0 bS nS xS (zA ad L sz) U U.heap ∧ va_P D vwCl (zws cA e0 ad μ.1 μ.2.1 μ.2.2.1 L) U.heap ∧ va_D (zA ad L sz) (zws cA e0 ad μ.1 μ.2.1 μ.2.2.1 L))
def zB (D : va_G) (cA : Nat → ClassId) (e0 : Nat → Nat → Option Nat) (bS nS : Nat) (xS : Nat → Int) (L : List (Nat × Nat)) (ad : Nat → Nat → Nat) (A : Nat → Prop) (μ : ZM) (u : List (Nat × Nat) × (Nat → Nat → Nat)) (t : State) : Prop :=
  va_P D vwCl (zws cA e0 u.2 μ.1 μ.2.1 μ.2.2.1 u.1) t.heap ∧ va_D A (zws cA e0 u.2 μ.1 μ.2.1 μ.2.2.1 u.1) ∧ u.1.Nodup ∧ zdom μ.1 u.1 ∧ zok bS nS xS u.2 μ.1 μ.2.1 μ.2.2.1 ∧ ∀ z ∈ L, z ∈ u.1 ∧ u.2 z.1 z.2 = ad z.1 z.2
def zQc (D : va_G) (cA : Nat → ClassId) (e0 : Nat → Nat → Option Nat) (bS nS : Nat) (xS : Nat → Int) (L : List (Nat × Nat)) (ad : Nat → Nat → Nat) (A : Nat → Prop) (rv : Option ZV) (μ : ZM) : Array Value → State → Outcome → State → Prop := match rv with
  | none => va_Qv (fun _ => True) (zB D cA e0 bS nS xS L ad A μ) A
  | some (.inl x) => va_Qi (fun r _ => r = Int32.ofInt x ∧ zI32 x) (zB D cA e0 bS nS xS L ad A μ) A
  | some (.inr (.inl x)) => va_Ql (fun r _ => r = Int64.ofInt x ∧ zI64 x) (zB D cA e0 bS nS xS L ad A μ) A
  | _ => fun _ _ _ _ => False
abbrev zcp (t : ZT) : Nat := t.2.2.2.2.2.2.2.1
abbrev zret (t : ZT) : Option FieldType := t.2.2.1
abbrev zmx (t : ZT) : Nat := t.2.1
def zwd (t : ZT) : List Cond := Cond.code t.1 (zcodeAt (zcp t)) (zmx t) (zret t) :: zgood
/-- the method's contract: what the machine of numbers does, the JVM's does -/
def zMet (l : Launch) (d j : Nat) (as : List ZV) (μ : ZM) (rv : Option ZV) (μ' : ZM) : Prop :=
  ∀ (D : va_G) (cA : Nat → ClassId) (e0 : Nat → Nat → Option Nat) (bS nS : Nat) (xS : Nat → Int) (L : List (Nat × Nat)) (ad : Nat → Nat → Nat) (sz : Nat), (∀ r, e0 0 r = none) → L.Nodup → zdom μ.1 L → zok bS nS xS ad μ.1 μ.2.1 μ.2.2.1 → (∀ v ∈ as, zvok μ.1 v) →
    Met l (zmi j).1 (zwd (zmi j)) (zrm d (μ'.2.2.2.2.1 - μ.2.2.2.2.1) (μ'.2.2.2.2.2 - μ.2.2.2.2.2)) (zPc D cA e0 bS nS xS L ad μ as sz) (zQc D cA e0 bS nS xS L ad (zA ad L sz) rv μ') (μ'.2.2.2.2.1 - μ.2.2.2.2.1) (μ'.2.2.2.2.2 - μ.2.2.2.2.2) (zA ad L sz)
section ZQ
variable {D : va_G} {cA : Nat → ClassId} {e0 : Nat → Nat → Option Nat} {bS nS : Nat} {xS : Nat → Int} {A : Nat → Prop} {p : Program} {l : Launch} {e : Env} {R : Room} {s : State} {m : MethodId} {args : Array Value} {below : List Frame} {meth : Method} {c : Code} {Q : State → Prop} {L0 : List (Nat × Nat)} {ad0 : Nat → Nat → Nat} {u0 v0 : Nat}
variable {own nm : String} {cc : ByteArray} {nL pc : Nat} {lsv stv lsv' stv' : List ZV} {μ μ' : ZM}
theorem zA_in {ad : Nat → Nat → Nat} {κ : ZK} {f : ZF} {a : ZA} {L : List (Nat × Nat)} {sz : Nat} (hD : va_D A (zws cA e0 ad κ f a L)) (hsz : ∀ q : Nat, sz ≤ q → A q) : ∀ q, zA ad L sz q → A q := fun q h => by
  rcases h with ⟨z, hz, rfl⟩ | h
  · obtain ⟨i, hi⟩ := List.getElem?_of_mem hz
    exact hD.2 i _ (zws_get (r := z.1) (o := z.2) hi)
  · exact hsz q h
theorem zcv_same {ad ad' : Nat → Nat → Nat} {κ : ZK} (h : ∀ r o, κ r o ≠ none → ad' r o = ad r o) {v : ZV} (hv : zvok κ v) : zcv e0 ad' v = zcv e0 ad v := by
  rcases v with n | n | ⟨t, r, o⟩
  · rfl
  · rfl
  · unfold zcv
    by_cases ht : t = 1
    · simp only [ht, if_true]
      rw [h r o (hv ht)]
    · simp only [ht, if_false]
theorem zmap_same {ad ad' : Nat → Nat → Nat} {κ : ZK} (h : ∀ r o, κ r o ≠ none → ad' r o = ad r o) : ∀ {st : List ZV}, (∀ v ∈ st, zvok κ v) → st.map (zcv e0 ad') = st.map (zcv e0 ad)
  | [], _ => rfl
  | v :: t, hv => by rw [List.map_cons, List.map_cons, zcv_same h (zvok_head hv), zmap_same h (zvok_tail hv)]
theorem zpairs_same {ad ad' : Nat → Nat → Nat} {κ : ZK} (h : ∀ r o, κ r o ≠ none → ad' r o = ad r o) : ∀ {st : List ZV} {i : Nat}, (∀ v ∈ st, zvok κ v) → zpairs e0 ad' i st = zpairs e0 ad i st
  | [], _, _ => rfl
  | v :: t, i, hv => by unfold zpairs; rw [zcv_same h (zvok_head hv), zpairs_same h (zvok_tail hv)]
theorem zvok_le {μ μ' : ZM} (h : zle μ μ') {v : ZV} (hv : zvok μ.1 v) : zvok μ'.1 v := by
  rcases v with n | n | ⟨t, r, o⟩
  · exact hv
  · exact hv
  · intro ht
    rw [h.1 r o (hv ht)]
    exact hv ht
/-- behind a call -/
theorem zo_back {rest : List ZV} {rv : Option ZV} {L : List (Nat × Nat)} {ad : Nat → Nat → Nat} {H : Heap} {locs : List Loc} {ls : Array Slot} {cells slots : Nat} {st0 : List Value} {a : Array Value} (hle : zle μ μ') (hAs : ∀ q : Nat, s.heap.size ≤ q → A q)
    (hext : ∀ q ∈ L0, q ∈ L ∧ ad q.1 q.2 = ad0 q.1 q.2) (hrel : zRel D cA e0 bS nS xS A s L ad μ.1 μ.2.1 μ.2.2.1 H locs) (hl : lv_has ls lsv.length (zpairs e0 ad 0 lsv)) (hlv : ∀ v ∈ lsv, zvok μ.1 v) (hsv : ∀ v ∈ rest, zvok μ.1 v) (hc : cells + u0 = μ.2.2.2.2.1) (hs : slots + v0 = μ.2.2.2.2.2)
    (hrun : va_Run p l e R s m args below meth c H locs cells slots (μ'.2.2.2.2.1 - μ.2.2.2.2.1) (μ'.2.2.2.2.2 - μ.2.2.2.2.2) (F0 m pc ls st0) (rest.map (zcv e0 ad)) (zQc D cA e0 bS nS xS L ad (zA ad L H.size) rv μ' a) (zA ad L H.size))
    (kk : zcont D cA e0 bS nS xS A p l e R s m args below meth c Q L0 ad0 u0 v0 (pc + 3) lsv (rv.toList ++ rest) μ') : W p l e R s m args below meth c H locs cells slots Q (F0 m pc ls st0) := by
  have hsz : ∀ q : Nat, H.size ≤ q → A q := fun q h => hAs q (Nat.le_trans hrel.2.2.1.1 h)
  have hin := zA_in hrel.2.1 hsz
  have go : ∀ (u : List (Nat × Nat) × (Nat → Nat → Nat)) (t : State) (H1 : Heap) (locs1 : List Loc) (vs : List ZV), t.heap = H1 → zB D cA e0 bS nS xS L ad (zA ad L H.size) μ' u t → va_S A s.heap H1 locs1 → (∀ v ∈ vs, zvok μ'.1 v) → rv.toList = vs → W p l e R s m args below meth c H1 locs1 (cells + (μ'.2.2.2.2.1 - μ.2.2.2.2.1)) (slots + (μ'.2.2.2.2.2 - μ.2.2.2.2.2)) Q (F0 m (pc + 3) ls (vs.map (zcv e0 u.2) ++ rest.map (zcv e0 ad))) := by
    intro u t H1 locs1 vs ht hB hS1 hvs hrv
    obtain ⟨b1, b2, b3, b4, b5, b6⟩ := hB
    have hsame : ∀ r o, μ.1 r o ≠ none → u.2 r o = ad r o := by
      intro r o hne
      cases hk : μ.1 r o with
      | none => exact absurd hk hne
      | some w =>
        obtain ⟨k, n⟩ := w
        by_cases h6 : k = 6
        · subst h6
          have e1 : μ'.1 r o = some (6, n) := (hle.1 r o hne).trans hk
          rw [((b5.1 r o 6 n e1).2.2.2 rfl).1, ((hrel.2.2.2.2.2.1 r o 6 n hk).2.2.2 rfl).1]
        · exact (b6 (r, o) ((hrel.2.2.2.2.1 r o).mpr ⟨k, n, hk, h6⟩)).2
    have kx := kk u.1 u.2 H1 locs1 ls (cells + (μ'.2.2.2.2.1 - μ.2.2.2.2.1)) (slots + (μ'.2.2.2.2.2 - μ.2.2.2.2.2)) (fun z hz => by
        obtain ⟨h1, h2⟩ := hext z hz
        exact ⟨(b6 z h1).1, (b6 z h1).2.trans h2⟩) ⟨by rw [← ht]; exact b1, ⟨b2.1, fun k q hq => hin _ (b2.2 k q hq)⟩, hS1, b3, b4, b5⟩ (by rw [zpairs_same hsame hlv]; exact hl) (fun v hv => zvok_le hle (hlv v hv)) (fun v hv => by
        rcases List.mem_append.mp hv with h | h
        · rw [hrv] at h; exact hvs v h
        · exact zvok_le hle (hsv v h)) (by have := hle.2.1; omega) (by have := hle.2.2; omega)
    rw [List.map_append, zmap_same hsame hsv, hrv] at kx
    exact kx
  match rv, hrun, go with
  | none, hrun, go =>
    refine va_callv (a := a) hrun hrel.2.2.1 (fun q _ h => hin q h) hin fun u t H1 locs1 ht hvm _ hB hz1 hk1 hS1 => ?_
    exact go u t H1 locs1 [] ht hB hS1 (fun v hv => by cases hv) rfl
  | some (.inl x), hrun, go =>
    refine va_calli (a := a) hrun hrel.2.2.1 (fun q _ h => hin q h) hin fun r u t H1 locs1 ht hvm hw hB hz1 hk1 hS1 => ?_
    rw [hw.1]
    exact go u t H1 locs1 [.inl x] ht hB hS1 (fun v hv => by rw [List.mem_singleton] at hv; rw [hv]; exact hw.2) rfl
  | some (.inr (.inl x)), hrun, go =>
    refine va_calll (a := a) hrun hrel.2.2.1 (fun q _ h => hin q h) hin fun r u t H1 locs1 ht hvm hw hB hz1 hk1 hS1 => ?_
    rw [hw.1]
    exact go u t H1 locs1 [.inr (.inl x)] ht hB hS1 (fun v hv => by rw [List.mem_singleton] at hv; rw [hv]; exact hw.2) rfl
  | some (.inr (.inr x)), hrun, go =>
    intro T hT X
    obtain ⟨v, st₀, t, T', L, h0, X', hL, e1, e2, hq, -⟩ := hrun T hT X
    exact hq.elim
/-- what a call begins with -/
theorem zPc_pre {as : List ZV} {L : List (Nat × Nat)} {ad : Nat → Nat → Nat} {H : Heap} {locs : List Loc} (hE : zEnv D cA e0 s) (hRO : zRO e0 bS nS xS A s s.heap) (hrel : zRel D cA e0 bS nS xS A s L ad μ.1 μ.2.1 μ.2.2.1 H locs) (hAs : ∀ q : Nat, s.heap.size ≤ q → A q) :
    FrameBlind (zPc D cA e0 bS nS xS L ad μ as H.size) ∧ ∀ U : State, U.heap = H → s.WarmedH U.vm → zPc D cA e0 bS nS xS L ad μ as H.size (as.map (zcv e0 ad)).toArray U := by
  have hsz : ∀ q : Nat, H.size ≤ q → A q := fun q h => hAs q (Nat.le_trans hrel.2.2.1.1 h)
  have hin := zA_in hrel.2.1 hsz
  refine ⟨fun a U g mk q => ?_, fun U hU hW => ⟨rfl, by rw [hU], hE.moved hW, ?_, by rw [hU]; exact hrel.1, ⟨hrel.2.1.1, fun k q hq => ?_⟩⟩⟩
  · obtain ⟨q0, q1, q2, q3, q4, q5⟩ := q
    have hvm : (U.calling g mk a).vm = U.vm := rfl
    refine ⟨q0, q1, ?_, ?_, q4, q5⟩
    · obtain ⟨h1, h2, h3, h4, h5⟩ := q2
      refine ⟨va_K.moved (u := U) (U := U.calling g mk a) (Vm.Alike.refl U.vm) h1, fun w hw => ?_, va_AO.moved (u := U) (U := U.calling g mk a) (Vm.Alike.refl U.vm) h3, zAOA.moved (u := U) (U := U.calling g mk a) (Vm.Alike.refl U.vm) h4, fun k hk => ?_⟩
      · have hz := h2 w hw
        have ho : w.onTables = true := by
          unfold znest at hw
          simp only [List.mem_cons, List.not_mem_nil, or_false] at hw
          rcases hw with rfl | rfl | rfl | rfl | rfl | rfl | rfl | rfl | rfl | rfl | rfl | rfl | rfl | rfl <;> rfl
        exact va_Nw.same ho hvm.symm hz
      · obtain ⟨q, a9, b9⟩ := h5 k hk
        exact ⟨q, a9, vk_R.same hvm b9⟩
    · obtain ⟨⟨adK, adV, h0, h1⟩, h2, h3, h4, h5, h6⟩ := q3
      exact ⟨⟨adK, adV, h0, vk_S.moved (u := U) (U := U.calling g mk a) (Vm.Alike.refl U.vm) h1⟩, va_Z.moved (u := U) (U := U.calling g mk a) (Vm.Alike.refl U.vm) h2, va_Z.moved (u := U) (U := U.calling g mk a) (Vm.Alike.refl U.vm) h3, va_X.moved (u := U) (U := U.calling g mk a) (Vm.Alike.refl U.vm) h4, h5, h6⟩
  · rw [hU]
    exact zRO.kept hW hrel.2.2.1.2.1 hin hrel.2.2.1.1 hRO
  · unfold zws at hq
    rw [List.getElem?_map] at hq
    cases hz : L[k]? with
    | none => rw [hz] at hq; cases hq
    | some z =>
      rw [hz] at hq
      cases hq
      exact Or.inl ⟨z, List.mem_of_getElem? hz, rfl⟩
end ZQ
