/-! new cells; what is read alone -/
section ZE
variable {D : va_G} {cA : Nat → ClassId} {e0 : Nat → Nat → Option Nat} {bS nS : Nat} {xS : Nat → Int} {A : Nat → Prop} {p : Program} {l : Launch} {e : Env} {R : Room} {s : State} {m : MethodId} {args : Array Value} {below : List Frame} {meth : Method} {c : Code} {Q : State → Prop} {L0 : List (Nat × Nat)} {ad0 : Nat → Nat → Nat} {u0 v0 : Nat}
variable {own nm : String} {cc : ByteArray} {nL pc : Nat} {lsv stv lsv' stv' : List ZV} {μ μ' : ZM}
theorem zvok_zn {κ : ZK} : zvok κ zn := fun h => absurd h (by decide)
/-- one address more -/
def zad (ad : Nat → Nat → Nat) (r o q : Nat) : Nat → Nat → Nat := fun r' o' => if r' = r ∧ o' = o then q else ad r' o'
theorem zcv_ad {ad : Nat → Nat → Nat} {κ : ZK} {r o q : Nat} (hf : κ r o = none) {v : ZV} (hv : zvok κ v) : zcv e0 (zad ad r o q) v = zcv e0 ad v := by
  rcases v with n | n | ⟨t, r', o'⟩
  · rfl
  · rfl
  · unfold zcv zad
    by_cases h : t = 1
    · have hne : ¬ (r' = r ∧ o' = o) := fun z => hv h (by rw [z.1, z.2]; exact hf)
      simp only [h, if_true, if_neg hne]
    · simp only [h, if_false]
theorem zop1_ad {ad : Nat → Nat → Nat} {κ : ZK} {r o q : Nat} (hf : κ r o = none) {v : ZV} (hv : zvok κ v) : zop1 (zad ad r o q) v = zop1 ad v := by
  rcases v with n | n | ⟨t, r', o'⟩
  · rfl
  · rfl
  · unfold zop1 zad
    by_cases h : t = 1
    · have hne : ¬ (r' = r ∧ o' = o) := fun z => hv h (by rw [z.1, z.2]; exact hf)
      simp only [h, if_true, if_neg hne]
    · simp only [h, if_false]
theorem zvok_uk {κ : ZK} {r o : Nat} {w : Nat × Nat} {v : ZV} (hv : zvok κ v) : zvok (zuk κ r o w) v := by
  rcases v with n | n | ⟨t, r', o'⟩
  · exact hv
  · exact hv
  · intro h
    have h1 := hv h
    unfold zuk
    split
    · exact fun z => by cases z
    · exact h1
theorem zmap_ad {ad : Nat → Nat → Nat} {κ : ZK} {r o q : Nat} (hf : κ r o = none) : ∀ {st : List ZV}, (∀ v ∈ st, zvok κ v) → st.map (zcv e0 (zad ad r o q)) = st.map (zcv e0 ad)
  | [], _ => rfl
  | v :: t, h => by
    rw [List.map_cons, List.map_cons, zcv_ad hf (zvok_head h), zmap_ad hf (zvok_tail h)]
theorem zpairs_ad {ad : Nat → Nat → Nat} {κ : ZK} {r o q : Nat} (hf : κ r o = none) : ∀ {st : List ZV} {i : Nat}, (∀ v ∈ st, zvok κ v) → zpairs e0 (zad ad r o q) i st = zpairs e0 ad i st
  | [], _, _ => rfl
  | v :: t, i, h => by
    unfold zpairs
    rw [zcv_ad hf (zvok_head h), zpairs_ad hf (zvok_tail h)]
theorem zcell_ad {ad : Nat → Nat → Nat} {κ : ZK} {f : ZF} {a : ZA} {r o q : Nat} {w : Nat × Nat} {g : Nat → ZV} {h : Nat → Int} (hf : κ r o = none) (hok : ∀ r o j, zvok κ (f r o j)) {r' o' : Nat} (hne : ¬ (r' = r ∧ o' = o)) :
    zcell cA e0 (zad ad r o q) (zuk κ r o w) (zuF f r o g) (zuA a r o h) r' o' = zcell cA e0 ad κ f a r' o' := by
  have e1 : zuk κ r o w r' o' = κ r' o' := by unfold zuk; rw [if_neg hne]
  have e2 : ∀ j, zuF f r o g r' o' j = f r' o' j := fun j => by unfold zuF; rw [if_neg hne]
  have e3 : ∀ j, zuA a r o h r' o' j = a r' o' j := fun j => by unfold zuA; rw [if_neg hne]
  unfold zcell
  rw [e1]
  have e4 : (fun j => zop1 (zad ad r o q) (zuF f r o g r' o' j)) = fun j => zop1 ad (f r' o' j) := funext fun j => by rw [e2, zop1_ad hf (hok r' o' j)]
  have e5 : (fun j => zcv e0 (zad ad r o q) (zuF f r o g r' o' j)) = fun j => zcv e0 ad (f r' o' j) := funext fun j => by rw [e2, zcv_ad hf (hok r' o' j)]
  simp only [e3, e4, e5]
theorem zws_new {ad : Nat → Nat → Nat} {κ : ZK} {f : ZF} {a : ZA} {L : List (Nat × Nat)} {r o q : Nat} {w : Nat × Nat} {g : Nat → ZV} {h : Nat → Int} (hf : κ r o = none) (hok : ∀ r o j, zvok κ (f r o j)) (hL : (r, o) ∉ L) :
    zws cA e0 (zad ad r o q) (zuk κ r o w) (zuF f r o g) (zuA a r o h) (L ++ [(r, o)]) = zws cA e0 ad κ f a L ++ [(q, zcell cA e0 (zad ad r o q) (zuk κ r o w) (zuF f r o g) (zuA a r o h) r o)] := by
  unfold zws
  rw [List.map_append]
  congr 1
  · apply List.map_congr_left
    intro z hz
    have hne : ¬ (z.1 = r ∧ z.2 = o) := fun y => hL (by rw [← y.1, ← y.2]; exact hz)
    have e6 : zad ad r o q z.1 z.2 = ad z.1 z.2 := by unfold zad; rw [if_neg hne]
    rw [e6, zcell_ad hf hok hne]
  · simp [zad]
theorem zRel_new {L : List (Nat × Nat)} {ad : Nat → Nat → Nat} {κ : ZK} {f : ZF} {a : ZA} {H1 : Heap} {locs1 : List Loc} {r o q k n : Nat} {g : Nat → ZV} (hrel : zRel D cA e0 bS nS xS A s L ad κ f a H1 locs1) (hf : κ r o = none) (h6 : k ≠ 6)
    (hg : ∀ j, zvok (zuk κ r o (k, n)) (g j)) (hg4 : k = 4 ∨ k = 5 → ∀ j, ∃ t r' o', g j = .inr (.inr (t, r', o')) ∧ t ≤ 1)
    (hP : va_P D vwCl (zws cA e0 ad κ f a L ++ [(q, zcell cA e0 (zad ad r o q) (zuk κ r o (k, n)) (zuF f r o g) (zuA a r o (fun _ => 0)) r o)]) H1) (hD : va_D A (zws cA e0 ad κ f a L ++ [(q, zcell cA e0 (zad ad r o q) (zuk κ r o (k, n)) (zuF f r o g) (zuA a r o (fun _ => 0)) r o)])) :
    zRel D cA e0 bS nS xS A s (L ++ [(r, o)]) (zad ad r o q) (zuk κ r o (k, n)) (zuF f r o g) (zuA a r o (fun _ => 0)) H1 locs1 := by
  obtain ⟨h1, h2, h3, h4, h5, h6', h7⟩ := hrel
  have hL : (r, o) ∉ L := fun z => by
    obtain ⟨k', n', e1, -⟩ := (h5 r o).mp z
    rw [hf] at e1
    cases e1
  rw [← zws_new hf h7 hL] at hP hD
  refine ⟨hP, hD, h3, ?_, fun r' o' => ?_, fun r' o' k' n' hk' => ?_, fun r' o' j => ?_⟩
  · rw [List.nodup_append]
    exact ⟨h4, by simp, fun x hx y hy => by
      simp only [List.mem_singleton] at hy
      subst hy
      intro z
      subst z
      exact hL hx⟩
  · rw [List.mem_append, List.mem_singleton]
    unfold zuk
    by_cases hne : r' = r ∧ o' = o
    · rw [if_pos hne]
      exact ⟨fun _ => ⟨k, n, rfl, h6⟩, fun _ => Or.inr (Prod.ext hne.1 hne.2)⟩
    · rw [if_neg hne, ← h5]
      exact ⟨fun z => z.resolve_right (fun y => hne ⟨congrArg Prod.fst y, congrArg Prod.snd y⟩), Or.inl⟩
  · by_cases hne : r' = r ∧ o' = o
    · unfold zuk at hk'
      rw [if_pos hne] at hk'
      cases hk'
      have ea : ∀ j, zuA a r o (fun _ => 0) r' o' j = 0 := fun j => by unfold zuA; rw [if_pos hne]
      have ef : ∀ j, zuF f r o g r' o' j = g j := fun j => by unfold zuF; rw [if_pos hne]
      exact ⟨fun _ j => by rw [ea]; exact ⟨zI32_0, fun _ => Or.inl rfl⟩, fun _ j => by rw [ea]; unfold zI64; omega, fun z j => by rw [ef]; exact hg4 z j, fun z => absurd z h6⟩
    · unfold zuk at hk'
      rw [if_neg hne] at hk'
      obtain ⟨g1, g2, g3, g4⟩ := h6' r' o' k' n' hk'
      have ea : ∀ j, zuA a r o (fun _ => 0) r' o' j = a r' o' j := fun j => by unfold zuA; rw [if_neg hne]
      have ef : ∀ j, zuF f r o g r' o' j = f r' o' j := fun j => by unfold zuF; rw [if_neg hne]
      have ed : zad ad r o q r' o' = ad r' o' := by unfold zad; rw [if_neg hne]
      exact ⟨fun z j => by rw [ea]; exact g1 z j, fun z j => by rw [ea]; exact g2 z j, fun z j => by rw [ef]; exact g3 z j, fun z => ⟨by rw [ed]; exact (g4 z).1, (g4 z).2.1, fun j => by rw [ea]; exact (g4 z).2.2 j⟩⟩
  · by_cases hne : r' = r ∧ o' = o
    · have ef : zuF f r o g r' o' j = g j := by unfold zuF; rw [if_pos hne]
      rw [ef]
      exact hg j
    · have ef : zuF f r o g r' o' j = f r' o' j := by unfold zuF; rw [if_neg hne]
      rw [ef]
      exact zvok_uk (h7 r' o' j)
theorem zext_new {L : List (Nat × Nat)} {ad : Nat → Nat → Nat} {κ : ZK} {f : ZF} {a : ZA} {H1 : Heap} {locs1 : List Loc} {r o q : Nat} (hrel : zRel D cA e0 bS nS xS A s L ad κ f a H1 locs1) (hf : κ r o = none) (hext : ∀ z ∈ L0, z ∈ L ∧ ad z.1 z.2 = ad0 z.1 z.2) : ∀ z ∈ L0, z ∈ L ++ [(r, o)] ∧ zad ad r o q z.1 z.2 = ad0 z.1 z.2 := fun z hz => by
  obtain ⟨h1, h2⟩ := hext z hz
  refine ⟨List.mem_append_left _ h1, ?_⟩
  unfold zad
  rw [if_neg, h2]
  intro y
  obtain ⟨k', n', e1, -⟩ := (hrel.2.2.2.2.1 z.1 z.2).mp h1
  rw [y.1, y.2, hf] at e1
  cases e1
/-- the class of the arrays of a kind is the one of that name -/
theorem zcA_eq {s : State} (hE : zEnv D cA e0 s) {k : Nat} {ty : FieldType} (hk : (zTY cA)[k]? = some (cA k, ty)) {cy : ClassId} (h : va_RA s cy ty) : cy = cA k := by
  have h1 := (hE.1.2 k _ hk).2
  cases ty with
  | object C =>
    obtain ⟨-, -, -, -, -, a⟩ := h
    obtain ⟨-, -, -, -, -, b⟩ := h1
    exact Option.some.inj (a.symm.trans b)
  | _ => exact Option.some.inj (Eq.trans (Eq.symm h) h1)
theorem zarr_cell {k n : Nat} {ty : FieldType} (hk : (zTY cA)[k]? = some (cA k, ty)) (hk5 : k ≤ 5) {κ : ZK} {f : ZF} {a : ZA} {r o : Nat} (hf : κ r o = some (k, n)) (h0 : ∀ j, a r o j = 0) (hz : ∀ j, f r o j = zn) :
    ∃ z : vp_A, (∀ ad : Nat → Nat → Nat, zcell cA e0 ad κ f a r o = .inl (cA k, z)) ∧ ∀ c : ClassId, vp_cell c z = arrV c n (fun _ => defaultValue ty) := by
  have e4 : ∀ ad : Nat → Nat → Nat, (fun j => zop1 ad (f r o j)) = fun _ => none := fun ad => funext fun j => by rw [hz]; rfl
  have ea : (fun j => Int32.ofInt (a r o j)) = fun _ => 0 := funext fun j => by rw [h0]; rfl
  have eb : (fun j => Int64.ofInt (a r o j)) = fun _ => 0 := funext fun j => by rw [h0]; rfl
  match k, hk5, hk with
  | 0, _, hk => cases hk; exact ⟨(n, .inl fun _ => 0), fun ad => by rw [zcell_n hf (by omega), ea], fun c => by rw [vp_cell_i]; rfl⟩
  | 1, _, hk => cases hk; exact ⟨(n, .inl fun _ => 0), fun ad => by rw [zcell_n hf (by omega), ea], fun c => by rw [vp_cell_i]; rfl⟩
  | 2, _, hk => cases hk; exact ⟨(n, .inl fun _ => 0), fun ad => by rw [zcell_n hf (by omega), ea], fun c => by rw [vp_cell_i]; rfl⟩
  | 3, _, hk => cases hk; exact ⟨(n, .inr (.inl fun _ => 0)), fun ad => by rw [zcell_l hf, eb], fun c => by rw [vp_cell_l]; rfl⟩
  | 4, _, hk => cases hk; exact ⟨(n, .inr (.inr (.inr (.inr fun _ => none)))), fun ad => by rw [zcell_q hf (by omega), e4], fun c => by rw [vp_cell_q]; rfl⟩
  | 5, _, hk => cases hk; exact ⟨(n, .inr (.inr (.inr (.inr fun _ => none)))), fun ad => by rw [zcell_q hf (by omega), e4], fun c => by rw [vp_cell_q]; rfl⟩
theorem zP_pre {X Y : va_W} {H : Heap} (h : va_P D vwCl (X ++ Y) H) : va_P D vwCl X H := fun k q hk => h k q (by rw [List.getElem?_append_left (List.getElem?_eq_some_iff.mp hk).1]; exact hk)
theorem zD_pre {X Y : va_W} (h : va_D A (X ++ Y)) : va_D A X := ⟨fun i j x y hi hj => h.1 i j x y (by rw [List.getElem?_append_left (List.getElem?_eq_some_iff.mp hi).1]; exact hi) (by rw [List.getElem?_append_left (List.getElem?_eq_some_iff.mp hj).1]; exact hj), fun k q hk => h.2 k q (by rw [List.getElem?_append_left (List.getElem?_eq_some_iff.mp hk).1]; exact hk)⟩
/-- behind an instruction that makes one cell -/
theorem zo_alloc {r o k n : Nat} {g : Nat → ZV} {κ : ZK} {f : ZF} {a : ZA} {ns : List (Nat × Nat)} {c0 s0 len : Nat} {st0 : List ZV} (hfree : κ r o = none) (h6 : k ≠ 6) (hg : ∀ j, zvok (zuk κ r o (k, n)) (g j)) (hg4 : k = 4 ∨ k = 5 → ∀ j, ∃ t r' o', g j = .inr (.inr (t, r', o')) ∧ t ≤ 1)
    (kk : zcont D cA e0 bS nS xS A p l e R s m args below meth c Q L0 ad0 u0 v0 (pc + len) lsv (.inr (.inr (1, r, o)) :: st0) (zuk κ r o (k, n), zuF f r o g, zuA a r o (fun _ => 0), ns, c0 + 1, s0 + n))
    {L : List (Nat × Nat)} {ad : Nat → Nat → Nat} {H H1 : Heap} {locs locs1 : List Loc} {ls : Array Slot} {cells slots q : Nat} (hext : ∀ q ∈ L0, q ∈ L ∧ ad q.1 q.2 = ad0 q.1 q.2) (hrel : zRel D cA e0 bS nS xS A s L ad κ f a H locs) (hl : lv_has ls lsv.length (zpairs e0 ad 0 lsv))
    (hlv : ∀ v ∈ lsv, zvok κ v) (hsv : ∀ v ∈ st0, zvok κ v) (hc : cells + u0 = c0) (hs : slots + v0 = s0)
    (hP1 : va_P D vwCl (zws cA e0 ad κ f a L ++ [(q, zcell cA e0 (zad ad r o q) (zuk κ r o (k, n)) (zuF f r o g) (zuA a r o (fun _ => 0)) r o)]) H1) (hD1 : va_D A (zws cA e0 ad κ f a L ++ [(q, zcell cA e0 (zad ad r o q) (zuk κ r o (k, n)) (zuF f r o g) (zuA a r o (fun _ => 0)) r o)])) (hS1 : va_S A s.heap H1 locs1) :
    W p l e R s m args below meth c H1 locs1 (cells + 1) (slots + n) Q (F0 m (pc + len) ls (.ref q :: st0.map (zcv e0 ad))) := by
  have hrel1 : zRel D cA e0 bS nS xS A s L ad κ f a H1 locs1 := ⟨zP_pre hP1, zD_pre hD1, hS1, hrel.2.2.2⟩
  have hrel2 := zRel_new hrel1 hfree h6 hg hg4 hP1 hD1
  have kx := kk (L ++ [(r, o)]) (zad ad r o q) H1 locs1 ls (cells + 1) (slots + n) (zext_new hrel1 hfree hext) hrel2 (by rw [zpairs_ad hfree hlv]; exact hl) (fun v hv => zvok_uk (hlv v hv)) (zvok_cons (fun _ z => by simp [zuk] at z) (fun v hv => zvok_uk (hsv v hv))) (by dsimp only; omega) (by dsimp only; omega)
  rw [List.map_cons, zmap_ad hfree hsv] at kx
  have e1 : zcv e0 (zad ad r o q) (.inr (.inr (1, r, o))) = .ref q := by simp [zcv, zad]
  rw [e1] at kx
  exact kx
theorem zo_newa (F : zFr D cA e0 bS nS xS A p s m args meth c own nm cc nL) {t : ClassFile.ArrayType} (hw : Cond.arrayClass (newarray.typeOf t) ∈ zgood) (ht : (zTY cA)[zakind t]? = some (cA (zakind t), newarray.typeOf t)) (ht3 : zakind t ≤ 3) (hcb : componentBytes (newarray.typeOf t) ≤ 8) (hdg : decode cc pc = .ok (.newarray t, 2)) (h : znewa (zakind t) stv lsv μ = some (lsv', stv', μ'))
    (hR : μ'.2.2.2.2.1 ≤ R.cells + u0 ∧ μ'.2.2.2.2.2 ≤ R.slots + v0)
    (kk : zcont D cA e0 bS nS xS A p l e R s m args below meth c Q L0 ad0 u0 v0 (pc + 2) lsv' stv' μ') : zcont D cA e0 bS nS xS A p l e R s m args below meth c Q L0 ad0 u0 v0 pc lsv stv μ := by
  obtain ⟨hx, hb, hml, hown, hts, hE, hRO, hlk, hnm, hA⟩ := F
  unfold znewa at h
  split at h
  · rename_i n st0
    split at h
    · rename_i hn0
      split at h
      · rename_i r o μ1 hz
        cases h
        unfold znew at hz
        split at hz
        · rename_i κ f a r' o' ns c0 s0
          split at hz
          · rename_i hfree
            cases hz
            intro L ad H locs ls cells slots hext hrel hl hlv hsv hc hs
            dsimp only at hrel hc hs hlv hsv hR
            have hnI : zI32 n := zvok_head hsv
            obtain ⟨z, hz1, hz2⟩ := zarr_cell (e0 := e0) ht (by omega) (κ := zuk κ r o (zakind t, n.toNat)) (f := zuF f r o (fun _ => zn)) (a := zuA a r o (fun _ => 0)) (r := r) (o := o) (n := n.toNat) (by simp [zuk]) (fun j => by simp [zuA]) (fun j => by simp [zuF])
            rw [List.map_cons]
            show W p l e R s m args below meth c H locs cells slots Q (F0 m pc ls (.int (Int32.ofInt n) :: _))
            have hnn : ¬ Int32.ofInt n < 0 := fun q => by have := (zlt32 hnI zI32_0).mp q; omega
            have hN : (Int32.ofInt n).toNatClampNeg = n.toNat := by
              show ((Int32.ofInt n).toInt).toNat = n.toNat
              rw [zI32_to hnI]
            refine va_newa (D := D) (cl := vwCl) (a0 := z) (ty := newarray.typeOf t) hx hb (hts _ hw) rfl hE.1 hrel.1 hrel.2.1 hrel.2.2.1 hA hz2 hnn hN (by
              have h1 : n.toNat ≤ 1000000 := by omega
              have h2 : n.toNat * componentBytes (newarray.typeOf t) ≤ 1000000 * 8 := Nat.mul_le_mul h1 hcb
              omega) (by omega) (by omega) hdg fun q cy H1 hK1 hP1 hD1 hS1 => ?_
            have hcy : cy = cA (zakind t) := zcA_eq hE ht (hK1.2 6 (cy, newarray.typeOf t) (by rfl)).2
            rw [hcy, ← hz1 (zad ad r o q)] at hP1 hD1
            exact zo_alloc (k := zakind t) (n := n.toNat) (g := fun _ => zn) hfree (by omega) (fun j => zvok_zn) (fun _ j => ⟨0, 0, 0, rfl, by omega⟩) kk hext hrel hl hlv (zvok_tail hsv) hc hs hP1 hD1 hS1
          · cases hz
        · cases hz
      · cases h
    · cases h
  · cases h
theorem zo_anew (F : zFr D cA e0 bS nS xS A p s m args meth c own nm cc nL) {idx : Nat} (hw : Cond.classLink own idx "PaperWay$Job" ∈ zgood) (hdg : decode cc pc = .ok (.anewarray idx, 3)) (h : znewa 4 stv lsv μ = some (lsv', stv', μ'))
    (hR : μ'.2.2.2.2.1 ≤ R.cells + u0 ∧ μ'.2.2.2.2.2 ≤ R.slots + v0)
    (kk : zcont D cA e0 bS nS xS A p l e R s m args below meth c Q L0 ad0 u0 v0 (pc + 3) lsv' stv' μ') : zcont D cA e0 bS nS xS A p l e R s m args below meth c Q L0 ad0 u0 v0 pc lsv stv μ := by
  obtain ⟨hx, hb, hml, hown, hts, hE, hRO, hlk, hnm, hA⟩ := F
  unfold znewa at h
  split at h
  · rename_i n st0
    split at h
    · rename_i hn0
      split at h
      · rename_i r o μ1 hz
        cases h
        unfold znew at hz
        split at hz
        · rename_i κ f a r' o' ns c0 s0
          split at hz
          · rename_i hfree
            cases hz
            intro L ad H locs ls cells slots hext hrel hl hlv hsv hc hs
            dsimp only at hrel hc hs hlv hsv hR
            have hnI : zI32 n := zvok_head hsv
            rw [List.map_cons]
            show W p l e R s m args below meth c H locs cells slots Q (F0 m pc ls (.int (Int32.ofInt n) :: _))
            have hnn : ¬ Int32.ofInt n < 0 := fun q => by have := (zlt32 hnI zI32_0).mp q; omega
            have hN : (Int32.ofInt n).toNatClampNeg = n.toNat := by
              show ((Int32.ofInt n).toInt).toNat = n.toNat
              rw [zI32_to hnI]
            refine va_newq (D := D) (cl := vwCl) hx hb hown (hts _ hw) hE.2.2.1 hE.1 hrel.1 hrel.2.1 hrel.2.2.1 hA hnn hN (by omega) (by omega) (by omega) hdg fun q cy H1 hK1 hP1 hD1 hS1 => ?_
            have hcy : cy = cA 4 := zcA_eq hE (k := 4) rfl (hK1.2 6 (cy, .object "PaperWay$Job") (by rfl)).2
            have e4 : (fun j => zop1 (zad ad r o q) (zuF f r o (fun _ => zn) r o j)) = fun _ => none := funext fun j => by simp [zuF, zop1]
            have hz1 : zcell cA e0 (zad ad r o q) (zuk κ r o (4, n.toNat)) (zuF f r o (fun _ => zn)) (zuA a r o (fun _ => 0)) r o = .inl (cA 4, n.toNat, .inr (.inr (.inr (.inr fun _ => none)))) := by
              rw [zcell_q (k := 4) (n := n.toNat) (by simp [zuk]) (by omega), e4]
            rw [hcy, ← hz1] at hP1 hD1
            exact zo_alloc (k := 4) (n := n.toNat) (g := fun _ => zn) hfree (by omega) (fun j => zvok_zn) (fun _ j => ⟨0, 0, 0, rfl, by omega⟩) kk hext hrel hl hlv (zvok_tail hsv) hc hs hP1 hD1 hS1
          · cases hz
        · cases hz
      · cases h
    · cases h
  · cases h
theorem zo_new (F : zFr D cA e0 bS nS xS A p s m args meth c own nm cc nL) {idx : Nat} {pl : ZP} (hN : pl.1 < 13 → pl.2.1 = (zcl pl.1).2.2) (hw1 : pl.1 < 13 → Cond.classLink own idx (zcl pl.1).1 ∈ zgood) (hw2 : pl.1 < 13 → Cond.instantiable (zcl pl.1).1 (zcl pl.1).2.2 ∈ zgood) (hw3 : pl.1 < 13 → Cond.initialized (zcl pl.1).1 ∈ zgood)
    (hdg : decode cc pc = .ok (.new idx, 3)) (hn0 : ∀ r, e0 0 r = none) (h : znewo pl stv lsv μ = some (lsv', stv', μ')) (hR : μ'.2.2.2.2.1 ≤ R.cells + u0 ∧ μ'.2.2.2.2.2 ≤ R.slots + v0)
    (kk : zcont D cA e0 bS nS xS A p l e R s m args below meth c Q L0 ad0 u0 v0 (pc + 3) lsv' stv' μ') : zcont D cA e0 bS nS xS A p l e R s m args below meth c Q L0 ad0 u0 v0 pc lsv stv μ := by
  obtain ⟨hx, hb, hml, hown, hts, hE, hRO, hlk, hnm, hA⟩ := F
  obtain ⟨ci, N, pz⟩ := pl
  unfold znewo at h
  split at h
  · rename_i hci
    have hN := hN hci
    have hw1 := hw1 hci
    have hw2 := hw2 hci
    have hw3 := hw3 hci
    dsimp only at h hN hw1 hw2 hw3 hci
    split at h
    · rename_i r o μ1 hz
      cases h
      unfold znew at hz
      split at hz
      · rename_i κ f a r' o' ns c0 s0
        split at hz
        · rename_i hfree
          cases hz
          intro L ad H locs ls cells slots hext hrel hl hlv hsv hc hs
          dsimp only at hrel hc hs hlv hsv hR
          have hgz : ∀ j, zdfl ci (zsrt ci) j = zn ∨ zdfl ci (zsrt ci) j = .inl 0 := fun j => by unfold zdfl; split; exact Or.inl rfl; exact Or.inr rfl
          refine va_new (D := D) (cl := vwCl) (ci := ci) (fs := (List.range N).map fun j => zcv e0 ad (zdfl ci (zsrt ci) j)) (C := (zcl ci).1) (T := (zcl ci).2.1) (N := (zcl ci).2.2) hx hb hts (zcl_in hci) (zty ci) (zty_ok hci) hown (hts _ hw1) (hts _ hw2) (hts _ hw3) hE.1 hrel.1 hrel.2.1 hrel.2.2.1 hA (zcl_at hci) (fun j hj => ?_) (by omega) (by omega) hdg fun q H1 hP1 hD1 hS1 => ?_
          · unfold vp_V
            rw [List.getD_eq_getElem?_getD, List.getElem?_map, List.getElem?_range (by omega)]
            obtain ⟨s2, s0, s1⟩ := zsok_at hci hj
            have h1 := List.all_eq_true.mp zsok_all ci (List.mem_range.mpr hci)
            have h2 := List.all_eq_true.mp h1 j (List.mem_range.mpr hj)
            show defaultValue (zty ci j) = zcv e0 ad (zdfl ci (zsrt ci) j)
            unfold zdfl
            revert h2
            cases hty : zty ci j <;> intro h2 <;> simp only [beq_iff_eq] at h2 <;> first
              | (rw [h2, if_neg (by decide)]; rfl)
              | (rw [h2, if_pos rfl]; unfold zcv; simp only [if_neg (show ¬ (0 : Nat) = 1 by decide), hn0]; rfl)
              | cases h2
          · have e4 : ((List.range N).map fun j => zcv e0 ad (zdfl ci (zsrt ci) j)) = (List.range N).map fun j => zcv e0 (zad ad r o q) (zuF f r o (zdfl ci (zsrt ci)) r o j) := by
              apply List.map_congr_left
              intro j _
              have e5 : zuF f r o (zdfl ci (zsrt ci)) r o j = zdfl ci (zsrt ci) j := by simp [zuF]
              rw [e5]
              rcases hgz j with e6 | e6 <;> rw [e6] <;> rfl
            rw [e4, ← zcell_o (cA := cA) (e0 := e0) (ad := zad ad r o q) (κ := zuk κ r o (ci + 10, N)) (f := zuF f r o (zdfl ci (zsrt ci))) (a := zuA a r o (fun _ => 0)) (k := ci) (n := N) (by simp [zuk])] at hP1 hD1
            rw [← hN]
            exact zo_alloc (k := ci + 10) (n := N) (g := zdfl ci (zsrt ci)) hfree (by omega) (fun j => (hgz j).elim (fun e6 => by rw [e6]; exact zvok_zn) (fun e6 => by rw [e6]; exact zI32_0)) (fun z => by omega) kk hext hrel hl hlv hsv hc hs hP1 hD1 hS1
        · cases hz
      · cases hz
    · cases h
  · cases h
end ZE
