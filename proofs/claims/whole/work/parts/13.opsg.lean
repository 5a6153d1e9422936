/-! new long[4][60]; fields of Strings, statics, String constants -/
section ZG1
variable {D : va_G} {cA : Nat → ClassId} {e0 : Nat → Nat → Option Nat} {bS nS : Nat} {xS : Nat → Int} {A : Nat → Prop} {p : Program} {l : Launch} {e : Env} {R : Room} {s : State} {m : MethodId} {args : Array Value} {below : List Frame} {meth : Method} {c : Code} {Q : State → Prop} {L0 : List (Nat × Nat)} {ad0 : Nat → Nat → Nat} {u0 v0 : Nat}
variable {own nm : String} {cc : ByteArray} {nL pc : Nat} {lsv stv lsv' stv' : List ZV} {μ μ' : ZM}
theorem zws_mem {ad : Nat → Nat → Nat} {κ : ZK} {f : ZF} {a : ZA} {L : List (Nat × Nat)} {k : Nat} {y : Nat × va_E} (h : (zws cA e0 ad κ f a L)[k]? = some y) : ∃ z ∈ L, y.1 = ad z.1 z.2 := by
  unfold zws at h
  rw [List.getElem?_map] at h
  cases hz : L[k]? with
  | none => rw [hz] at h; cases h
  | some z =>
    rw [hz] at h
    cases h
    exact ⟨z, List.mem_of_getElem? hz, rfl⟩
theorem zRel_new2 {L : List (Nat × Nat)} {ad : Nat → Nat → Nat} {κ : ZK} {f : ZF} {a : ZA} {H1 : Heap} {locs1 : List Loc} {r o q k n : Nat} {g : Nat → ZV} (hrel : zRel D cA e0 bS nS xS A s L ad κ f a H1 locs1) (hf : κ r o = none) (h6 : k ≠ 6)
    (hg : ∀ j, zvok (zuk κ r o (k, n)) (g j)) (hg4 : k = 4 ∨ k = 5 → ∀ j, ∃ t r' o', g j = .inr (.inr (t, r', o')) ∧ t ≤ 1)
    (hat : va_at D vwCl (q, zcell cA e0 (zad ad r o q) (zuk κ r o (k, n)) (zuF f r o g) (zuA a r o (fun _ => 0)) r o) H1) (hA : A q) (hne : ∀ z ∈ L, ad z.1 z.2 ≠ q) :
    zRel D cA e0 bS nS xS A s (L ++ [(r, o)]) (zad ad r o q) (zuk κ r o (k, n)) (zuF f r o g) (zuA a r o (fun _ => 0)) H1 locs1 := by
  refine zRel_new hrel hf h6 hg hg4 (hrel.1.app fun k9 x hx => ?_) ⟨fun i j x y hi hj hxy => ?_, fun k9 x hx => ?_⟩
  · have h0 : k9 < 1 := (List.getElem?_eq_some_iff.mp hx).1
    rw [show k9 = 0 by omega] at hx
    cases hx
    exact hat
  · have key : ∀ (i : Nat) (x : Nat × va_E), (zws cA e0 ad κ f a L ++ [(q, zcell cA e0 (zad ad r o q) (zuk κ r o (k, n)) (zuF f r o g) (zuA a r o (fun _ => 0)) r o)])[i]? = some x → ((zws cA e0 ad κ f a L)[i]? = some x ∧ x.1 ≠ q) ∨ (i = (zws cA e0 ad κ f a L).length ∧ x.1 = q) := by
      intro i x hi
      by_cases hl : i < (zws cA e0 ad κ f a L).length
      · rw [List.getElem?_append_left hl] at hi
        obtain ⟨z, hz, e1⟩ := zws_mem hi
        exact Or.inl ⟨hi, by rw [e1]; exact hne z hz⟩
      · rw [List.getElem?_append_right (by omega)] at hi
        have h0 : i - (zws cA e0 ad κ f a L).length < 1 := (List.getElem?_eq_some_iff.mp hi).1
        have h1 : i = (zws cA e0 ad κ f a L).length := by omega
        rw [show i - (zws cA e0 ad κ f a L).length = 0 by omega] at hi
        cases hi
        exact Or.inr ⟨h1, rfl⟩
    rcases key i x hi with ⟨a1, a2⟩ | ⟨a1, a2⟩ <;> rcases key j y hj with ⟨b1, b2⟩ | ⟨b1, b2⟩
    · exact hrel.2.1.1 i j x y a1 b1 hxy
    · exact absurd (hxy.trans b2) a2
    · exact absurd (hxy.symm.trans a2) b2
    · omega
  · by_cases hl : k9 < (zws cA e0 ad κ f a L).length
    · rw [List.getElem?_append_left hl] at hx
      exact hrel.2.1.2 k9 x hx
    · rw [List.getElem?_append_right (by omega)] at hx
      have h0 : k9 - (zws cA e0 ad κ f a L).length < 1 := (List.getElem?_eq_some_iff.mp hx).1
      rw [show k9 - (zws cA e0 ad κ f a L).length = 0 by omega] at hx
      cases hx
      exact hA
theorem zne_new {L : List (Nat × Nat)} {ad : Nat → Nat → Nat} {r o q x : Nat} (h : ∀ z ∈ L, ad z.1 z.2 ≠ x) (hq : q ≠ x) : ∀ z ∈ L ++ [(r, o)], zad ad r o q z.1 z.2 ≠ x := fun z hz => by
  unfold zad
  by_cases hc : z.1 = r ∧ z.2 = o
  · rw [if_pos hc]; exact hq
  · rw [if_neg hc]
    rcases List.mem_append.mp hz with h1 | h1
    · exact h z h1
    · rw [List.mem_singleton] at h1
      exact absurd ⟨congrArg Prod.fst h1, congrArg Prod.snd h1⟩ hc
theorem zad_ne {ad : Nat → Nat → Nat} {r o q r' o' : Nat} (h : ¬ (r' = r ∧ o' = o)) : zad ad r o q r' o' = ad r' o' := if_neg h
theorem zad_eq {ad : Nat → Nat → Nat} {r o q : Nat} : zad ad r o q r o = q := if_pos ⟨rfl, rfl⟩
theorem zuk_ne {κ : ZK} {r o : Nat} {w : Nat × Nat} {r' o' : Nat} (h : ¬ (r' = r ∧ o' = o)) : zuk κ r o w r' o' = κ r' o' := if_neg h
theorem zuk_eq {κ : ZK} {r o : Nat} {w : Nat × Nat} : zuk κ r o w r o = some w := if_pos ⟨rfl, rfl⟩
theorem zrow_cell {ad : Nat → Nat → Nat} {κ : ZK} {f : ZF} {a : ZA} {r o : Nat} : zcell cA e0 ad (zuk κ r o (3, 60)) f (zuA a r o (fun _ => 0)) r o = .inl (cA 3, 60, .inr (.inl fun _ => 0)) := by
  rw [zcell_l zuk_eq]
  have e : (fun j => Int64.ofInt (zuA a r o (fun _ => 0) r o j)) = fun _ => 0 := funext fun j => by unfold zuA; rw [if_pos ⟨rfl, rfl⟩]; rfl
  rw [e]
theorem zo_multi (F : zFr D cA e0 bS nS xS A p s m args meth c own nm cc nL) {idx : Nat} (hw1 : Cond.classLink own idx ("[" ++ (FieldType.array .long).toString) ∈ zgood) (hw2 : Cond.arrayClass .long ∈ zgood) (hdg : decode cc pc = .ok (.multianewarray idx 2, 4)) (hn0 : ∀ r, e0 0 r = none) (h : zmulti stv lsv μ = some (lsv', stv', μ'))
    (hR : μ'.2.2.2.2.1 ≤ R.cells + u0 ∧ μ'.2.2.2.2.2 ≤ R.slots + v0)
    (kk : zcont D cA e0 bS nS xS A p l e R s m args below meth c Q L0 ad0 u0 v0 (pc + 4) lsv' stv' μ') : zcont D cA e0 bS nS xS A p l e R s m args below meth c Q L0 ad0 u0 v0 pc lsv stv μ := by
  obtain ⟨hx, hb, hml, hown, hts, hE, hRO, hlk, hnm, hA⟩ := F
  unfold zmulti at h
  split at h
  · rename_i k n st0 κ f a r0 o0 r1 o1 r2 o2 r3 o3 r4 o4 ns c0 s0
    split at h
    · rename_i hc0
      cases h
      obtain ⟨rfl, rfl, f0, f1, f2, f3, f4, hnd⟩ := hc0
      intro L ad H locs ls cells slots hext hrel hl hlv hsv hc hs
      dsimp only at hrel hc hs hlv hsv hR
      simp only [List.nodup_cons, List.mem_cons, List.not_mem_nil, or_false, not_or, not_false_eq_true, List.nodup_nil, and_true, Prod.mk.injEq] at hnd
      obtain ⟨⟨d01, d02, d03, d04⟩, ⟨d12, d13, d14⟩, ⟨d23, d24⟩, d34⟩ := hnd
      have hcy : s.vm.findClass (FieldType.array .long).toString = some (cA 3) := (hE.1.2 3 _ rfl).2
      have hP0 : va_P D vwCl (zws cA e0 ad κ f a L ++ va_pl [] (fun _ => .inr (0, []))) H := by simpa [va_pl] using hrel.1
      have hD0 : va_D A (zws cA e0 ad κ f a L ++ va_pl [] (fun _ => .inr (0, []))) := by simpa [va_pl] using hrel.2.1
      show W p l e R s m args below meth c H locs cells slots Q (F0 m pc ls (.int 60 :: .int 4 :: st0.map (zcv e0 ad)))
      refine va_mna (D := D) (cl := vwCl) (z := (60, .inr (.inl fun _ => 0))) hx hb hown (hts _ hw1) hE.2.2.2.1 (hts _ hw2) hcy hE.1 hP0 hD0 hrel.2.2.1 hA (n := 4) (k := 60) (N' := 4) (K' := 60) (by decide) (by decide) rfl rfl (by decide) (by decide) (by decide) (by decide) (by decide) (by omega) (by omega) (fun c => by rw [vp_cell_l]; exact arrV_new _ _ _) hdg fun q r cA' H1 hinj _ hK1 hP1 hD1 hS1 => ?_
      have hcA : cA' = cA 5 := zcA_eq hE (k := 5) rfl (hK1.2 6 (cA', .array .long) (by rfl)).2
      subst hcA
      have hX := zP_pre (zP_pre hP1)
      have hXD := zD_pre (zD_pre hD1)
      have len1 : ((zws cA e0 ad κ f a L) ++ [(q, Sum.inl (cA 5, 4, Sum.inr (Sum.inr (Sum.inr (Sum.inr (fun i => if i < 4 then some (r i) else none))))))] : va_W).length = (zws cA e0 ad κ f a L).length + 1 := by simp
      have gq : (((zws cA e0 ad κ f a L) ++ [(q, .inl (cA 5, 4, .inr (.inr (.inr (.inr (fun i => if i < 4 then some (r i) else none))))))]) ++ va_pl ([] ++ (List.range 4).map r) (vr_up (fun _ => .inr (0, [])) ((List.range 4).map r) (.inl (cA 3, 60, .inr (.inl fun _ => 0)))) : va_W)[(zws cA e0 ad κ f a L).length]? = some (q, .inl (cA 5, 4, .inr (.inr (.inr (.inr (fun i => if i < 4 then some (r i) else none)))))) := by
        rw [List.getElem?_append_left (by rw [len1]; omega), List.getElem?_append_right (Nat.le_refl _), Nat.sub_self]
        rfl
      have gr : ∀ i, i < 4 → (((zws cA e0 ad κ f a L) ++ [(q, .inl (cA 5, 4, .inr (.inr (.inr (.inr (fun i => if i < 4 then some (r i) else none))))))]) ++ va_pl ([] ++ (List.range 4).map r) (vr_up (fun _ => .inr (0, [])) ((List.range 4).map r) (.inl (cA 3, 60, .inr (.inl fun _ => 0)))) : va_W)[(zws cA e0 ad κ f a L).length + 1 + i]? = some (r i, .inl (cA 3, 60, .inr (.inl fun _ => 0))) := by
        intro i hi
        rw [List.getElem?_append_right (by rw [len1]; omega), len1, show (zws cA e0 ad κ f a L).length + 1 + i - ((zws cA e0 ad κ f a L).length + 1) = i by omega]
        unfold va_pl
        rw [List.nil_append, List.getElem?_map, List.getElem?_map, List.getElem?_range hi]
        show some (r i, vr_up _ _ _ (r i)) = _
        rw [vr_up_in (List.mem_map.mpr ⟨i, List.mem_range.mpr hi, rfl⟩)]
      have hold : ∀ z ∈ L, ∀ x : Nat, ∀ (i : Nat) (y : va_E), (zws cA e0 ad κ f a L).length ≤ i → (((zws cA e0 ad κ f a L) ++ [(q, .inl (cA 5, 4, .inr (.inr (.inr (.inr (fun i => if i < 4 then some (r i) else none))))))]) ++ va_pl ([] ++ (List.range 4).map r) (vr_up (fun _ => .inr (0, [])) ((List.range 4).map r) (.inl (cA 3, 60, .inr (.inl fun _ => 0)))) : va_W)[i]? = some (x, y) → ad z.1 z.2 ≠ x := by
        intro z hz x i y hi hy e9
        obtain ⟨j, hj⟩ := List.getElem?_of_mem hz
        have h9 := zws_get (cA := cA) (e0 := e0) (ad := ad) (κ := κ) (f := f) (a := a) (L := L) (i := j) (r := z.1) (o := z.2) hj
        have hjl : j < (zws cA e0 ad κ f a L).length := (List.getElem?_eq_some_iff.mp h9).1
        have h10 : (((zws cA e0 ad κ f a L) ++ [(q, .inl (cA 5, 4, .inr (.inr (.inr (.inr (fun i => if i < 4 then some (r i) else none))))))]) ++ va_pl ([] ++ (List.range 4).map r) (vr_up (fun _ => .inr (0, [])) ((List.range 4).map r) (.inl (cA 3, 60, .inr (.inl fun _ => 0)))) : va_W)[j]? = some (ad z.1 z.2, zcell cA e0 ad κ f a z.1 z.2) := by
          rw [List.getElem?_append_left (by rw [len1]; omega), List.getElem?_append_left hjl]
          exact h9
        have := hD1.1 j i _ _ h10 hy e9
        omega
      have nq : ∀ z ∈ L, ad z.1 z.2 ≠ q := fun z hz => hold z hz q _ _ (Nat.le_refl _) gq
      have nr : ∀ i, i < 4 → ∀ z ∈ L, ad z.1 z.2 ≠ r i := fun i hi z hz => hold z hz (r i) _ _ (by omega) (gr i hi)
      have rq : ∀ i, i < 4 → r i ≠ q := fun i hi e9 => by
        have := hD1.1 _ _ _ _ (gr i hi) gq e9
        omega
      have rr : ∀ i j, i < 4 → j < 4 → i ≠ j → r i ≠ r j := fun i j hi hj hij e9 => hij (hinj i j hi hj e9)
      have hrel1 : zRel D cA e0 bS nS xS A s L ad κ f a H1 locs := ⟨hX, hXD, hS1, hrel.2.2.2⟩
      have at1 : ∀ i, i < 4 → ∀ (ad' : Nat → Nat → Nat) (κ' : ZK) (f' : ZF) (a' : ZA) (r' o' : Nat), va_at D vwCl (r i, zcell cA e0 ad' (zuk κ' r' o' (3, 60)) f' (zuA a' r' o' (fun _ => 0)) r' o') H1 := fun i hi ad' κ' f' a' r' o' => by
        rw [zrow_cell]
        exact hP1 _ _ (gr i hi)
      have hz3 : ∀ (κ' : ZK) (r' o' : Nat) (w : Nat × Nat) (j : Nat), zvok (zuk κ' r' o' w) ((fun _ => zn : Nat → ZV) j) := fun _ _ _ _ _ => zvok_zn
      have h1 := zRel_new2 (k := 3) (n := 60) (g := fun _ => zn) hrel1 f1 (by decide) (hz3 _ _ _ _) (fun z => by omega) (at1 0 (by decide) _ _ _ _ _ _) (hD1.2 _ _ (gr 0 (by decide))) (nr 0 (by decide))
      have x1 := zext_new hrel1 f1 (q := r 0) hext
      have f2' : zuk κ r1 o1 (3, 60) r2 o2 = none := by rw [zuk_ne (fun z => d12 ⟨z.1.symm, z.2.symm⟩)]; exact f2
      have h2 := zRel_new2 (k := 3) (n := 60) (g := fun _ => zn) h1 f2' (by decide) (hz3 _ _ _ _) (fun z => by omega) (at1 1 (by decide) _ _ _ _ _ _) (hD1.2 _ _ (gr 1 (by decide))) (zne_new (nr 1 (by decide)) (rr 0 1 (by decide) (by decide) (by decide)))
      have x2 := zext_new h1 f2' (q := r 1) x1
      have f3' : zuk (zuk κ r1 o1 (3, 60)) r2 o2 (3, 60) r3 o3 = none := by rw [zuk_ne (fun z => d23 ⟨z.1.symm, z.2.symm⟩), zuk_ne (fun z => d13 ⟨z.1.symm, z.2.symm⟩)]; exact f3
      have h3 := zRel_new2 (k := 3) (n := 60) (g := fun _ => zn) h2 f3' (by decide) (hz3 _ _ _ _) (fun z => by omega) (at1 2 (by decide) _ _ _ _ _ _) (hD1.2 _ _ (gr 2 (by decide))) (zne_new (zne_new (nr 2 (by decide)) (rr 0 2 (by decide) (by decide) (by decide))) (rr 1 2 (by decide) (by decide) (by decide)))
      have x3 := zext_new h2 f3' (q := r 2) x2
      have f4' : zuk (zuk (zuk κ r1 o1 (3, 60)) r2 o2 (3, 60)) r3 o3 (3, 60) r4 o4 = none := by rw [zuk_ne (fun z => d34 ⟨z.1.symm, z.2.symm⟩), zuk_ne (fun z => d24 ⟨z.1.symm, z.2.symm⟩), zuk_ne (fun z => d14 ⟨z.1.symm, z.2.symm⟩)]; exact f4
      have h4 := zRel_new2 (k := 3) (n := 60) (g := fun _ => zn) h3 f4' (by decide) (hz3 _ _ _ _) (fun z => by omega) (at1 3 (by decide) _ _ _ _ _ _) (hD1.2 _ _ (gr 3 (by decide))) (zne_new (zne_new (zne_new (nr 3 (by decide)) (rr 0 3 (by decide) (by decide) (by decide))) (rr 1 3 (by decide) (by decide) (by decide))) (rr 2 3 (by decide) (by decide) (by decide)))
      have x4 := zext_new h3 f4' (q := r 3) x3
      have f0' : zuk (zuk (zuk (zuk κ r1 o1 (3, 60)) r2 o2 (3, 60)) r3 o3 (3, 60)) r4 o4 (3, 60) r0 o0 = none := by rw [zuk_ne (fun z => d04 z), zuk_ne (fun z => d03 z), zuk_ne (fun z => d02 z), zuk_ne (fun z => d01 z)]; exact f0
      have x5 := zext_new h4 f0' (q := q) x4
      have hgv : ∀ j, zvok (zuk (zuk (zuk (zuk (zuk κ r1 o1 (3, 60)) r2 o2 (3, 60)) r3 o3 (3, 60)) r4 o4 (3, 60)) r0 o0 (5, 4)) ((fun i => if i = 0 then zr r1 o1 else if i = 1 then zr r2 o2 else if i = 2 then zr r3 o3 else if i = 3 then zr r4 o4 else zn : Nat → ZV) j) := by
        intro j
        dsimp only
        have t1 : ∀ (κ' : ZK) (r' o' : Nat), κ' r' o' ≠ none → zvok κ' (zr r' o') := fun κ' r' o' hh _ => hh
        have sm : ∀ {κ' : ZK} {r' o' r9 o9 : Nat} {w : Nat × Nat}, κ' r' o' ≠ none → zuk κ' r9 o9 w r' o' ≠ none := fun {κ' r' o' r9 o9 w} hh => by
          unfold zuk
          split
          · exact fun z => by cases z
          · exact hh
        have eqn : ∀ {κ' : ZK} {r' o' : Nat} {w : Nat × Nat}, zuk κ' r' o' w r' o' ≠ none := fun {κ' r' o' w} => by rw [zuk_eq]; exact fun z => by cases z
        repeat' split
        · exact t1 _ _ _ (sm (sm (sm (sm eqn))))
        · exact t1 _ _ _ (sm (sm (sm eqn)))
        · exact t1 _ _ _ (sm (sm eqn))
        · exact t1 _ _ _ (sm eqn)
        · exact zvok_zn
      have hg4 : ∀ j, ∃ t r' o', (fun i => if i = 0 then zr r1 o1 else if i = 1 then zr r2 o2 else if i = 2 then zr r3 o3 else if i = 3 then zr r4 o4 else zn : Nat → ZV) j = .inr (.inr (t, r', o')) ∧ t ≤ 1 := by
        intro j
        dsimp only
        repeat' split
        · exact ⟨1, r1, o1, rfl, by decide⟩
        · exact ⟨1, r2, o2, rfl, by decide⟩
        · exact ⟨1, r3, o3, rfl, by decide⟩
        · exact ⟨1, r4, o4, rfl, by decide⟩
        · exact ⟨0, 0, 0, rfl, by decide⟩
      have h5 := zRel_new2 (k := 5) (n := 4) (q := q) h4 f0' (by decide) hgv (fun _ => hg4) (by
        have e9 : (fun j => zop1 (zad (zad (zad (zad (zad ad r1 o1 (r 0)) r2 o2 (r 1)) r3 o3 (r 2)) r4 o4 (r 3)) r0 o0 q) (zuF (zuF (zuF (zuF (zuF f r1 o1 (fun _ => zn)) r2 o2 (fun _ => zn)) r3 o3 (fun _ => zn)) r4 o4 (fun _ => zn)) r0 o0 (fun i => if i = 0 then zr r1 o1 else if i = 1 then zr r2 o2 else if i = 2 then zr r3 o3 else if i = 3 then zr r4 o4 else zn) r0 o0 j)) = fun i => if i < 4 then some (r i) else none := by
          funext j
          have e8 : zuF (zuF (zuF (zuF (zuF f r1 o1 (fun _ => zn)) r2 o2 (fun _ => zn)) r3 o3 (fun _ => zn)) r4 o4 (fun _ => zn)) r0 o0 (fun i => if i = 0 then zr r1 o1 else if i = 1 then zr r2 o2 else if i = 2 then zr r3 o3 else if i = 3 then zr r4 o4 else zn) r0 o0 j = if j = 0 then zr r1 o1 else if j = 1 then zr r2 o2 else if j = 2 then zr r3 o3 else if j = 3 then zr r4 o4 else zn := if_pos ⟨rfl, rfl⟩
          rw [e8]
          have z1 : ∀ (r' o' : Nat) (ad' : Nat → Nat → Nat), zop1 ad' (zr r' o') = some (ad' r' o') := fun _ _ _ => rfl
          match j with
          | 0 => rw [if_pos rfl, z1, zad_ne (fun z => d01 ⟨z.1.symm, z.2.symm⟩), zad_ne (fun z => d14 z), zad_ne (fun z => d13 z), zad_ne (fun z => d12 z), zad_eq]; rfl
          | 1 => rw [if_neg (by decide), if_pos rfl, z1, zad_ne (fun z => d02 ⟨z.1.symm, z.2.symm⟩), zad_ne (fun z => d24 z), zad_ne (fun z => d23 z), zad_eq]; rfl
          | 2 => rw [if_neg (by decide), if_neg (by decide), if_pos rfl, z1, zad_ne (fun z => d03 ⟨z.1.symm, z.2.symm⟩), zad_ne (fun z => d34 z), zad_eq]; rfl
          | 3 => rw [if_neg (by decide), if_neg (by decide), if_neg (by decide), if_pos rfl, z1, zad_ne (fun z => d04 ⟨z.1.symm, z.2.symm⟩), zad_eq]; rfl
          | j + 4 =>
            rw [if_neg (by omega), if_neg (by omega), if_neg (by omega), if_neg (by omega), if_neg (by omega)]
            rfl
        rw [zcell_q (k := 5) (n := 4) zuk_eq (by decide), e9]
        exact hP1 _ _ gq) (hD1.2 _ _ gq) (zne_new (zne_new (zne_new (zne_new nq (rq 0 (by decide))) (rq 1 (by decide))) (rq 2 (by decide))) (rq 3 (by decide)))
      have u5 : ∀ v ∈ (lsv ++ st0), zvok κ v := fun v hv => by
        rcases List.mem_append.mp hv with hv | hv
        · exact hlv v hv
        · exact zvok_tail (zvok_tail hsv) v hv
      have lift : ∀ v, zvok κ v → zvok (zuk (zuk (zuk (zuk (zuk κ r1 o1 (3, 60)) r2 o2 (3, 60)) r3 o3 (3, 60)) r4 o4 (3, 60)) r0 o0 (5, 4)) v := fun v hv => zvok_uk (zvok_uk (zvok_uk (zvok_uk (zvok_uk hv))))
      have ep : ∀ {st : List ZV} {i : Nat}, (∀ v ∈ st, zvok κ v) → zpairs e0 (zad (zad (zad (zad (zad ad r1 o1 (r 0)) r2 o2 (r 1)) r3 o3 (r 2)) r4 o4 (r 3)) r0 o0 q) i st = zpairs e0 ad i st := fun {st i} hh => by
        rw [zpairs_ad f0' (fun v hv => zvok_uk (zvok_uk (zvok_uk (zvok_uk (hh v hv))))), zpairs_ad f4' (fun v hv => zvok_uk (zvok_uk (zvok_uk (hh v hv)))), zpairs_ad f3' (fun v hv => zvok_uk (zvok_uk (hh v hv))), zpairs_ad f2' (fun v hv => zvok_uk (hh v hv)), zpairs_ad f1 hh]
      have em : ∀ {st : List ZV}, (∀ v ∈ st, zvok κ v) → st.map (zcv e0 (zad (zad (zad (zad (zad ad r1 o1 (r 0)) r2 o2 (r 1)) r3 o3 (r 2)) r4 o4 (r 3)) r0 o0 q)) = st.map (zcv e0 ad) := fun {st} hh => by
        rw [zmap_ad f0' (fun v hv => zvok_uk (zvok_uk (zvok_uk (zvok_uk (hh v hv))))), zmap_ad f4' (fun v hv => zvok_uk (zvok_uk (zvok_uk (hh v hv)))), zmap_ad f3' (fun v hv => zvok_uk (zvok_uk (hh v hv))), zmap_ad f2' (fun v hv => zvok_uk (hh v hv)), zmap_ad f1 hh]
      have hst := zvok_tail (zvok_tail hsv)
      have kx := kk _ _ H1 locs ls (cells + 1 + 4) (slots + 4 + 4 * 60) x5 h5 (by rw [ep hlv]; exact hl) (fun v hv => lift v (hlv v hv)) (zvok_cons (fun _ => by dsimp only; rw [zuk_eq]; exact fun z => by cases z) (fun v hv => lift v (hst v hv))) (by dsimp only; omega) (by dsimp only; omega)
      rw [List.map_cons, em hst] at kx
      have e1 : zcv e0 (zad (zad (zad (zad (zad ad r1 o1 (r 0)) r2 o2 (r 1)) r3 o3 (r 2)) r4 o4 (r 3)) r0 o0 q) (.inr (.inr (1, r0, o0))) = .ref q := by
        show Value.ref (zad _ r0 o0 q r0 o0) = _
        rw [zad_eq]
      rw [e1] at kx
      exact kx
    · cases h
  · cases h
theorem zo_sget (F : zFr D cA e0 bS nS xS A p s m args meth c own nm cc nL) {idx r o : Nat} {st0 : List ZV} (hr : r < 10) (hw : Cond.fieldLink own idx "java/lang/String" "value" "[B" ∈ zgood) (hdg : decode cc pc = .ok (.getfield idx, 3))
    (kk : zcont D cA e0 bS nS xS A p l e R s m args below meth c Q L0 ad0 u0 v0 (pc + 3) lsv (.inr (.inr (5, r, 0)) :: st0) μ) : zcont D cA e0 bS nS xS A p l e R s m args below meth c Q L0 ad0 u0 v0 pc lsv (.inr (.inr (4, r, o)) :: st0) μ := by
  obtain ⟨hx, hb, hml, hown, hts, hE, ⟨⟨adK, adV, hK, hS10⟩, -⟩, hlk, hnm, hA⟩ := F
  intro L ad H locs ls cells slots hext hrel hl hlv hsv hc hs
  have e1 : zcv e0 ad (.inr (.inr (5, r, 0))) = .ref (adV r) := by unfold zcv; simp [(hK r hr).2, va_rf]
  have e2 : zcv e0 ad (.inr (.inr (4, r, o))) = .ref (adK r) := by unfold zcv; simp [(hK r hr).1, va_rf]
  have kx := kk L ad H locs ls cells slots hext hrel hl hlv (zvok_cons (fun z => by cases z) (zvok_tail hsv)) hc hs
  rw [List.map_cons] at kx ⊢
  rw [e2]
  rw [e1] at kx
  exact vk_getf hx hb (hS10.1 r hr).2.2.1 hrel.2.2.1 hown (hts _ hw) (fun _ h9 => h9) hdg kx
theorem zo_sgetc (F : zFr D cA e0 bS nS xS A p s m args meth c own nm cc nL) {idx r o : Nat} {st0 : List ZV} (hr : r < 10) (hw : Cond.fieldLink own idx "java/lang/String" "coder" "B" ∈ zgood) (hdg : decode cc pc = .ok (.getfield idx, 3))
    (kk : zcont D cA e0 bS nS xS A p l e R s m args below meth c Q L0 ad0 u0 v0 (pc + 3) lsv (.inl 0 :: st0) μ) : zcont D cA e0 bS nS xS A p l e R s m args below meth c Q L0 ad0 u0 v0 pc lsv (.inr (.inr (4, r, o)) :: st0) μ := by
  obtain ⟨hx, hb, hml, hown, hts, hE, ⟨⟨adK, adV, hK, hS10⟩, -⟩, hlk, hnm, hA⟩ := F
  intro L ad H locs ls cells slots hext hrel hl hlv hsv hc hs
  have e2 : zcv e0 ad (.inr (.inr (4, r, o))) = .ref (adK r) := by unfold zcv; simp [(hK r hr).1, va_rf]
  have kx := kk L ad H locs ls cells slots hext hrel hl hlv (zvok_cons zI32_0 (zvok_tail hsv)) hc hs
  rw [List.map_cons] at kx ⊢
  rw [e2]
  exact vk_getf hx hb (hS10.1 r hr).2.1 hrel.2.2.1 hown (hts _ hw) (fun _ h9 => h9) hdg kx
theorem zo_gets0 (F : zFr D cA e0 bS nS xS A p s m args meth c own nm cc nL) {idx : Nat} (hw : Cond.fieldLink own idx "java/lang/String" "COMPACT_STRINGS" "Z" ∈ zgood) (hdg : decode cc pc = .ok (.getstatic idx, 3))
    (kk : zcont D cA e0 bS nS xS A p l e R s m args below meth c Q L0 ad0 u0 v0 (pc + 3) lsv (.inl 1 :: stv) μ) : zcont D cA e0 bS nS xS A p l e R s m args below meth c Q L0 ad0 u0 v0 pc lsv stv μ := by
  obtain ⟨hx, hb, hml, hown, hts, hE, hRO, hlk, hnm, hA⟩ := F
  intro L ad H locs ls cells slots hext hrel hl hlv hsv hc hs
  have kx := kk L ad H locs ls cells slots hext hrel hl hlv (zvok_cons (show zI32 1 by unfold zI32; omega) hsv) hc hs
  rw [List.map_cons] at kx
  exact va_gets hx hb hRO.2.1 hrel.2.2.1 hown (hts _ hw) (fun _ h9 => h9) hdg kx
theorem zo_gets1 (F : zFr D cA e0 bS nS xS A p s m args meth c own nm cc nL) {idx : Nat} (hw : Cond.fieldLink own idx "jdk/internal/util/Preconditions" "SIOOBE_FORMATTER" "Ljava/util/function/BiFunction;" ∈ zgood) (hdg : decode cc pc = .ok (.getstatic idx, 3))
    (kk : zcont D cA e0 bS nS xS A p l e R s m args below meth c Q L0 ad0 u0 v0 (pc + 3) lsv (.inr (.inr (6, 0, 0)) :: stv) μ) : zcont D cA e0 bS nS xS A p l e R s m args below meth c Q L0 ad0 u0 v0 pc lsv stv μ := by
  obtain ⟨hx, hb, hml, hown, hts, hE, hRO, hlk, hnm, hA⟩ := F
  intro L ad H locs ls cells slots hext hrel hl hlv hsv hc hs
  have kx := kk L ad H locs ls cells slots hext hrel hl hlv (zvok_cons (fun z => by cases z) hsv) hc hs
  rw [List.map_cons] at kx
  exact va_gets hx hb hRO.2.2.1 hrel.2.2.1 hown (hts _ hw) (fun _ h9 => h9) hdg kx
theorem zo_ldcS (F : zFr D cA e0 bS nS xS A p s m args meth c own nm cc nL) {idx r : Nat} (hr : r < 10) (ho : zsown r = own) (hi : zsidx r = idx) (hdg : decode cc pc = .ok (.ldc idx, 2))
    (kk : zcont D cA e0 bS nS xS A p l e R s m args below meth c Q L0 ad0 u0 v0 (pc + 2) lsv (.inr (.inr (4, r, 0)) :: stv) μ) : zcont D cA e0 bS nS xS A p l e R s m args below meth c Q L0 ad0 u0 v0 pc lsv stv μ := by
  obtain ⟨hx, hb, hml, hown, hts, hE, hRO, hlk, hnm, hA⟩ := F
  intro L ad H locs ls cells slots hext hrel hl hlv hsv hc hs
  have kx := kk L ad H locs ls cells slots hext hrel hl hlv (zvok_cons (fun z => by cases z) hsv) hc hs
  rw [List.map_cons] at kx
  obtain ⟨q, h1, h2⟩ := hE.2.2.2.2 r hr
  have e2 : zcv e0 ad (.inr (.inr (4, r, 0))) = .ref q := by unfold zcv; simp [h1, va_rf]
  rw [e2] at kx
  rw [ho, hi] at h2
  exact va_ldcS hx hb hown h2 hdg kx
end ZG1
