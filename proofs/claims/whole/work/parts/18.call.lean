/-! the four kinds of a call -/
theorem zhas_in {c kd idx a b : Nat} {v : Int} (h : zhas c kd idx a b v = true) : ∃ pl, (kd, idx, a, b, v, pl) ∈ zpl c := by
  unfold zhas at h
  obtain ⟨e, he, h1⟩ := List.any_eq_true.mp h
  obtain ⟨e1, e2, e3, e4, e5, e6⟩ := e
  simp only [Bool.and_eq_true, beq_iff_eq] at h1
  obtain ⟨⟨⟨⟨rfl, rfl⟩, rfl⟩, rfl⟩, rfl⟩ := h1
  exact ⟨e6, he⟩
theorem zpl_ok {c : Nat} (hc : c < 20) {e : ZE} (he : e ∈ zpl c) : zpok (zown c) e = true := by
  by_cases h8 : c < 8
  · exact List.all_eq_true.mp (List.all_eq_true.mp zpl_ok_a c (List.mem_range.mpr h8)) e he
  · refine List.all_eq_true.mp (List.all_eq_true.mp zpl_ok_b c ?_) e he
    match c, hc, h8 with
    | 8, _, _ => decide
    | 9, _, _ => decide
    | 10, _, _ => decide
    | 11, _, _ => decide
    | 12, _, _ => decide
    | 13, _, _ => decide
    | 14, _, _ => decide
    | 15, _, _ => decide
    | 16, _, _ => decide
    | 17, _, _ => decide
    | 18, _, _ => decide
    | 19, _, _ => decide
    | 0, _, h => exact absurd (by decide) h
    | 1, _, h => exact absurd (by decide) h
    | 2, _, h => exact absurd (by decide) h
    | 3, _, h => exact absurd (by decide) h
    | 4, _, h => exact absurd (by decide) h
    | 5, _, h => exact absurd (by decide) h
    | 6, _, h => exact absurd (by decide) h
    | 7, _, h => exact absurd (by decide) h
theorem zhas_ok {c kd idx a b : Nat} {v : Int} (hc : c < 20) (h : zhas c kd idx a b v = true) : ∃ pl, zpok (zown c) (kd, idx, a, b, v, pl) = true := by
  obtain ⟨pl, hp⟩ := zhas_in h
  exact ⟨pl, zpl_ok hc hp⟩
theorem zmi_len : zmi_0.length = 64 ∧ zmi_1.length = 64 ∧ zmi_2.length = 64 ∧ zmi_3.length = 62 := by decide +kernel
theorem zmi_ok {j : Nat} (h : j < 253) : zmok (zmi j) = true := by
  obtain ⟨l0, l1, l2, l3⟩ := zmi_len
  have key : ∀ (L : List ZT) (i : Nat), L.all zmok = true → i < L.length → ∀ d : ZT, zmok (L.getD i d) = true := fun L i hL hi d => by
    rw [List.getD_eq_getElem?_getD, List.getElem?_eq_getElem hi]
    exact List.all_eq_true.mp hL _ (List.getElem_mem hi)
  have hz : zmis = zmi_0 ++ (zmi_1 ++ (zmi_2 ++ (zmi_3.take 61 ++ zmi_3.drop 61))) := by
    unfold zmis
    rw [List.take_append_drop, List.append_assoc, List.append_assoc]
  unfold zmi
  rw [hz, List.getD_eq_getElem?_getD]
  have l3' : (zmi_3.take 61).length = 61 := by rw [List.length_take, l3]; rfl
  by_cases h0 : j < 64
  · rw [List.getElem?_append_left (by omega), ← List.getD_eq_getElem?_getD]
    exact key _ _ zmi_ok_0 (by omega) _
  · rw [List.getElem?_append_right (by omega), l0]
    by_cases h1 : j < 128
    · rw [List.getElem?_append_left (by omega), ← List.getD_eq_getElem?_getD]
      exact key _ _ zmi_ok_1 (by omega) _
    · rw [List.getElem?_append_right (by omega), l1]
      by_cases h2 : j < 192
      · rw [List.getElem?_append_left (by omega), ← List.getD_eq_getElem?_getD]
        exact key _ _ zmi_ok_2 (by omega) _
      · rw [List.getElem?_append_right (by omega), l2, List.getElem?_append_left (by omega), ← List.getD_eq_getElem?_getD]
        exact key _ _ zmi_ok_3 (by omega) _
abbrev zcls (t : ZT) : Nat := t.2.2.2.2.2.1
abbrev zrcv (t : ZT) : Nat := t.2.2.2.2.2.2.1
/-- what the tables say of a method -/
theorem zmi_facts {j : Nat} (h : j < 253) : Cond.code (zmi j).1 (zcodeAt (zcp (zmi j))) (zmx (zmi j)) (zret (zmi j)) ∈ zgood ∧ Cond.initialized (zmi j).1.cls ∈ zgood ∧ (zsort (zmi j) = 0 → Cond.static (zmi j).1 ∈ zgood) ∧ (zsort (zmi j) ≠ 0 → Cond.instanceMethod (zmi j).1 ∈ zgood) ∧ (zsort (zmi j) = 1 → Cond.selects (zmi j).1.cls (zmi j).1 (zmi j).1 ∈ zgood) ∧
    ((zmi j).1.cls ≠ "java/lang/invoke/MethodHandle" ∧ (zmi j).1.cls ≠ "java/lang/invoke/VarHandle" ∧ (parseMethodDescriptor (zmi j).1.desc).map (fun d => d.parameters.length) = some (znar (zmi j))) ∧ zmx (zmi j) ≤ 18 ∧ _root_.Jvm.plainName (zmi j).1.cls = true ∧ zown (zcls (zmi j)) = (zmi j).1.cls ∧
    (zsort (zmi j) ≠ 0 → (1 ≤ zrcv (zmi j) ∧ zrcv (zmi j) ≤ 13 ∧ (zcl (zrcv (zmi j) - 1)).1 = (zmi j).1.cls) ∨ (zrcv (zmi j) = 21 ∧ (zmi j).1.cls = "java/lang/String" ∧ zsort (zmi j) = 1)) ∧ (zsort (zmi j) = 2 → (zmi j).1.name = "<init>" ∧ zret (zmi j) = none) ∧
    (zret (zmi j) = none ∨ zret (zmi j) = some .int ∨ zret (zmi j) = some .long ∨ zret (zmi j) = some .boolean ∨ zret (zmi j) = some .byte ∨ zret (zmi j) = some .char) := by
  have hk := zmi_ok h
  revert hk
  generalize zmi j = t
  obtain ⟨y, maxL, ret, sort, na, c, rc, cp, ip, mp, sp⟩ := t
  intro hk
  simp only [zmok, Bool.and_eq_true, decide_eq_true_eq] at hk
  obtain ⟨⟨⟨⟨⟨⟨⟨⟨⟨⟨⟨⟨k1, k2⟩, k3⟩, k4⟩, k5⟩, k6⟩, k7⟩, k8⟩, k9⟩, k10⟩, k11⟩, k12⟩, k13⟩ := hk
  refine ⟨zatc_in k1, zat_in k2, fun z => ?_, fun z => ?_, fun z => ?_, ⟨k5, k6, k7⟩, k8, k9, k10, fun z => ?_, fun z => ?_, k13⟩
  · (try dsimp only at z); subst z; exact zat_in k3
  · (try dsimp only at z)
    have : (sort == 0) = false := by simpa using z
    rw [this] at k3
    exact zat_in k3
  · (try dsimp only at z); subst z; exact zat_in k4
  · (try dsimp only at z)
    have : (sort == 0) = false := by simpa using z
    rw [this] at k11
    simp only [cond_false, Bool.or_eq_true, Bool.and_eq_true, decide_eq_true_eq, beq_iff_eq] at k11
    rcases k11 with ⟨⟨a, b⟩, d⟩ | ⟨⟨a, b⟩, d⟩
    · exact Or.inl ⟨a, b, d⟩
    · exact Or.inr ⟨a, b, d⟩
  · (try dsimp only at z); subst z
    simpa using k12
section ZR1
variable {D : va_G} {cA : Nat → ClassId} {e0 : Nat → Nat → Option Nat} {bS nS : Nat} {xS : Nat → Int} {A : Nat → Prop} {p : Program} {l : Launch} {e : Env} {R : Room} {s : State} {m : MethodId} {args : Array Value} {below : List Frame} {meth : Method} {c : Code} {Q : State → Prop} {L0 : List (Nat × Nat)} {ad0 : Nat → Nat → Nat} {u0 v0 : Nat}
variable {own nm : String} {cc : ByteArray} {nL pc : Nat} {lsv stv lsv' stv' : List ZV} {μ μ' : ZM}
theorem zstk {as rest : List ZV} {n : Nat} {ad : Nat → Nat → Nat} (h : n ≤ stv.length) (ha : as = (stv.take n).reverse) (hr : rest = stv.drop n) : stv.map (zcv e0 ad) = (as.map (zcv e0 ad)).reverse ++ rest.map (zcv e0 ad) := by
  rw [ha, hr, List.map_reverse, List.reverse_reverse, ← List.map_append, List.take_append_drop]
theorem zo_calls (F : zFr D cA e0 bS nS xS A p s m args meth c own nm cc nL) {d j idx : Nat} {as : List ZV} {rv : Option ZV} (hn0 : ∀ r, e0 0 r = none) (hj : j < 253) (hM : zMet l d j as μ rv μ') (hle : zle μ μ') (hRd : d + 1 ≤ R.frames ∧ 37 * (d + 1) ≤ R.locals) (hlk0 : Cond.methodLink own idx (zmi j).1 ∈ zgood) (hso : zsort (zmi j) = 0) (hnar : as.length = znar (zmi j))
    (hdg : decode cc pc = .ok (.invokestatic idx, 3)) (hlen : lsv.length = nL) (hn : znar (zmi j) ≤ stv.length) (ha : as = (stv.take (znar (zmi j))).reverse) (hsum : ((stv.drop (znar (zmi j))).map zcat).sum ≤ 8) (hR : μ'.2.2.2.2.1 ≤ R.cells + u0 ∧ μ'.2.2.2.2.2 ≤ R.slots + v0)
    (kk : zcont D cA e0 bS nS xS A p l e R s m args below meth c Q L0 ad0 u0 v0 (pc + 3) lsv (rv.toList ++ stv.drop (znar (zmi j))) μ') : zcont D cA e0 bS nS xS A p l e R s m args below meth c Q L0 ad0 u0 v0 pc lsv stv μ := by
  obtain ⟨hx, hb, hml, hown, hts, hE, hRO, hlk, hnm, hA⟩ := F
  obtain ⟨f1, f2, f3, f4, f5, f6, f7, f8, f9, f10, f11, f12⟩ := zmi_facts hj
  intro L ad H locs ls cells slots hext hrel hl hlv hsv hc hs
  have has : ∀ v ∈ as, zvok μ.1 v := fun v hv => hsv v (List.mem_of_mem_take (List.mem_reverse.mp (ha ▸ hv)))
  have hMM := hM D cA e0 bS nS xS L ad H.size hn0 hrel.2.2.2.1 hrel.2.2.2.2.1 hrel.2.2.2.2.2 has
  have cb := callB_of (R := R) (args := args) (own := own) (index := idx) (maxL := zmx (zmi j)) (ret := zret (zmi j)) (bytes := zcodeAt (zcp (zmi j))) (rm := zrm d (μ'.2.2.2.2.1 - μ.2.2.2.2.1) (μ'.2.2.2.2.2 - μ.2.2.2.2.2)) (mc := μ'.2.2.2.2.1 - μ.2.2.2.2.1) (ms := μ'.2.2.2.2.2 - μ.2.2.2.2.2) (znar (zmi j)) hts (zgood_GoodIn f1) (rfl : zwd (zmi j) = _) rfl rfl (hts _ f2) (hts _ hlk0) f6 ⟨hRd.1, by show 8 + (zmx (zmi j) + 11) + 37 * d ≤ R.locals; omega⟩
  obtain ⟨g1, g2⟩ := zPc_pre (μ := μ) (as := as) hE hRO hrel hA
  have hst := zstk (e0 := e0) (ad := ad) hn ha rfl
  refine zo_back hle hA hext hrel hl hlv (fun v hv => hsv v (List.mem_of_mem_drop hv)) hc hs (va_runS ⟨hx, hb, hml, hown, hts⟩ hMM ⟨cb, hts _ (f3 hso)⟩ ⟨g1, g2⟩ rfl (by rw [List.length_map]; exact hnar) (hl.1.trans hlen) hst (lv_room (by rw [zcatsum]; exact hsum)) hdg ⟨by have := hle.2.1; omega, by have := hle.2.2; omega⟩) kk
theorem zo_callv (F : zFr D cA e0 bS nS xS A p s m args meth c own nm cc nL) {d j idx : Nat} {as : List ZV} {rv : Option ZV} (hn0 : ∀ r, e0 0 r = none) (hj : j < 253) (hM : zMet l d j as μ rv μ') (hle : zle μ μ') (hRd : d + 1 ≤ R.frames ∧ 37 * (d + 1) ≤ R.locals) (hlk0 : Cond.methodLink own idx (zmi j).1 ∈ zgood) (hso : zsort (zmi j) = 1)
    {t r o : Nat} {at' : List ZV} (has0 : as = .inr (.inr (t, r, o)) :: at') (hrc : (t = 1 ∧ ∃ n, μ.1 r o = some (zrcv (zmi j) + 9, n)) ∨ (t = 4 ∧ r < 10)) (hrc2 : t = 1 ∧ zrcv (zmi j) ≤ 13 ∨ t = 4 ∧ zrcv (zmi j) = 21) (hnar : at'.length = znar (zmi j))
    (hdg : decode cc pc = .ok (.invokevirtual idx, 3)) (hlen : lsv.length = nL) (hn : znar (zmi j) + 1 ≤ stv.length) (ha : as = (stv.take (znar (zmi j) + 1)).reverse) (hsum : ((stv.drop (znar (zmi j) + 1)).map zcat).sum ≤ 8) (hR : μ'.2.2.2.2.1 ≤ R.cells + u0 ∧ μ'.2.2.2.2.2 ≤ R.slots + v0)
    (kk : zcont D cA e0 bS nS xS A p l e R s m args below meth c Q L0 ad0 u0 v0 (pc + 3) lsv (rv.toList ++ stv.drop (znar (zmi j) + 1)) μ') : zcont D cA e0 bS nS xS A p l e R s m args below meth c Q L0 ad0 u0 v0 pc lsv stv μ := by
  obtain ⟨hx, hb, hml, hown, hts, hE, hRO, hlk, hnm, hA⟩ := F
  obtain ⟨f1, f2, f3, f4, f5, f6, f7, f8, f9, f10, f11, f12⟩ := zmi_facts hj
  intro L ad H locs ls cells slots hext hrel hl hlv hsv hc hs
  have has : ∀ v ∈ as, zvok μ.1 v := fun v hv => hsv v (List.mem_of_mem_take (List.mem_reverse.mp (ha ▸ hv)))
  have hMM := hM D cA e0 bS nS xS L ad H.size hn0 hrel.2.2.2.1 hrel.2.2.2.2.1 hrel.2.2.2.2.2 has
  have cb := callB_of (R := R) (args := args) (own := own) (index := idx) (maxL := zmx (zmi j)) (ret := zret (zmi j)) (bytes := zcodeAt (zcp (zmi j))) (rm := zrm d (μ'.2.2.2.2.1 - μ.2.2.2.2.1) (μ'.2.2.2.2.2 - μ.2.2.2.2.2)) (mc := μ'.2.2.2.2.1 - μ.2.2.2.2.1) (ms := μ'.2.2.2.2.2 - μ.2.2.2.2.2) (znar (zmi j)) hts (zgood_GoodIn f1) (rfl : zwd (zmi j) = _) rfl rfl (hts _ f2) (hts _ hlk0) f6 ⟨hRd.1, by show 8 + (zmx (zmi j) + 11) + 37 * d ≤ R.locals; omega⟩
  obtain ⟨g1, g2⟩ := zPc_pre (μ := μ) (as := as) hE hRO hrel hA
  have hst := zstk (e0 := e0) (ad := ad) hn ha rfl
  obtain ⟨q, hq, hcell⟩ : ∃ q : Nat, zcv e0 ad (.inr (.inr (t, r, o))) = .ref q ∧ ∃ cellB : Cell, H[q]? = some cellB ∧ cellB.vm.isStatics = false ∧ s.vm.findClass (zmi j).1.cls = some cellB.cls := by
    rcases hrc with ⟨rfl, n, hκ⟩ | ⟨rfl, hr⟩
    · have h13 : zrcv (zmi j) ≤ 13 := by omega
      obtain ⟨a1, a2, a3⟩ : 1 ≤ zrcv (zmi j) ∧ zrcv (zmi j) ≤ 13 ∧ (zcl (zrcv (zmi j) - 1)).1 = (zmi j).1.cls := by
        rcases f10 (by omega) with h | h
        · exact h
        · omega
      have hκ' : μ.1 r o = some (zrcv (zmi j) - 1 + 10, n) := by rw [hκ]; congr 2; omega
      obtain ⟨i, hi⟩ := zRel_place hrel hκ' (by omega)
      have hg := zws_get (cA := cA) (e0 := e0) (ad := ad) (κ := μ.1) (f := μ.2.1) (a := μ.2.2.1) hi
      rw [zcell_o hκ'] at hg
      refine ⟨ad r o, rfl, ?_⟩
      rw [← a3]
      exact va_recv hE.1 hrel.1 (zcl_at (by omega)) hg
    · have h21 : zrcv (zmi j) = 21 := by omega
      obtain ⟨⟨adK, adV, hK, hS10⟩, -⟩ := hRO
      refine ⟨adK r, by unfold zcv; simp [(hK r hr).1, va_rf], ?_⟩
      have hcl : (zmi j).1.cls = "java/lang/String" := by
        rcases f10 (by omega) with h | h
        · omega
        · exact h.2.1
      rw [hcl]
      exact vk_recv hS10 hr hrel.2.2.1
  subst has0
  have hst2 : stv.map (zcv e0 ad) = (at'.map (zcv e0 ad)).reverse ++ .ref q :: (stv.drop (znar (zmi j) + 1)).map (zcv e0 ad) := by
    rw [hst, List.map_cons, hq, List.reverse_cons, List.append_assoc]
    rfl
  rw [List.map_cons, hq] at g2
  have hrun := va_runV (l := l) (e := e) (R := R) (below := below) (meth := meth) (locs := locs) (cells := cells) (slots := slots) ⟨hx, hb, hml, hown, hts⟩ hMM ⟨cb, hts _ (f4 (by omega)), hts _ (f5 hso)⟩ ⟨g1, hcell, g2⟩ (g := F0 m pc ls (stv.map (zcv e0 ad))) rfl (by rw [List.length_map]; exact hnar) (hl.1.trans hlen) hst2 (lv_room (by rw [zcatsum]; exact hsum)) hdg ⟨by have := hle.2.1; omega, by have := hle.2.2; omega⟩
  exact zo_back hle hA hext hrel hl hlv (fun v hv => hsv v (List.mem_of_mem_drop hv)) hc hs hrun kk
theorem zo_calli (F : zFr D cA e0 bS nS xS A p s m args meth c own nm cc nL) {d j idx : Nat} {as : List ZV} {rv : Option ZV} (hn0 : ∀ r, e0 0 r = none) (hj : j < 253) (hM : zMet l d j as μ rv μ') (hle : zle μ μ') (hRd : d + 1 ≤ R.frames ∧ 37 * (d + 1) ≤ R.locals) (hlk0 : Cond.methodLink own idx (zmi j).1 ∈ zgood ∨ Cond.methodLinkNest own idx (zmi j).1 RX11 ∈ znest) (hso : zsort (zmi j) = 2)
    {r o : Nat} {at' : List ZV} (has0 : as = .inr (.inr (1, r, o)) :: at') (hnar : at'.length = znar (zmi j))
    (hdg : decode cc pc = .ok (.invokespecial idx, 3)) (hlen : lsv.length = nL) (hn : znar (zmi j) + 1 ≤ stv.length) (ha : as = (stv.take (znar (zmi j) + 1)).reverse) (hsum : ((stv.drop (znar (zmi j) + 1)).map zcat).sum ≤ 8) (hR : μ'.2.2.2.2.1 ≤ R.cells + u0 ∧ μ'.2.2.2.2.2 ≤ R.slots + v0)
    (kk : zcont D cA e0 bS nS xS A p l e R s m args below meth c Q L0 ad0 u0 v0 (pc + 3) lsv (rv.toList ++ stv.drop (znar (zmi j) + 1)) μ') : zcont D cA e0 bS nS xS A p l e R s m args below meth c Q L0 ad0 u0 v0 pc lsv stv μ := by
  obtain ⟨hx, hb, hml, hown, hts, hE, hRO, hlk, hnm, hA⟩ := F
  obtain ⟨f1, f2, f3, f4, f5, f6, f7, f8, f9, f10, f11, f12⟩ := zmi_facts hj
  intro L ad H locs ls cells slots hext hrel hl hlv hsv hc hs
  have has : ∀ v ∈ as, zvok μ.1 v := fun v hv => hsv v (List.mem_of_mem_take (List.mem_reverse.mp (ha ▸ hv)))
  have hMM := hM D cA e0 bS nS xS L ad H.size hn0 hrel.2.2.2.1 hrel.2.2.2.2.1 hrel.2.2.2.2.2 has
  obtain ⟨g1, g2⟩ := zPc_pre (μ := μ) (as := as) hE hRO hrel hA
  have hst := zstk (e0 := e0) (ad := ad) hn ha rfl
  obtain ⟨hy1, hy2⟩ := f11 hso
  have hq : zcv e0 ad (.inr (.inr (1, r, o))) = .ref (ad r o) := rfl
  subst has0
  have hst2 : stv.map (zcv e0 ad) = (at'.map (zcv e0 ad)).reverse ++ .ref (ad r o) :: (stv.drop (znar (zmi j) + 1)).map (zcv e0 ad) := by
    rw [hst, List.map_cons, hq, List.reverse_cons, List.append_assoc]
    rfl
  rw [List.map_cons, hq] at g2
  have hR2 : (zrm d (μ'.2.2.2.2.1 - μ.2.2.2.2.1) (μ'.2.2.2.2.2 - μ.2.2.2.2.2)).frames + 1 ≤ R.frames ∧ 8 + (zmx (zmi j) + 11) + (zrm d (μ'.2.2.2.2.1 - μ.2.2.2.2.1) (μ'.2.2.2.2.2 - μ.2.2.2.2.2)).locals ≤ R.locals := ⟨hRd.1, by show 8 + (zmx (zmi j) + 11) + 37 * d ≤ R.locals; omega⟩
  have hw : zwd (zmi j) = Cond.code (zmi j).1 (zcodeAt (zcp (zmi j))) (zmx (zmi j)) none :: zgood := by unfold zwd; rw [hy2]
  have f1' : Cond.code (zmi j).1 (zcodeAt (zcp (zmi j))) (zmx (zmi j)) none ∈ zgood := by rw [← hy2]; exact f1
  have hG : GoodIn zgood (zwd (zmi j)) := by rw [hw]; exact zgood_GoodIn f1'
  rcases hlk0 with hk0 | hk0
  · have cb := callB_of (R := R) (args := args) (own := own) (index := idx) (maxL := zmx (zmi j)) (ret := none) (bytes := zcodeAt (zcp (zmi j))) (mc := μ'.2.2.2.2.1 - μ.2.2.2.2.1) (ms := μ'.2.2.2.2.2 - μ.2.2.2.2.2) (znar (zmi j)) hts hG hw rfl rfl (hts _ f2) (hts _ hk0) f6 hR2
    have hrun := va_runI (l := l) (e := e) (R := R) (below := below) (meth := meth) (locs := locs) (cells := cells) (slots := slots) ⟨hx, hb, hml, hown, hts⟩ hMM ⟨cb, hy1, hts _ (f4 (by omega))⟩ ⟨g1, g2⟩ (g := F0 m pc ls (stv.map (zcv e0 ad))) rfl (by rw [List.length_map]; exact hnar) (hl.1.trans hlen) hst2 (lv_room (by rw [zcatsum]; exact hsum)) hdg ⟨by have := hle.2.1; omega, by have := hle.2.2; omega⟩
    exact zo_back hle hA hext hrel hl hlv (fun v hv => hsv v (List.mem_of_mem_drop hv)) hc hs hrun kk
  · have cn := va_cnB (R := R) (args := args) (own := own) (index := idx) (maxL := zmx (zmi j)) (ret := none) (bytes := zcodeAt (zcp (zmi j))) (mc := μ'.2.2.2.2.1 - μ.2.2.2.2.1) (ms := μ'.2.2.2.2.2 - μ.2.2.2.2.2) (znar (zmi j)) hts hG hw rfl rfl (hE.2.1 _ hk0) (hts _ f2) f6 hR2
    have hrun := va_runIN (l := l) (e := e) (R := R) (below := below) (meth := meth) (locs := locs) (cells := cells) (slots := slots) ⟨hx, hb, hml, hown, hts⟩ hMM ⟨cn, hy1, hts _ (f4 (by omega))⟩ ⟨g1, g2⟩ (g := F0 m pc ls (stv.map (zcv e0 ad))) rfl (by rw [List.length_map]; exact hnar) (hl.1.trans hlen) hst2 (lv_room (by rw [zcatsum]; exact hsum)) hdg ⟨by have := hle.2.1; omega, by have := hle.2.2; omega⟩
    exact zo_back hle hA hext hrel hl hlv (fun v hv => hsv v (List.mem_of_mem_drop hv)) hc hs hrun kk
end ZR1
