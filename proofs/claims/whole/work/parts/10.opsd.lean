/-! fields; stores into rows -/
section ZG
variable {D : va_G} {cA : Nat → ClassId} {e0 : Nat → Nat → Option Nat} {bS nS : Nat} {xS : Nat → Int} {A : Nat → Prop} {p : Program} {l : Launch} {e : Env} {R : Room} {s : State} {m : MethodId} {args : Array Value} {below : List Frame} {meth : Method} {c : Code} {Q : State → Prop} {L0 : List (Nat × Nat)} {ad0 : Nat → Nat → Nat} {u0 v0 : Nat}
variable {own nm : String} {cc : ByteArray} {nL pc : Nat} {lsv stv lsv' stv' : List ZV} {μ μ' : ZM}
theorem zo_get (F : zFr D cA e0 bS nS xS A p s m args meth c own nm cc nL) {idx ci k : Nat} (hci : ci < 13) (hk : k < (zcl ci).2.2) (hlink : Cond.fieldLink own idx ((zcl ci).2.1 k).1 ((zcl ci).2.1 k).2.1 ((zcl ci).2.1 k).2.2.1 ∈ zgood) (hdg : decode cc pc = .ok (.getfield idx, 3))
    {r o n : Nat} {st0 : List ZV} (hκ : μ.1 r o = some (ci + 10, n)) (hkn : k < n)
    (kk : zcont D cA e0 bS nS xS A p l e R s m args below meth c Q L0 ad0 u0 v0 (pc + 3) lsv (μ.2.1 r o k :: st0) μ) : zcont D cA e0 bS nS xS A p l e R s m args below meth c Q L0 ad0 u0 v0 pc lsv (.inr (.inr (1, r, o)) :: st0) μ := by
  obtain ⟨hx, hb, hml, hown, hts, hE, hRO, hlk, hnm, hA⟩ := F
  intro L ad H locs ls cells slots hext hrel hl hlv hsv hc hs
  have kx := kk L ad H locs ls cells slots hext hrel hl hlv (zvok_cons (hrel.2.2.2.2.2.2 r o k) (zvok_tail hsv)) hc hs
  have e1 : zcv e0 ad (.inr (.inr (1, r, o))) = .ref (ad r o) := rfl
  rw [List.map_cons] at kx ⊢
  rw [e1]
  obtain ⟨q, hq⟩ := zRel_place hrel hκ (by omega)
  have hg := zws_get (cA := cA) (e0 := e0) (ad := ad) (κ := μ.1) (f := μ.2.1) (a := μ.2.2.1) hq
  rw [zcell_o hκ] at hg
  refine va_get (D := D) (cl := vwCl) (ci := ci) (C := (zcl ci).1) (T := (zcl ci).2.1) (N := (zcl ci).2.2) hx hb hts (zcl_in hci) hown hE.1 hrel.1 q hg (zcl_at hci) k hk (hts _ hlink) (fun _ h9 => h9) (v := zcv e0 ad (μ.2.1 r o k)) ?_ hdg kx
  rw [List.getElem?_map, List.getElem?_range hkn]
  rfl
theorem zfits_ok {ci k : Nat} (hci : ci < 13) {ad : Nat → Nat → Nat} {v : ZV} (hv : zfits (zsrt ci k) v = true) (hok : ∀ n, v = .inl n → zI32 n) (hs2 : zsrt ci k = 2 → ∀ x : Nat, narrow (zty ci k) (.ref x) = .ref x ∧ fits (zty ci k) (.ref x) = true) (hs0 : zsrt ci k = 0 → zty ci k = .int) (hs1 : zsrt ci k = 1 → zty ci k = .boolean) : narrow (zty ci k) (zcv e0 ad v) = zcv e0 ad v ∧ fits (zty ci k) (zcv e0 ad v) = true := by
  rcases v with n | n | ⟨t, r, o⟩
  · simp only [zfits, Bool.or_eq_true, Bool.and_eq_true, beq_iff_eq] at hv
    rcases hv with hv | ⟨hv, hz⟩
    · rw [hs0 hv]; exact ⟨rfl, rfl⟩
    · rw [hs1 hv]
      rcases hz with rfl | rfl
      · show narrow .boolean (.int (Int32.ofInt 0)) = .int (Int32.ofInt 0) ∧ fits .boolean (.int (Int32.ofInt 0)) = true
        exact ⟨by rfl, by decide⟩
      · show narrow .boolean (.int (Int32.ofInt 1)) = .int (Int32.ofInt 1) ∧ fits .boolean (.int (Int32.ofInt 1)) = true
        exact ⟨by rfl, by decide⟩
  · cases hv
  · simp only [zfits, Bool.and_eq_true, beq_iff_eq] at hv
    obtain ⟨h2, rfl⟩ := hv
    exact hs2 h2 (ad r o)
/-- the sorts are the types' own -/
def zsok (ci : Nat) : Bool := (List.range (zcl ci).2.2).all fun k => match zty ci k with
  | .int => zsrt ci k == 0
  | .boolean => zsrt ci k == 1
  | .object _ => zsrt ci k == 2
  | .array _ => zsrt ci k == 2
  | _ => false
theorem zsok_all : (List.range 13).all zsok = true := by decide +kernel
theorem zsok_at {ci k : Nat} (hci : ci < 13) (hk : k < (zcl ci).2.2) : (zsrt ci k = 2 → ∀ x : Nat, narrow (zty ci k) (.ref x) = .ref x ∧ fits (zty ci k) (.ref x) = true) ∧ (zsrt ci k = 0 → zty ci k = .int) ∧ (zsrt ci k = 1 → zty ci k = .boolean) := by
  have h1 := List.all_eq_true.mp zsok_all ci (List.mem_range.mpr hci)
  have h2 := List.all_eq_true.mp h1 k (List.mem_range.mpr hk)
  revert h2
  cases hty : zty ci k <;> intro h2 <;> simp only [beq_iff_eq] at h2 <;> first
    | (rw [h2]; exact ⟨fun z => absurd z (by decide), fun _ => rfl, fun z => absurd z (by decide)⟩)
    | (rw [h2]; exact ⟨fun z => absurd z (by decide), fun z => absurd z (by decide), fun _ => rfl⟩)
    | (rw [h2]; exact ⟨fun _ x => ⟨rfl, rfl⟩, fun z => absurd z (by decide), fun z => absurd z (by decide)⟩)
    | cases h2
theorem zset_range {r o k n : Nat} {f : ZF} {v : ZV} {ad : Nat → Nat → Nat} (hk : k < n) : ((List.range n).map fun j => zcv e0 ad (f r o j)).set k (zcv e0 ad v) = (List.range n).map fun j => zcv e0 ad (zuf f r o k v r o j) := by
  apply List.ext_getElem?
  intro j
  by_cases hj : k = j
  · subst hj
    rw [List.getElem?_set_self (by simpa using hk), List.getElem?_map, List.getElem?_range hk]
    simp [zuf]
  · rw [List.getElem?_set_ne hj, List.getElem?_map, List.getElem?_map]
    by_cases h2 : j < n
    · rw [List.getElem?_range h2]
      simp [zuf, Ne.symm hj]
    · rw [List.getElem?_eq_none (by simpa using h2)]
      rfl
theorem zo_put (F : zFr D cA e0 bS nS xS A p s m args meth c own nm cc nL) {idx ci k : Nat} (hci : ci < 13) (hk : k < (zcl ci).2.2) (hlink : Cond.fieldLink own idx ((zcl ci).2.1 k).1 ((zcl ci).2.1 k).2.1 ((zcl ci).2.1 k).2.2.1 ∈ zgood)
    (hfin : ((zcl ci).2.1 k).2.2.2 = true → nm = "<init>" ∧ ((zcl ci).2.1 k).1 = own) (hdg : decode cc pc = .ok (.putfield idx, 3))
    {r o n : Nat} {st0 : List ZV} {v : ZV} (hκ : μ.1 r o = some (ci + 10, n)) (hkn : k < n) (hv : zfits (zsrt ci k) v = true)
    (kk : zcont D cA e0 bS nS xS A p l e R s m args below meth c Q L0 ad0 u0 v0 (pc + 3) lsv st0 (μ.1, zuf μ.2.1 r o k v, μ.2.2)) : zcont D cA e0 bS nS xS A p l e R s m args below meth c Q L0 ad0 u0 v0 pc lsv (v :: .inr (.inr (1, r, o)) :: st0) μ := by
  obtain ⟨hx, hb, hml, hown, hts, hE, hRO, hlk, hnm, hA⟩ := F
  intro L ad H locs ls cells slots hext hrel hl hlv hsv hc hs
  have e1 : zcv e0 ad (.inr (.inr (1, r, o))) = .ref (ad r o) := rfl
  rw [List.map_cons, List.map_cons, e1]
  obtain ⟨q, hq⟩ := zRel_place hrel hκ (by omega)
  have hg := zws_get (cA := cA) (e0 := e0) (ad := ad) (κ := μ.1) (f := μ.2.1) (a := μ.2.2.1) hq
  rw [zcell_o hκ] at hg
  obtain ⟨s2, s0, s1⟩ := zsok_at hci hk
  obtain ⟨f1, f2⟩ := zfits_ok (e0 := e0) (ad := ad) hci hv (fun n e2 => by have := zvok_head hsv; rw [e2] at this; exact this) s2 s0 s1
  have hgo : ∀ (H1 : Heap) (locs1 : List Loc), va_P D vwCl ((zws cA e0 ad μ.1 μ.2.1 μ.2.2.1 L).set q (ad r o, .inr (ci, ((List.range n).map fun j => zcv e0 ad (μ.2.1 r o j)).set k (zcv e0 ad v)))) H1 → va_D A ((zws cA e0 ad μ.1 μ.2.1 μ.2.2.1 L).set q (ad r o, .inr (ci, ((List.range n).map fun j => zcv e0 ad (μ.2.1 r o j)).set k (zcv e0 ad v)))) → va_S A s.heap H1 locs1 → W p l e R s m args below meth c H1 locs1 cells slots Q (F0 m (pc + 3) ls (st0.map (zcv e0 ad))) := by
    intro H1 locs1 hP1 hD1 hS1
    rw [zset_range hkn, ← zcell_o (cA := cA) (e0 := e0) (ad := ad) (f := zuf μ.2.1 r o k v) (a := μ.2.2.1) hκ] at hP1 hD1
    exact kk L ad H1 locs1 ls cells slots hext (zRel_wf hrel hκ (by omega) hq (zvok_head hsv) (fun z => by omega) hP1 hD1 hS1) hl hlv (zvok_tail (zvok_tail hsv)) hc hs
  by_cases hf : ((zcl ci).2.1 k).2.2.2 = true
  · obtain ⟨g1, g2⟩ := hfin hf
    exact va_putF (D := D) (cl := vwCl) (ci := ci) (C := (zcl ci).1) (T := (zcl ci).2.1) (N := (zcl ci).2.2) hx hb hts (zcl_in hci) (zty ci) (zty_ok hci) (znm_ok hci) hown hE.1 hrel.1 hrel.2.1 hrel.2.2.1 q hg (zcl_at hci) k hk (hts _ hlink) (fun _ h9 => h9) hf (hnm.trans g1) g2 (zty_ok hci k hk) f1 f2 (by simpa using hkn) hdg hgo
  · exact va_put (D := D) (cl := vwCl) (ci := ci) (C := (zcl ci).1) (T := (zcl ci).2.1) (N := (zcl ci).2.2) hx hb hts (zcl_in hci) (zty ci) (zty_ok hci) (znm_ok hci) hown hE.1 hrel.1 hrel.2.1 hrel.2.2.1 q hg (zcl_at hci) k hk (hts _ hlink) (fun _ h9 => h9) (by simpa using hf) (zty_ok hci k hk) f1 f2 (by simpa using hkn) hdg hgo
theorem upd_zua {a : ZA} {r o i : Nat} {x : Int} : upd (fun j => Int32.ofInt (a r o j)) i (Int32.ofInt x) = fun j => Int32.ofInt (zua a r o i x r o j) := by
  funext j
  by_cases hj : j = i
  · subst hj; simp [upd, zua]
  · simp [upd, zua, hj]
theorem updL_zua {a : ZA} {r o i : Nat} {x : Int} : vp_updL (fun j => Int64.ofInt (a r o j)) i (Int64.ofInt x) = fun j => Int64.ofInt (zua a r o i x r o j) := by
  funext j
  by_cases hj : j = i
  · subst hj; simp [vp_updL, zua]
  · simp [vp_updL, zua, hj]
theorem zo_iast (F : zFr D cA e0 bS nS xS A p s m args meth c own nm cc nL) (hdg : decode cc pc = .ok (.iastore, 1)) (h : zastI stv lsv μ = some (lsv', stv', μ'))
    (kk : zcont D cA e0 bS nS xS A p l e R s m args below meth c Q L0 ad0 u0 v0 (pc + 1) lsv' stv' μ') : zcont D cA e0 bS nS xS A p l e R s m args below meth c Q L0 ad0 u0 v0 pc lsv stv μ := by
  obtain ⟨hx, hb, hml, hown, hts, hE, hRO, hlk, hnm, hA⟩ := F
  unfold zastI at h
  split at h
  · rename_i x i t r o st0
    split at h
    · rename_i k n hk
      split at h
      · rename_i hc0
        cases h
        intro L ad H locs ls cells slots hext hrel hl hlv hsv hc hs
        obtain ⟨hi, hn⟩ := zin (zvok_head (zvok_tail hsv)) hc0.2.1 hc0.2.2
        have e1 : zcv e0 ad (.inr (.inr (1, r, o))) = .ref (ad r o) := rfl
        obtain ⟨rfl, -, -⟩ := hc0
        simp only [List.map_cons]
        rw [e1]
        obtain ⟨q, hq⟩ := zRel_place hrel hk (by omega)
        have hg := zws_get (cA := cA) (e0 := e0) (ad := ad) (κ := μ.1) (f := μ.2.1) (a := μ.2.2.1) hq
        rw [zcell_n hk (by omega)] at hg
        refine va_iast (D := D) (cl := vwCl) (x := Int32.ofInt x) hx hb hE.1 hrel.1 hrel.2.1 hrel.2.2.1 q 0 hg rfl hi hdg fun H1 locs1 hP1 hD1 hS1 => ?_
        rw [hn, upd_zua, ← zcell_n (cA := cA) (e0 := e0) (ad := ad) (f := μ.2.1) (a := zua μ.2.2.1 r o i.toNat x) hk (by omega)] at hP1 hD1
        exact kk L ad H1 locs1 ls cells slots hext (zRel_wr hrel hk (by omega) hq ⟨fun _ => ⟨zvok_head hsv, fun z => by omega⟩, fun z => by omega⟩ hP1 hD1 hS1) hl hlv (zvok_tail (zvok_tail (zvok_tail hsv))) hc hs
      · cases h
    · cases h
  · cases h
theorem znar_b {x : Int} (h1 : -128 ≤ x) (h2 : x < 128) : vp_nar .byte (Int32.ofInt x) = Int32.ofInt x := by
  have hx : zI32 x := by unfold zI32; omega
  have e : narrow .byte (.int (Int32.ofInt x)) = .int (Int32.ofInt x).toInt8.toInt32 := rfl
  unfold vp_nar
  rw [e]
  show (Int32.ofInt x).toInt8.toInt32 = Int32.ofInt x
  apply Int32.toInt_inj.mp
  rw [Int8.toInt_toInt32, Int32.toInt_toInt8, zI32_to hx]
  show x.bmod 256 = x
  rw [Int.bmod_def]
  omega
theorem znar_z {x : Int} (h : x = 0 ∨ x = 1) : vp_nar .boolean (Int32.ofInt x) = Int32.ofInt x := by
  rcases h with rfl | rfl
  · rfl
  · rfl
theorem zo_bast (F : zFr D cA e0 bS nS xS A p s m args meth c own nm cc nL) (hdg : decode cc pc = .ok (.bastore, 1)) (h : zastB stv lsv μ = some (lsv', stv', μ'))
    (kk : zcont D cA e0 bS nS xS A p l e R s m args below meth c Q L0 ad0 u0 v0 (pc + 1) lsv' stv' μ') : zcont D cA e0 bS nS xS A p l e R s m args below meth c Q L0 ad0 u0 v0 pc lsv stv μ := by
  obtain ⟨hx, hb, hml, hown, hts, hE, hRO, hlk, hnm, hA⟩ := F
  unfold zastB at h
  split at h
  · rename_i x i t r o st0
    split at h
    · rename_i k n hk
      split at h
      · rename_i hc0
        cases h
        intro L ad H locs ls cells slots hext hrel hl hlv hsv hc hs
        obtain ⟨hi, hn⟩ := zin (zvok_head (zvok_tail hsv)) hc0.2.1 hc0.2.2
        have e1 : zcv e0 ad (.inr (.inr (1, r, o))) = .ref (ad r o) := rfl
        simp only [List.map_cons]
        rw [e1]
        obtain ⟨q, hq⟩ := zRel_place hrel hk (by omega)
        have hg := zws_get (cA := cA) (e0 := e0) (ad := ad) (κ := μ.1) (f := μ.2.1) (a := μ.2.2.1) hq
        rw [zcell_n hk (by omega)] at hg
        rcases hc0.1 with ⟨rfl, hv⟩ | ⟨rfl, hv1, hv2⟩
        · refine va_zast (D := D) (cl := vwCl) (x := Int32.ofInt x) hx hb hE.1 hrel.1 hrel.2.1 hrel.2.2.1 q 1 hg rfl hi hdg fun H1 locs1 hP1 hD1 hS1 => ?_
          rw [hn, znar_z hv, upd_zua, ← zcell_n (cA := cA) (e0 := e0) (ad := ad) (f := μ.2.1) (a := zua μ.2.2.1 r o i.toNat x) hk (by omega)] at hP1 hD1
          exact kk L ad H1 locs1 ls cells slots hext (zRel_wr hrel hk (by omega) hq ⟨fun _ => ⟨zvok_head hsv, fun _ => hv⟩, fun z => by omega⟩ hP1 hD1 hS1) hl hlv (zvok_tail (zvok_tail (zvok_tail hsv))) hc hs
        · refine va_bast (D := D) (cl := vwCl) (x := Int32.ofInt x) hx hb hE.1 hrel.1 hrel.2.1 hrel.2.2.1 q 2 hg rfl hi hdg fun H1 locs1 hP1 hD1 hS1 => ?_
          rw [hn, znar_b hv1 hv2, upd_zua, ← zcell_n (cA := cA) (e0 := e0) (ad := ad) (f := μ.2.1) (a := zua μ.2.2.1 r o i.toNat x) hk (by omega)] at hP1 hD1
          exact kk L ad H1 locs1 ls cells slots hext (zRel_wr hrel hk (by omega) hq ⟨fun _ => ⟨zvok_head hsv, fun z => by omega⟩, fun z => by omega⟩ hP1 hD1 hS1) hl hlv (zvok_tail (zvok_tail (zvok_tail hsv))) hc hs
      · cases h
    · cases h
  · cases h
theorem zo_last (F : zFr D cA e0 bS nS xS A p s m args meth c own nm cc nL) (hdg : decode cc pc = .ok (.lastore, 1)) (h : zastL stv lsv μ = some (lsv', stv', μ'))
    (kk : zcont D cA e0 bS nS xS A p l e R s m args below meth c Q L0 ad0 u0 v0 (pc + 1) lsv' stv' μ') : zcont D cA e0 bS nS xS A p l e R s m args below meth c Q L0 ad0 u0 v0 pc lsv stv μ := by
  obtain ⟨hx, hb, hml, hown, hts, hE, hRO, hlk, hnm, hA⟩ := F
  unfold zastL at h
  split at h
  · rename_i x i t r o st0
    split at h
    · rename_i k n hk
      split at h
      · rename_i hc0
        cases h
        intro L ad H locs ls cells slots hext hrel hl hlv hsv hc hs
        obtain ⟨hi, hn⟩ := zin (zvok_head (zvok_tail hsv)) hc0.2.1 hc0.2.2
        have e1 : zcv e0 ad (.inr (.inr (1, r, o))) = .ref (ad r o) := rfl
        obtain ⟨rfl, -, -⟩ := hc0
        simp only [List.map_cons]
        rw [e1]
        obtain ⟨q, hq⟩ := zRel_place hrel hk (by omega)
        have hg := zws_get (cA := cA) (e0 := e0) (ad := ad) (κ := μ.1) (f := μ.2.1) (a := μ.2.2.1) hq
        rw [zcell_l hk] at hg
        refine va_last (D := D) (cl := vwCl) (x := Int64.ofInt x) hx hb hE.1 hrel.1 hrel.2.1 hrel.2.2.1 q 3 hg rfl hi hdg fun H1 locs1 hP1 hD1 hS1 => ?_
        rw [hn, updL_zua, ← zcell_l (cA := cA) (e0 := e0) (ad := ad) (f := μ.2.1) (a := zua μ.2.2.1 r o i.toNat x) hk] at hP1 hD1
        exact kk L ad H1 locs1 ls cells slots hext (zRel_wr hrel hk (by omega) hq ⟨fun z => by omega, fun _ => zvok_head hsv⟩ hP1 hD1 hS1) hl hlv (zvok_tail (zvok_tail (zvok_tail hsv))) hc hs
      · cases h
    · cases h
  · cases h
theorem zo_aast (F : zFr D cA e0 bS nS xS A p s m args meth c own nm cc nL) (hdg : decode cc pc = .ok (.aastore, 1)) (h : zaast stv lsv μ = some (lsv', stv', μ'))
    (kk : zcont D cA e0 bS nS xS A p l e R s m args below meth c Q L0 ad0 u0 v0 (pc + 1) lsv' stv' μ') : zcont D cA e0 bS nS xS A p l e R s m args below meth c Q L0 ad0 u0 v0 pc lsv stv μ := by
  obtain ⟨hx, hb, hml, hown, hts, hE, hRO, hlk, hnm, hA⟩ := F
  unfold zaast at h
  split at h
  · rename_i t' r' o' i t r o st0
    split at h
    · rename_i k n k' n' hk hk'
      split at h
      · rename_i hc0
        cases h
        intro L ad H locs ls cells slots hext hrel hl hlv hsv hc hs
        obtain ⟨hi, hn⟩ := zin (zvok_head (zvok_tail hsv)) hc0.2.2.1 hc0.2.2.2
        have e1 : zcv e0 ad (.inr (.inr (1, r, o))) = .ref (ad r o) := rfl
        have e2 : zcv e0 ad (.inr (.inr (1, r', o'))) = .ref (ad r' o') := rfl
        obtain ⟨rfl, rfl, -, -⟩ := hc0
        simp only [List.map_cons]
        rw [e1, e2]
        obtain ⟨q, hq⟩ := zRel_place hrel hk (by omega)
        obtain ⟨q', hq'⟩ := zRel_place hrel hk' (by omega)
        have hg := zws_get (cA := cA) (e0 := e0) (ad := ad) (κ := μ.1) (f := μ.2.1) (a := μ.2.2.1) hq
        have hg' := zws_get (cA := cA) (e0 := e0) (ad := ad) (κ := μ.1) (f := μ.2.1) (a := μ.2.2.1) hq'
        rw [zcell_q hk (by omega)] at hg
        rw [zcell_o (k := 2) hk'] at hg'
        refine va_astq (D := D) (cl := vwCl) (r := (RX2, TX2, 18)) hx hb hE.1 hrel.1 hrel.2.1 hrel.2.2.1 q 4 q' 2 hg rfl hg' rfl hi hdg fun H1 locs1 hP1 hD1 hS1 => ?_
        have e3 : va_up (fun j => zop1 ad (μ.2.1 r o j)) (Int32.ofInt i).toNatClampNeg (some (ad r' o')) = fun j => zop1 ad (zuf μ.2.1 r o i.toNat (.inr (.inr (1, r', o'))) r o j) := by
          rw [hn]
          funext j
          by_cases hj : j = i.toNat
          · subst hj; simp [va_up, zuf, zop1]
          · simp [va_up, zuf, hj]
        rw [e3, ← zcell_q (cA := cA) (e0 := e0) (ad := ad) (f := zuf μ.2.1 r o i.toNat (.inr (.inr (1, r', o')))) (a := μ.2.2.1) hk (by omega)] at hP1 hD1
        exact kk L ad H1 locs1 ls cells slots hext (zRel_wf hrel hk (by omega) hq (zvok_head hsv) (fun _ => ⟨1, r', o', rfl, by omega⟩) hP1 hD1 hS1) hl hlv (zvok_tail (zvok_tail (zvok_tail hsv))) hc hs
      · cases h
    · cases h
  · cases h
end ZG
