/-! methods: what the machine of numbers does, the JVM's does -/
theorem zfind_mem : ∀ (l : List (Nat × List ZN)) (k : Nat), zfind l k ≠ [] → (k, zfind l k) ∈ l
  | [], k, h => absurd rfl h
  | (a, c) :: t, k, h => by
    unfold zfind at h ⊢
    by_cases ha : a = k
    · subst ha
      simp
    · have hb : (a == k) = false := by simpa using ha
      rw [hb] at h ⊢
      exact List.mem_cons_of_mem _ (zfind_mem t k h)
theorem zseg_chk {j : Nat} {cb : ByteArray} {c : Nat} {nm : String} {ret : Option FieldType} {prog : List (Nat × List ZN)} (hp : prog.all (fun x => zchk cb c nm ret x.1 x.2) = true) (hs : ∀ l, zseg j l = zfind prog l) {l : Nat} (h : zseg j l ≠ []) : zchk cb c nm ret l (zseg j l) = true := by
  have h1 := zfind_mem prog l (by rw [← hs]; exact h)
  have h2 := List.all_eq_true.mp hp _ h1
  rw [hs]
  exact h2
theorem zloc_len : ∀ (as : List ZV) (n : Nat), (as.map zcat).sum ≤ n → (zloc as n).length = n
  | [], n, _ => by simp [zloc]
  | v :: t, n, h => by
    unfold zloc
    rw [List.map_cons, List.sum_cons] at h
    cases hv : zislong v with
    | true =>
      have hc : zcat v = 2 := by
        rcases v with x | x | x
        · cases hv
        · rfl
        · cases hv
      have ih := zloc_len t (n - 2) (by omega)
      simp only [cond_true, List.length_cons, ih]
      omega
    | false =>
      have hc : zcat v = 1 := zcat1 (by rw [hv]; decide)
      have ih := zloc_len t (n - 1) (by omega)
      simp only [cond_false, List.length_cons, ih]
      omega
theorem zcv_cat2 {e0 : Nat → Nat → Option Nat} {ad : Nat → Nat → Nat} {v : ZV} : (zcv e0 ad v).category = 2 ↔ zislong v = true := by
  rw [zcv_cat]
  rcases v with x | x | x <;> simp [zcat, zislong]
theorem zloc_args {e0 : Nat → Nat → Option Nat} {ad : Nat → Nat → Nat} : ∀ (as : List ZV) (n i : Nat), ∀ q ∈ zpairs e0 ad i (zloc as n), q ∈ lv_args i (as.map (zcv e0 ad))
  | [], n, i, q, h => by
    obtain ⟨k, v, h1, h2, h3, h4⟩ := (zpairs_mem _ i).mp h
    unfold zloc at h2
    have := List.eq_of_mem_replicate (List.mem_of_getElem? h2)
    exact absurd this h3
  | v :: t, n, i, q, h => by
    unfold zloc at h
    rw [List.map_cons]
    unfold lv_args
    cases hv : zislong v with
    | true =>
      rw [hv] at h
      rw [if_pos (zcv_cat2.mpr hv)]
      simp only [cond_true] at h
      unfold zpairs at h
      rw [if_neg (by intro z; rw [z] at hv; cases hv)] at h
      rcases List.mem_cons.mp h with h | h
      · rw [h]; exact List.mem_cons_self
      · unfold zpairs at h
        rw [if_pos rfl] at h
        exact List.mem_cons_of_mem _ (zloc_args t (n - 2) (i + 2) q h)
    | false =>
      rw [hv] at h
      rw [if_neg (by rw [zcv_cat2, hv]; decide)]
      simp only [cond_false] at h
      unfold zpairs at h
      by_cases hz : v = zu
      · rw [if_pos hz] at h
        exact List.mem_cons_of_mem _ (zloc_args t (n - 1) (i + 1) q h)
      · rw [if_neg hz] at h
        rcases List.mem_cons.mp h with h | h
        · rw [h]; exact List.mem_cons_self
        · exact List.mem_cons_of_mem _ (zloc_args t (n - 1) (i + 1) q h)
theorem zloc_ok {κ : ZK} : ∀ (as : List ZV) (n : Nat), (∀ v ∈ as, zvok κ v) → ∀ v ∈ zloc as n, zvok κ v
  | [], n, _, v, h => by
    unfold zloc at h
    rw [List.eq_of_mem_replicate h]
    exact fun z => by cases z
  | w :: t, n, hw, v, h => by
    unfold zloc at h
    cases hv : zislong w with
    | true =>
      rw [hv] at h
      rcases List.mem_cons.mp h with h | h
      · rw [h]; exact zvok_head hw
      · rcases List.mem_cons.mp h with h | h
        · rw [h]; exact fun z => by cases z
        · exact zloc_ok t _ (zvok_tail hw) v h
    | false =>
      rw [hv] at h
      rcases List.mem_cons.mp h with h | h
      · rw [h]; exact zvok_head hw
      · exact zloc_ok t _ (zvok_tail hw) v h
theorem zsl_len {e0 : Nat → Nat → Option Nat} {ad : Nat → Nat → Nat} : ∀ (as : List ZV), (lg_sl (as.map (zcv e0 ad))).length = (as.map zcat).sum
  | [] => rfl
  | v :: t => by
    have ih := zsl_len (e0 := e0) (ad := ad) t
    have e : lg_sl ((v :: t).map (zcv e0 ad)) = (if (zcv e0 ad v).category = 2 then [.val (zcv e0 ad v), .second] else [.val (zcv e0 ad v)]) ++ lg_sl (t.map (zcv e0 ad)) := rfl
    rw [e, List.length_append, ih, List.map_cons, List.sum_cons]
    cases hv : zislong v with
    | true =>
      rw [if_pos (zcv_cat2.mpr hv)]
      have hc : zcat v = 2 := by
        rcases v with x | x | x
        · cases hv
        · rfl
        · cases hv
      rw [hc]; rfl
    | false =>
      rw [if_neg (by rw [zcv_cat2, hv]; decide), zcat1 (by rw [hv]; decide)]; rfl
theorem znar_i {ret : Option FieldType} {k : Nat} {x : Int} (hr : zretok ret k = true) (hx : k = 0 ∨ (k = 1 ∧ (x = 0 ∨ x = 1)) ∨ (k = 2 ∧ -128 ≤ x ∧ x < 128) ∨ (k = 3 ∧ 0 ≤ x ∧ x < 65536)) : ∃ ty, ret = some ty ∧ narrow ty (.int (Int32.ofInt x)) = .int (Int32.ofInt x) := by
  have s1 : ∀ ty, vp_nar ty (Int32.ofInt x) = Int32.ofInt x → (∃ z, narrow ty (.int (Int32.ofInt x)) = .int z) → narrow ty (.int (Int32.ofInt x)) = .int (Int32.ofInt x) := fun ty h ⟨z, hz⟩ => by
    unfold vp_nar at h
    rw [hz] at h ⊢
    have h' : z = Int32.ofInt x := h
    rw [h']
  unfold zretok at hr
  split at hr
  · exact ⟨.int, rfl, rfl⟩
  · simp only [beq_iff_eq] at hr
    rcases (show x = 0 ∨ x = 1 by omega) with rfl | rfl
    · exact ⟨.boolean, rfl, rfl⟩
    · exact ⟨.boolean, rfl, rfl⟩
  · simp only [beq_iff_eq] at hr
    exact ⟨.byte, rfl, s1 .byte (znar_b (by omega) (by omega)) ⟨_, rfl⟩⟩
  · simp only [beq_iff_eq] at hr
    refine ⟨.char, rfl, ?_⟩
    have e : narrow .char (.int (Int32.ofInt x)) = .int (Int32.ofInt x).toUInt32.toUInt16.toUInt32.toInt32 := rfl
    rw [e]
    congr 1
    obtain ⟨w, rfl⟩ : ∃ w : Nat, x = (w : Int) := ⟨x.toNat, by omega⟩
    rw [Int32.ofInt_eq_ofNat]
    apply Int32.toBitVec.inj
    apply BitVec.eq_of_toNat_eq
    have hw : w < 65536 := by omega
    show ((((Int32.ofNat w).toUInt32.toUInt16.toUInt32.toInt32).toBitVec).toNat) = _
    simp
    omega
  · cases hr
/-- the whole: by how deep the calls go -/
theorem zc_met (l : Launch) (hck : ∀ j, j < 253 → zchkm (zmi j) (zprog.getD j []) = true) : ∀ (d j : Nat) (as : List ZV) (μ : ZM) (rv : Option ZV) (μ' : ZM), zc d j as μ = some (rv, μ') → zMet l d j as μ rv μ'
  | 0, _, _, _, _, _, h => by simp [zc] at h
  | d + 1, j, as, μ, rv, μ', h => by
    have ihd := zc_met l hck d
    have hle := zc_le _ _ _ _ _ _ h
    unfold zc at h
    split at h
    · rename_i hh
      obtain ⟨hrc, hsum, hj⟩ := hh
      intro D cA e0 bS nS xS L ad sz hn0 hnd hdom hok has
      obtain ⟨f1, f2, f3, f4, f5, f6, f7, f8, f9, f10, f11, f12⟩ := zmi_facts hj
      refine Met.ofW (cc := zcodeAt (zcp (zmi j))) (maxL := zmx (zmi j)) (ret := zret (zmi j)) f8 (rfl : zwd (zmi j) = _) ?_
      intro p e s m args below meth c s₁ B hml hv
      obtain ⟨rfl, hsz, hE, hRO, hP, hD⟩ := hv
      subst hsz
      have hts : ∀ w ∈ zgood, w.before (as.map (zcv e0 ad)).toArray s = true := fun w hw => atoms_spec (ws := zwd (zmi j)) B.pre w (List.mem_cons_of_mem _ hw)
      have hown : s.vm.findClass (zown (zcls (zmi j))) = some m.cls := by rw [f9]; exact findClass_of_methodNamed B.named
      have hnm : meth.name = (zmi j).1.name := (name_of_methodNamed B.named B.method).1
      have hck2 := hck j hj
      have hc20 : zcls (zmi j) < 20 ∧ (zprog.getD j []).all (fun x => zchk (zcodeAt (zcp (zmi j))) (zcls (zmi j)) (zmi j).1.name (zret (zmi j)) x.1 x.2) = true := by
        revert hck2
        generalize zmi j = t
        obtain ⟨y, maxL, ret, sort, na, cx, rc, cp, ip, mp, sp⟩ := t
        intro hck2
        simp only [zchkm, Bool.and_eq_true, decide_eq_true_eq] at hck2
        exact hck2
      have F : zFr D cA e0 bS nS xS (zA ad L s.heap.size) p s m (as.map (zcv e0 ad)).toArray meth c (zown (zcls (zmi j))) (zmi j).1.name (zcodeAt (zcp (zmi j))) (zmx (zmi j)) :=
        ⟨B.exec, B.bytes, hml, hown, hts, hE, hRO, B.notSynchronized, hnm, fun q h => Or.inr h⟩
      rw [lg_entry_eq]
      have hl := lv_entry (as.map (zcv e0 ad)) (n := zmx (zmi j)) (by rw [zsl_len]; exact hsum)
      generalize (lg_sl (as.map (zcv e0 ad)) ++ List.replicate (zmx (zmi j) - (lg_sl (as.map (zcv e0 ad))).length) Slot.unset).toArray = ls at hl ⊢
      have hloc := zloc_len as (zmx (zmi j)) hsum
      have hrel : zRel D cA e0 bS nS xS (zA ad L s.heap.size) s L ad μ.1 μ.2.1 μ.2.2.1 s.heap [] := ⟨hP, hD, va_S.rf, hnd, hdom, hok⟩
      have endW : ∀ (L' : List (Nat × Nat)) (ad' : Nat → Nat → Nat) (H : Heap) (locs : List Loc) (t : State), (∀ q ∈ L, q ∈ L' ∧ ad' q.1 q.2 = ad q.1 q.2) → zRel D cA e0 bS nS xS (zA ad L s.heap.size) s L' ad' μ'.1 μ'.2.1 μ'.2.2.1 H locs → t.heap = H → zB D cA e0 bS nS xS L ad (zA ad L s.heap.size) μ' (L', ad') t ∧ va_F (zA ad L s.heap.size) s t := by
        intro L' ad' H locs t hext hr ht
        exact ⟨⟨by rw [ht]; exact hr.1, hr.2.1, hr.2.2.2.1, hr.2.2.2.2.1, hr.2.2.2.2.2, hext⟩, hr.2.2.1.F ht⟩
      have key : ∀ n lbl lsv stv μ0, zrunF (zc d) (zseg j) n lbl lsv stv μ0 = some (rv, μ') → lsv.length = zmx (zmi j) → zcont D cA e0 bS nS xS (zA ad L s.heap.size) p l e (headSpec (zwd (zmi j)) (zrm (d + 1) (μ'.2.2.2.2.1 - μ.2.2.2.2.1) (μ'.2.2.2.2.2 - μ.2.2.2.2.2))).room s m (as.map (zcv e0 ad)).toArray below meth c (MQ below (zQc D cA e0 bS nS xS L ad (zA ad L s.heap.size) rv μ') (as.map (zcv e0 ad)).toArray s (μ'.2.2.2.2.1 - μ.2.2.2.2.1) (μ'.2.2.2.2.2 - μ.2.2.2.2.2) (zA ad L s.heap.size)) L ad μ.2.2.2.2.1 μ.2.2.2.2.2 lbl lsv stv μ0 := by
        intro n
        induction n with
        | zero => intro lbl lsv stv μ0 h0; simp [zrunF] at h0
        | succ n ihn =>
          intro lbl lsv stv μ0 h0 hlen
          have h1 : zexec (zc d) (zrunF (zc d) (zseg j) n) (zseg j lbl) lsv stv μ0 = some (rv, μ') := h0
          have hne : zseg j lbl ≠ [] := by
            intro z
            rw [z] at h1
            simp [zexec] at h1
          have hchk := zseg_chk (j := j) hc20.2 (fun l => rfl) hne
          refine z_exec F hn0 hc20.1 rfl (ret := zret (zmi j)) (d := d) ⟨Nat.le_refl _, Nat.le_refl _⟩ (rv := rv) (μF := μ') ?_ (rec := zrunF (zc d) (zseg j) n) ihn (zrunF_lem (zc_le d) n) ihd ?_ ?_ ?_ (zseg j lbl) lbl lsv stv μ0 hchk h1 hlen
          · constructor
            · show μ'.2.2.2.2.1 ≤ (μ'.2.2.2.2.1 - μ.2.2.2.2.1) + μ.2.2.2.2.1; omega
            · show μ'.2.2.2.2.2 ≤ (μ'.2.2.2.2.2 - μ.2.2.2.2.2) + μ.2.2.2.2.2; omega
          · intro pc x lsv1 k hrv hdg hrk hxk
            subst hrv
            refine z_ret_i fun L' ad' H locs ls' cells slots hext hr hx hcc hss => ?_
            obtain ⟨ty, hty, hnar⟩ := znar_i hrk hxk
            have ec : cells = μ'.2.2.2.2.1 - μ.2.2.2.2.1 := by omega
            have es : slots = μ'.2.2.2.2.2 - μ.2.2.2.2.2 := by omega
            subst ec
            subst es
            refine W.zret (ty := ty) F.1 F.2.1 (B.returns.trans hty) hnar (fun t ht hW => ?_) hr.2.2.1.2.2 hdg
            obtain ⟨b1, b2⟩ := endW L' ad' H locs t hext hr ht
            exact ⟨⟨Int32.ofInt x, (L', ad'), rfl, ⟨rfl, hx⟩, b1⟩, b2⟩
          · intro pc x lsv1 hrv hdg hrt
            subst hrv
            refine z_ret_l fun L' ad' H locs ls' cells slots hext hr hx hcc hss => ?_
            have ec : cells = μ'.2.2.2.2.1 - μ.2.2.2.2.1 := by omega
            have es : slots = μ'.2.2.2.2.2 - μ.2.2.2.2.2 := by omega
            subst ec
            subst es
            refine W.lret F.1 F.2.1 (B.returns.trans hrt) (fun t ht hW => ?_) hr.2.2.1.2.2 hdg
            obtain ⟨b1, b2⟩ := endW L' ad' H locs t hext hr ht
            exact ⟨⟨Int64.ofInt x, (L', ad'), rfl, ⟨rfl, hx⟩, b1⟩, b2⟩
          · intro pc lsv1 hrv hdg hrt
            subst hrv
            intro L' ad' H locs ls' cells slots hext hr hl' hlv' hsv' hcc hss
            have ec : cells = μ'.2.2.2.2.1 - μ.2.2.2.2.1 := by omega
            have es : slots = μ'.2.2.2.2.2 - μ.2.2.2.2.2 := by omega
            subst ec
            subst es
            refine W.vret F.1 F.2.1 (B.returns.trans hrt) (fun t ht hW => ?_) hr.2.2.1.2.2 hdg
            obtain ⟨b1, b2⟩ := endW L' ad' H locs t hext hr ht
            exact ⟨⟨(L', ad'), rfl, trivial, b1⟩, b2⟩
      obtain ⟨n, hn⟩ := zrun_iff.mp h
      exact key n 0 _ _ μ hn hloc L ad s.heap [] ls 0 0 (fun q hq => ⟨hq, rfl⟩) hrel (by rw [hloc]; exact zlv_sub hl (zloc_args as (zmx (zmi j)) 0)) (zloc_ok as _ has) (fun v hv => by cases hv) (Nat.zero_add _) (Nat.zero_add _)
    · cases h
