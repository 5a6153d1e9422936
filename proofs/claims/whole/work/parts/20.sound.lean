/-! from the machine of numbers to the JVM's: stretches, methods -/
/-- the receiver is of the method's class -/
def zrcvok (rc : Nat) (as : List ZV) (μ : ZM) : Bool := match rc, as with
  | 0, _ => true
  | n + 1, .inr (.inr (t, r, o)) :: _ => (match t with
    | 1 => (match μ.1 r o with
      | some (k, _) => k == n + 10 && decide (n < 13)
      | none => false)
    | 4 => n == 20 && decide (r < 10)
    | _ => false)
  | _, _ => false
/-- what method j does, by at most d calls within one another -/
noncomputable def zc : Nat → Nat → List ZV → ZM → ZO
  | 0, _, _, _ => none
  | d + 1, j, as, μ => if zrcvok (zrcv (zmi j)) as μ = true ∧ (as.map zcat).sum ≤ zmx (zmi j) ∧ j < 253 then zrun (zc d) (zseg j) 0 (zloc as (zmx (zmi j))) [] μ else none
theorem zc_le : ∀ (d j : Nat) (as : List ZV) (μ : ZM) (v : Option ZV) (μ' : ZM), zc d j as μ = some (v, μ') → zle μ μ'
  | 0, _, _, _, _, _, h => by simp [zc] at h
  | d + 1, j, as, μ, v, μ', h => by
    unfold zc at h
    split at h
    · obtain ⟨n, hn⟩ := zrun_iff.mp h
      exact zrunF_lem (zc_le d) n 0 _ _ μ v μ' hn
    · cases h
theorem zlsw_eq (pc : Nat) (d : Int) (x : Int) : ∀ (ps : List (Int × Int)), zlsw pc d ps x = ((pc : Int) + Op.lookupswitch.offset ps d x).toNat
  | [] => rfl
  | (k, o) :: t => by
    have ih := zlsw_eq pc d x t
    have e : Op.lookupswitch.offset ((k, o) :: t) d x = if k = x then o else Op.lookupswitch.offset t d x := rfl
    unfold zlsw
    rw [ih, e]
    by_cases h : x = k
    · rw [if_pos h, if_pos h.symm]
    · rw [if_neg h, if_neg (fun z => h z.symm)]
theorem zlsw_nn (pc : Nat) (d : Int) (x : Int) (hd : 0 ≤ (pc : Int) + d) : ∀ (ps : List (Int × Int)), (∀ o ∈ ps, 0 ≤ (pc : Int) + o.2) → 0 ≤ (pc : Int) + Op.lookupswitch.offset ps d x
  | [], _ => hd
  | (k, o) :: t, h => by
    have ih := zlsw_nn pc d x hd t (fun o ho => h o (List.mem_cons_of_mem _ ho))
    have e : Op.lookupswitch.offset ((k, o) :: t) d x = if k = x then o else Op.lookupswitch.offset t d x := rfl
    rw [e]
    by_cases hk : k = x
    · rw [if_pos hk]; exact h (k, o) List.mem_cons_self
    · rw [if_neg hk]; exact ih
section ZX1
variable {D : va_G} {cA : Nat → ClassId} {e0 : Nat → Nat → Option Nat} {bS nS : Nat} {xS : Nat → Int} {A : Nat → Prop} {p : Program} {l : Launch} {e : Env} {R : Room} {s : State} {m : MethodId} {args : Array Value} {below : List Frame} {meth : Method} {c : Code} {Q : State → Prop} {L0 : List (Nat × Nat)} {ad0 : Nat → Nat → Nat} {u0 v0 : Nat}
variable {own nm : String} {cc : ByteArray} {nL : Nat}
theorem z_ret_i {x : Int} {pc : Nat} {lsv : List ZV} {μ : ZM} (h : ∀ (L : List (Nat × Nat)) (ad : Nat → Nat → Nat) (H : Heap) (locs : List Loc) (ls : Array Slot) (cells slots : Nat), (∀ q ∈ L0, q ∈ L ∧ ad q.1 q.2 = ad0 q.1 q.2) → zRel D cA e0 bS nS xS A s L ad μ.1 μ.2.1 μ.2.2.1 H locs → zI32 x → cells + u0 = μ.2.2.2.2.1 → slots + v0 = μ.2.2.2.2.2 → W p l e R s m args below meth c H locs cells slots Q (F0 m pc ls [.int (Int32.ofInt x)])) :
    zcont D cA e0 bS nS xS A p l e R s m args below meth c Q L0 ad0 u0 v0 pc lsv [.inl x] μ := fun L ad H locs ls cells slots hext hrel hl hlv hsv hc hs => h L ad H locs ls cells slots hext hrel (hsv _ List.mem_cons_self) hc hs
theorem z_ret_l {x : Int} {pc : Nat} {lsv : List ZV} {μ : ZM} (h : ∀ (L : List (Nat × Nat)) (ad : Nat → Nat → Nat) (H : Heap) (locs : List Loc) (ls : Array Slot) (cells slots : Nat), (∀ q ∈ L0, q ∈ L ∧ ad q.1 q.2 = ad0 q.1 q.2) → zRel D cA e0 bS nS xS A s L ad μ.1 μ.2.1 μ.2.2.1 H locs → zI64 x → cells + u0 = μ.2.2.2.2.1 → slots + v0 = μ.2.2.2.2.2 → W p l e R s m args below meth c H locs cells slots Q (F0 m pc ls [.long (Int64.ofInt x)])) :
    zcont D cA e0 bS nS xS A p l e R s m args below meth c Q L0 ad0 u0 v0 pc lsv [.inr (.inl x)] μ := fun L ad H locs ls cells slots hext hrel hl hlv hsv hc hs => h L ad H locs ls cells slots hext hrel (hsv _ List.mem_cons_self) hc hs
/-- a branch on one int -/
theorem zo_br1 {pc tgt : Nat} {lsv st0 : List ZV} {x : Int} {μ : ZM} {P : Prop} {G : Int32 → Prop} (hP : zI32 x → (G (Int32.ofInt x) ↔ P))
    (row : ∀ {H : Heap} {locs : List Loc} {cells slots : Nat} {ls : Array Slot} {rest : List Value} {x : Int32}, (G x → W p l e R s m args below meth c H locs cells slots Q (F0 m tgt ls rest)) → (¬ G x → W p l e R s m args below meth c H locs cells slots Q (F0 m (pc + 3) ls rest)) → W p l e R s m args below meth c H locs cells slots Q (F0 m pc ls (.int x :: rest)))
    (kt : P → zcont D cA e0 bS nS xS A p l e R s m args below meth c Q L0 ad0 u0 v0 tgt lsv st0 μ) (kf : ¬ P → zcont D cA e0 bS nS xS A p l e R s m args below meth c Q L0 ad0 u0 v0 (pc + 3) lsv st0 μ) : zcont D cA e0 bS nS xS A p l e R s m args below meth c Q L0 ad0 u0 v0 pc lsv (.inl x :: st0) μ := by
  intro L ad H locs ls cells slots hext hrel hl hlv hsv hc hs
  have hx := hP (zvok_head hsv)
  exact row (fun h => kt (hx.mp h) L ad H locs ls cells slots hext hrel hl hlv (zvok_tail hsv) hc hs) (fun h => kf (fun z => h (hx.mpr z)) L ad H locs ls cells slots hext hrel hl hlv (zvok_tail hsv) hc hs)
theorem zo_br2 {pc tgt : Nat} {lsv st0 : List ZV} {x y : Int} {μ : ZM} {P : Prop} {G : Int32 → Int32 → Prop} (hP : zI32 x → zI32 y → (G (Int32.ofInt x) (Int32.ofInt y) ↔ P))
    (row : ∀ {H : Heap} {locs : List Loc} {cells slots : Nat} {ls : Array Slot} {rest : List Value} {x y : Int32}, (G x y → W p l e R s m args below meth c H locs cells slots Q (F0 m tgt ls rest)) → (¬ G x y → W p l e R s m args below meth c H locs cells slots Q (F0 m (pc + 3) ls rest)) → W p l e R s m args below meth c H locs cells slots Q (F0 m pc ls (.int y :: .int x :: rest)))
    (kt : P → zcont D cA e0 bS nS xS A p l e R s m args below meth c Q L0 ad0 u0 v0 tgt lsv st0 μ) (kf : ¬ P → zcont D cA e0 bS nS xS A p l e R s m args below meth c Q L0 ad0 u0 v0 (pc + 3) lsv st0 μ) : zcont D cA e0 bS nS xS A p l e R s m args below meth c Q L0 ad0 u0 v0 pc lsv (.inl y :: .inl x :: st0) μ := by
  intro L ad H locs ls cells slots hext hrel hl hlv hsv hc hs
  have hx := hP (zvok_head (zvok_tail hsv)) (zvok_head hsv)
  exact row (fun h => kt (hx.mp h) L ad H locs ls cells slots hext hrel hl hlv (zvok_tail (zvok_tail hsv)) hc hs) (fun h => kf (fun z => h (hx.mpr z)) L ad H locs ls cells slots hext hrel hl hlv (zvok_tail (zvok_tail hsv)) hc hs)
theorem zle32 {x y : Int} (hx : zI32 x) (hy : zI32 y) : (Int32.ofInt x ≤ Int32.ofInt y) ↔ ¬ y < x := by
  rw [Int32.le_iff_toInt_le, zI32_to hx, zI32_to hy]
  omega
theorem zc_call_ok {d j : Nat} {as : List ZV} {μ : ZM} {v : Option ZV} {μ' : ZM} (h : zc d j as μ = some (v, μ')) : zrcvok (zrcv (zmi j)) as μ = true ∧ j < 253 := by
  cases d with
  | zero => simp [zc] at h
  | succ d =>
    unfold zc at h
    split at h
    · rename_i hh; exact ⟨hh.1, hh.2.2⟩
    · cases h
theorem z_exec (F : zFr D cA e0 bS nS xS A p s m args meth c own nm cc nL) (hn0 : ∀ r, e0 0 r = none) {cx : Nat} (hcx : cx < 20) (how : own = zown cx) {ret : Option FieldType} {d : Nat} (hRd : d + 1 ≤ R.frames ∧ 37 * (d + 1) ≤ R.locals) {rv : Option ZV} {μF : ZM} (hRF : μF.2.2.2.2.1 ≤ R.cells + u0 ∧ μF.2.2.2.2.2 ≤ R.slots + v0)
    {rec : Nat → List ZV → List ZV → ZM → ZO} (hrec : ∀ lbl ls st μ, rec lbl ls st μ = some (rv, μF) → ls.length = nL → zcont D cA e0 bS nS xS A p l e R s m args below meth c Q L0 ad0 u0 v0 lbl ls st μ) (hrle : ∀ lbl ls st μ v μ', rec lbl ls st μ = some (v, μ') → zle μ μ')
    (hcall : ∀ j as μ v μ', zc d j as μ = some (v, μ') → zMet l d j as μ v μ')
    (hri : ∀ pc x lsv k, rv = some (.inl x) → decode cc pc = .ok (.ireturn, 1) → zretok ret k = true → (k = 0 ∨ (k = 1 ∧ (x = 0 ∨ x = 1)) ∨ (k = 2 ∧ -128 ≤ x ∧ x < 128) ∨ (k = 3 ∧ 0 ≤ x ∧ x < 65536)) → zcont D cA e0 bS nS xS A p l e R s m args below meth c Q L0 ad0 u0 v0 pc lsv [.inl x] μF)
    (hrl : ∀ pc x lsv, rv = some (.inr (.inl x)) → decode cc pc = .ok (.lreturn, 1) → ret = some .long → zcont D cA e0 bS nS xS A p l e R s m args below meth c Q L0 ad0 u0 v0 pc lsv [.inr (.inl x)] μF)
    (hrv : ∀ pc lsv, rv = none → decode cc pc = .ok (.return_, 1) → ret = none → zcont D cA e0 bS nS xS A p l e R s m args below meth c Q L0 ad0 u0 v0 pc lsv [] μF) :
    ∀ (k : List ZN) (pc : Nat) (lsv stv : List ZV) (μ : ZM), zchk cc cx nm ret pc k = true → zexec (zc d) rec k lsv stv μ = some (rv, μF) → lsv.length = nL → zcont D cA e0 bS nS xS A p l e R s m args below meth c Q L0 ad0 u0 v0 pc lsv stv μ
  | [], _, _, _, _, _, h, _ => by simp [zexec] at h
  | (i, n, pl) :: k, pc, lsv, stv, μ, hck, h, hlen => by
    have ih := z_exec F hn0 hcx how hRd hRF hrec hrle hcall hri hrl hrv k
    have hxl := zexec_le (zc_le d) hrle k
    have hx := F.1
    have hb := F.2.1
    have hfr : 1 ≤ R.frames ∧ 37 ≤ R.locals := ⟨by omega, by omega⟩
    have other : (∀ ix, i = .invokevirtual ix → False) → (∀ ix, i = .invokespecial ix ∨ i = .invokestatic ix → pl.2.2 ≠ 0) → decode cc pc = .ok (i, n) → zlenok i n = true → zck cx nm ret i pl = true → zchk cc cx nm ret (pc + n) k = true → (match zop i pl lsv stv μ with
        | some (ls', st', μ') => zexec (zc d) rec k ls' st' μ'
        | none => none) = some (rv, μF) → zcont D cA e0 bS nS xS A p l e R s m args below meth c Q L0 ad0 u0 v0 pc lsv stv μ := by
      intro h1 h2 h3 h4 h5 h6 h7
      split at h7
      · rename_i ls' st' μ' hz
        have hl := hxl ls' st' μ' rv μF h7
        exact z_op F hn0 hcx how h5 h4 h3 hz hfr hlen ⟨Nat.le_trans hl.2.1 hRF.1, Nat.le_trans hl.2.2 hRF.2⟩ h1 h2 (ih (pc + n) ls' st' μ' h6 h7 ((zop_len hz).trans hlen))
      · cases h7
    have callk : ∀ {na : Nat} {j : Nat}, (na ≤ stv.length ∧ ((stv.drop na).map zcat).sum ≤ 8) → (match zc d j ((stv.take na).reverse) μ with
        | some (none, μ') => zexec (zc d) rec k lsv (stv.drop na) μ'
        | some (some v, μ') => zexec (zc d) rec k lsv (v :: stv.drop na) μ'
        | none => none) = some (rv, μF) → zchk cc cx nm ret (pc + 3) k = true → ∃ (v : Option ZV) (μ' : ZM), zc d j ((stv.take na).reverse) μ = some (v, μ') ∧ (μ'.2.2.2.2.1 ≤ R.cells + u0 ∧ μ'.2.2.2.2.2 ≤ R.slots + v0) ∧ zcont D cA e0 bS nS xS A p l e R s m args below meth c Q L0 ad0 u0 v0 (pc + 3) lsv (v.toList ++ stv.drop na) μ' := by
      intro na j h1 h7 h6
      split at h7
      · rename_i μ' hz
        have hl := hxl _ _ μ' rv μF h7
        exact ⟨none, μ', hz, ⟨Nat.le_trans hl.2.1 hRF.1, Nat.le_trans hl.2.2 hRF.2⟩, ih _ _ _ _ h6 h7 hlen⟩
      · rename_i v μ' hz
        have hl := hxl _ _ μ' rv μF h7
        exact ⟨some v, μ', hz, ⟨Nat.le_trans hl.2.1 hRF.1, Nat.le_trans hl.2.2 hRF.2⟩, ih _ _ _ _ h6 h7 hlen⟩
      · cases h7
    cases i with
    | nop =>
      simp only [zchk, Bool.and_eq_true, decide_eq_true_eq] at hck
      simp only [zexec] at h
      rw [← hck.1]
      exact hrec _ _ _ _ h hlen
    | goto off =>
      simp only [zchk, Bool.and_eq_true, decide_eq_true_eq] at hck
      simp only [zexec] at h
      obtain ⟨⟨⟨hd, hl⟩, -⟩, ht, -⟩ := hck
      cases zlen1 (k := 3) hl rfl
      intro L ad H locs ls cells slots hext hrel hl hlv hsv hc hs
      exact lv_goto hx hb hd ht (hrec _ _ _ _ h hlen L ad H locs ls cells slots hext hrel hl hlv hsv hc hs)
    | ifCond cd off =>
      simp only [zchk, Bool.and_eq_true, decide_eq_true_eq] at hck
      obtain ⟨⟨⟨hd, hl⟩, -⟩, ht, hk⟩ := hck
      cases zlen1 (k := 3) hl rfl
      simp only [zexec] at h
      split at h
      · rename_i x st0
        cases cd with
        | eq => exact zo_br1 (P := x = 0) (G := fun x => x = 0) (fun hz => zeq32 hz zI32_0) (fun kt kf => lv_if_eq hx hb hd ht kt kf) (fun hp => hrec _ _ _ _ (by simpa [hp] using h) hlen) (fun hp => ih _ _ _ _ hk (by simpa [hp] using h) hlen)
        | ne => exact zo_br1 (P := ¬ x = 0) (G := fun x => ¬ x = 0) (fun hz => not_congr (zeq32 hz zI32_0)) (fun kt kf => lv_if_ne hx hb hd ht kt (fun hh => kf (fun z => z hh))) (fun hp => hrec _ _ _ _ (by simpa [hp] using h) hlen) (fun hp => ih _ _ _ _ hk (by simpa [Classical.not_not.mp hp] using h) hlen)
        | lt => exact zo_br1 (P := x < 0) (G := fun x => x < 0) (fun hz => zlt32 hz zI32_0) (fun kt kf => lv_if_lt hx hb hd ht kt kf) (fun hp => hrec _ _ _ _ (by simpa [hp] using h) hlen) (fun hp => ih _ _ _ _ hk (by simpa [hp] using h) hlen)
        | ge => exact zo_br1 (P := ¬ x < 0) (G := fun x => 0 ≤ x) (fun hz => zle32 zI32_0 hz) (fun kt kf => lv_if_ge hx hb hd ht kt kf) (fun hp => hrec _ _ _ _ (by simpa [hp] using h) hlen) (fun hp => ih _ _ _ _ hk (by simpa [Classical.not_not.mp hp] using h) hlen)
        | gt => exact zo_br1 (P := 0 < x) (G := fun x => 0 < x) (fun hz => zlt32 zI32_0 hz) (fun kt kf => lv_if_gt hx hb hd ht kt kf) (fun hp => hrec _ _ _ _ (by simpa [hp] using h) hlen) (fun hp => ih _ _ _ _ hk (by simpa [hp] using h) hlen)
        | le => exact zo_br1 (P := ¬ 0 < x) (G := fun x => x ≤ 0) (fun hz => zle32 hz zI32_0) (fun kt kf => lv_if_le hx hb hd ht kt kf) (fun hp => hrec _ _ _ _ (by simpa [hp] using h) hlen) (fun hp => ih _ _ _ _ hk (by simpa [Classical.not_not.mp hp] using h) hlen)
      · cases h
    | if_icmp cd off =>
      simp only [zchk, Bool.and_eq_true, decide_eq_true_eq] at hck
      obtain ⟨⟨⟨hd, hl⟩, -⟩, ht, hk⟩ := hck
      cases zlen1 (k := 3) hl rfl
      simp only [zexec] at h
      split at h
      · rename_i y x st0
        cases cd with
        | eq => exact zo_br2 (P := x = y) (G := fun x y => x = y) (fun hz hw => zeq32 hz hw) (fun kt kf => lv_icmp_eq hx hb hd ht kt kf) (fun hp => hrec _ _ _ _ (by simpa [hp] using h) hlen) (fun hp => ih _ _ _ _ hk (by simpa [hp] using h) hlen)
        | ne => exact zo_br2 (P := ¬ x = y) (G := fun x y => ¬ x = y) (fun hz hw => not_congr (zeq32 hz hw)) (fun kt kf => lv_icmp_ne hx hb hd ht kt (fun hh => kf (fun z => z hh))) (fun hp => hrec _ _ _ _ (by simpa [hp] using h) hlen) (fun hp => ih _ _ _ _ hk (by simpa [Classical.not_not.mp hp] using h) hlen)
        | lt => exact zo_br2 (P := x < y) (G := fun x y => x < y) (fun hz hw => zlt32 hz hw) (fun kt kf => lv_icmp_lt hx hb hd ht kt kf) (fun hp => hrec _ _ _ _ (by simpa [hp] using h) hlen) (fun hp => ih _ _ _ _ hk (by simpa [hp] using h) hlen)
        | ge => exact zo_br2 (P := ¬ x < y) (G := fun x y => y ≤ x) (fun hz hw => zle32 hw hz) (fun kt kf => lv_icmp_ge hx hb hd ht kt kf) (fun hp => hrec _ _ _ _ (by simpa [hp] using h) hlen) (fun hp => ih _ _ _ _ hk (by simpa [Classical.not_not.mp hp] using h) hlen)
        | gt => exact zo_br2 (P := y < x) (G := fun x y => y < x) (fun hz hw => zlt32 hw hz) (fun kt kf => lv_icmp_gt hx hb hd ht kt kf) (fun hp => hrec _ _ _ _ (by simpa [hp] using h) hlen) (fun hp => ih _ _ _ _ hk (by simpa [hp] using h) hlen)
        | le => exact zo_br2 (P := ¬ y < x) (G := fun x y => x ≤ y) (fun hz hw => zle32 hz hw) (fun kt kf => lv_icmp_le hx hb hd ht kt kf) (fun hp => hrec _ _ _ _ (by simpa [hp] using h) hlen) (fun hp => ih _ _ _ _ hk (by simpa [Classical.not_not.mp hp] using h) hlen)
      · cases h
    | tableswitch d0 lo hi offs =>
      simp only [zchk, Bool.and_eq_true, decide_eq_true_eq] at hck
      obtain ⟨⟨⟨hd, -⟩, -⟩, ⟨⟨⟨⟨hp1, -⟩, hsz⟩, hd0⟩, hall⟩⟩ := hck
      simp only [zexec] at h
      split at h
      · rename_i x st0
        intro L ad H locs ls cells slots hext hrel hl hlv hsv hc hs
        have hxI := zI32_to (zvok_head hsv)
        have kx := hrec _ _ _ _ h hlen L ad H locs ls cells slots hext hrel hl hlv (zvok_tail hsv) hc hs
        rw [hp1] at kx
        unfold zsw at kx
        by_cases hr : x < lo ∨ hi < x
        · rw [if_pos hr] at kx
          exact lv_tableOut hx hb hd (by rw [hxI]; exact hr) (tgt := ((pc : Int) + d0).toNat) (by omega) kx
        · rw [if_neg hr] at kx
          have hlt : (x - lo).toNat < offs.size := by
            have e1 : offs.toList.length = offs.size := by simp
            omega
          have e2 : offs[(x - lo).toNat]? = some offs[(x - lo).toNat] := Array.getElem?_eq_getElem hlt
          rw [e2] at kx
          have h9 : 0 ≤ (pc : Int) + offs[(x - lo).toNat] := by
            have := List.all_eq_true.mp hall offs[(x - lo).toNat] (by simp)
            simpa using this
          exact lv_tableIn hx hb hd (by rw [hxI]; omega) (by rw [hxI]; omega) (off := offs[(x - lo).toNat]) (by rw [hxI]; exact e2) (tgt := ((pc : Int) + offs[(x - lo).toNat]).toNat) (by omega) kx
      · cases h
    | lookupswitch d0 ps =>
      simp only [zchk, Bool.and_eq_true, decide_eq_true_eq] at hck
      obtain ⟨⟨⟨hd, -⟩, -⟩, ⟨⟨⟨⟨hp1, -⟩, hsrt⟩, hd0⟩, hall⟩⟩ := hck
      simp only [zexec] at h
      split at h
      · rename_i x st0
        intro L ad H locs ls cells slots hext hrel hl hlv hsv hc hs
        have hxI := zI32_to (zvok_head hsv)
        have kx := hrec _ _ _ _ h hlen L ad H locs ls cells slots hext hrel hl hlv (zvok_tail hsv) hc hs
        rw [hp1, zlsw_eq] at kx
        have h9 := zlsw_nn pc d0 x hd0 ps.toList (fun o ho => by
          have := List.all_eq_true.mp hall o ho
          simpa using this)
        exact lv_lookup hx hb hd hsrt (off := Op.lookupswitch.offset ps.toList d0 x) (by rw [hxI]) (tgt := ((pc : Int) + Op.lookupswitch.offset ps.toList d0 x).toNat) (by omega) kx
      · cases h
    | ireturn =>
      simp only [zchk, Bool.and_eq_true, decide_eq_true_eq] at hck
      obtain ⟨⟨⟨hd, hl⟩, hr⟩, -⟩ := hck
      cases zlen1 (k := 1) hl rfl
      simp only [zexec] at h
      split at h
      · split at h
        · rename_i x hx1
          cases h
          exact hri pc x lsv pl.1 rfl hd hr hx1
        · cases h
      · cases h
    | lreturn =>
      simp only [zchk, Bool.and_eq_true, decide_eq_true_eq] at hck
      obtain ⟨⟨⟨hd, hl⟩, hr⟩, -⟩ := hck
      cases zlen1 (k := 1) hl rfl
      simp only [zck, decide_eq_true_eq] at hr
      simp only [zexec] at h
      split at h
      · rename_i x
        cases h
        exact hrl pc x lsv rfl hd hr
      · cases h
    | return_ =>
      simp only [zchk, Bool.and_eq_true, decide_eq_true_eq] at hck
      obtain ⟨⟨⟨hd, hl⟩, hr⟩, -⟩ := hck
      cases zlen1 (k := 1) hl rfl
      simp only [zck, decide_eq_true_eq] at hr
      simp only [zexec] at h
      split at h
      · cases h
        exact hrv pc lsv rfl hd hr
      · cases h
    | invokestatic ix =>
      simp only [zchk, Bool.and_eq_true, decide_eq_true_eq] at hck
      obtain ⟨⟨⟨hd, hl⟩, hr⟩, hk⟩ := hck
      cases zlen1 (k := 3) hl rfl
      obtain ⟨p1, p2, p3⟩ := pl
      simp only [zexec] at h
      split at h
      · split at h
        · rename_i h1
          simp only [zck, Bool.and_eq_true, beq_iff_eq, decide_eq_true_eq] at hr
          obtain ⟨⟨⟨hr1, hr2⟩, hr3⟩, hr4⟩ := hr
          obtain ⟨q, hq⟩ := zhas_ok hcx hr1
          simp only [zpok] at hq
          obtain ⟨v, μ', hz, hR, kk⟩ := callk h1 h hk
          subst hr3
          exact zo_calls F hn0 hr4 (hcall _ _ _ _ _ hz) (zc_le d _ _ _ _ _ hz) hRd (by rw [how]; exact zat_in hq) hr2 (by rw [List.length_reverse, List.length_take]; omega) hd hlen h1.1 rfl h1.2 hR kk
        · cases h
      · rename_i hne
        exact other (fun ix z => by cases z) (fun _ _ => hne) hd hl hr hk h
    | invokevirtual ix =>
      simp only [zchk, Bool.and_eq_true, decide_eq_true_eq] at hck
      obtain ⟨⟨⟨hd, hl⟩, hr⟩, hk⟩ := hck
      cases zlen1 (k := 3) hl rfl
      obtain ⟨p1, p2, p3⟩ := pl
      simp only [zexec] at h
      split at h
      · split at h
        · rename_i h1
          simp only [zck, Bool.and_eq_true, beq_iff_eq, decide_eq_true_eq] at hr
          obtain ⟨⟨⟨hr1, hr2⟩, hr3⟩, hr4⟩ := hr
          obtain ⟨q, hq⟩ := zhas_ok hcx hr1
          simp only [zpok] at hq
          obtain ⟨v, μ', hz, hR, kk⟩ := callk h1 h hk
          subst hr3
          have hrc := (zc_call_ok hz).1
          obtain ⟨f1, f2, f3, f4, f5, f6, f7, f8, f9, f10, f11, f12⟩ := zmi_facts hr4
          cases has : (stv.take (znar (zmi p1) + 1)).reverse with
          | nil =>
            have := congrArg List.length has
            rw [List.length_reverse, List.length_take, List.length_nil] at this
            omega
          | cons v0' at0 =>
            rw [has] at hrc
            have hl9 : at0.length = znar (zmi p1) := by
              have := congrArg List.length has
              rw [List.length_reverse, List.length_take, List.length_cons] at this
              omega
            have hge : 1 ≤ zrcv (zmi p1) := by
              rcases f10 (by omega) with z | z <;> omega
            obtain ⟨w, hw⟩ : ∃ w, zrcv (zmi p1) = w + 1 := ⟨zrcv (zmi p1) - 1, by omega⟩
            rw [hw] at hrc
            rcases v0' with x9 | x9 | ⟨t, r, o⟩
            · simp [zrcvok] at hrc
            · simp [zrcvok] at hrc
            · simp only [zrcvok] at hrc
              split at hrc
              · split at hrc
                · rename_i k9 n9 hκ
                  simp only [Bool.and_eq_true, beq_iff_eq, decide_eq_true_eq] at hrc
                  exact zo_callv F hn0 hr4 (hcall _ _ _ _ _ hz) (zc_le d _ _ _ _ _ hz) hRd (by rw [how]; exact zat_in hq) hr2 has (Or.inl ⟨rfl, n9, by rw [hκ, hrc.1, hw]⟩) (Or.inl ⟨rfl, by omega⟩) hl9 hd hlen h1.1 rfl h1.2 hR kk
                · cases hrc
              · simp only [Bool.and_eq_true, beq_iff_eq, decide_eq_true_eq] at hrc
                exact zo_callv F hn0 hr4 (hcall _ _ _ _ _ hz) (zc_le d _ _ _ _ _ hz) hRd (by rw [how]; exact zat_in hq) hr2 has (Or.inr ⟨rfl, hrc.2⟩) (Or.inr ⟨rfl, by omega⟩) hl9 hd hlen h1.1 rfl h1.2 hR kk
              · cases hrc
        · cases h
      · rename_i hne
        simp only [zck] at hr
        cases hr
    | invokespecial ix =>
      simp only [zchk, Bool.and_eq_true, decide_eq_true_eq] at hck
      obtain ⟨⟨⟨hd, hl⟩, hr⟩, hk⟩ := hck
      cases zlen1 (k := 3) hl rfl
      obtain ⟨p1, p2, p3⟩ := pl
      simp only [zexec] at h
      split at h
      · split at h
        · rename_i h1
          simp only [zck, Bool.and_eq_true, beq_iff_eq, decide_eq_true_eq, Bool.or_eq_true] at hr
          obtain ⟨⟨⟨hr1, hr2⟩, hr3⟩, hr4⟩ := hr
          have hlk0 : Cond.methodLink own ix (zmi p1).1 ∈ zgood ∨ Cond.methodLinkNest own ix (zmi p1).1 RX11 ∈ znest := by
            rcases hr1 with hr1 | hr1
            · obtain ⟨q, hq⟩ := zhas_ok hcx hr1
              simp only [zpok] at hq
              exact Or.inl (by rw [how]; exact zat_in hq)
            · obtain ⟨q, hq⟩ := zhas_ok hcx hr1
              simp only [zpok, decide_eq_true_eq] at hq
              exact Or.inr (by rw [how]; exact hq)
          obtain ⟨v, μ', hz, hR, kk⟩ := callk h1 h hk
          subst hr3
          have hrc := (zc_call_ok hz).1
          obtain ⟨f1, f2, f3, f4, f5, f6, f7, f8, f9, f10, f11, f12⟩ := zmi_facts hr4
          cases has : (stv.take (znar (zmi p1) + 1)).reverse with
          | nil =>
            have := congrArg List.length has
            rw [List.length_reverse, List.length_take, List.length_nil] at this
            omega
          | cons v0' at0 =>
            rw [has] at hrc
            have hl9 : at0.length = znar (zmi p1) := by
              have := congrArg List.length has
              rw [List.length_reverse, List.length_take, List.length_cons] at this
              omega
            have hge : 1 ≤ zrcv (zmi p1) ∧ zrcv (zmi p1) ≤ 13 := by
              rcases f10 (by omega) with z | z <;> omega
            obtain ⟨w, hw⟩ : ∃ w, zrcv (zmi p1) = w + 1 := ⟨zrcv (zmi p1) - 1, by omega⟩
            rw [hw] at hrc
            rcases v0' with x9 | x9 | ⟨t, r, o⟩
            · simp [zrcvok] at hrc
            · simp [zrcvok] at hrc
            · simp only [zrcvok] at hrc
              split at hrc
              · exact zo_calli F hn0 hr4 (hcall _ _ _ _ _ hz) (zc_le d _ _ _ _ _ hz) hRd hlk0 hr2 has hl9 hd hlen h1.1 rfl h1.2 hR kk
              · simp only [Bool.and_eq_true, beq_iff_eq, decide_eq_true_eq] at hrc
                omega
              · cases hrc
        · cases h
      · rename_i hne
        exact other (fun ix z => by cases z) (fun _ _ => hne) hd hl hr hk h
    | _ =>
      simp only [zchk, Bool.and_eq_true, decide_eq_true_eq] at hck
      obtain ⟨⟨⟨hd, hl⟩, hr⟩, hk⟩ := hck
      simp only [zexec] at h
      exact other (fun ix z => by cases z) (fun ix z => by rcases z with z | z <;> cases z) hd hl hr hk h
end ZX1
