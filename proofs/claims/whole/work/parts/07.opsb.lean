/-! one instruction of the machine of numbers is one of the JVM's: those without the heap -/
section ZO
variable {D : va_G} {cA : Nat → ClassId} {e0 : Nat → Nat → Option Nat} {bS nS : Nat} {xS : Nat → Int} {A : Nat → Prop} {p : Program} {l : Launch} {e : Env} {R : Room} {s : State} {m : MethodId} {args : Array Value} {below : List Frame} {meth : Method} {c : Code} {Q : State → Prop} {L0 : List (Nat × Nat)} {ad0 : Nat → Nat → Nat} {u0 v0 : Nat}
variable {own nm : String} {cc : ByteArray} {nL pc : Nat} {lsv stv lsv' stv' : List ZV} {μ μ' : ZM}
/-- a computed int -/
theorem zcv_int (ad : Nat → Nat → Nat) (x : Int32) : zcv e0 ad (.inl x.toInt) = .int x := by unfold zcv; simp
theorem zcv_long (ad : Nat → Nat → Nat) (x : Int64) : zcv e0 ad (.inr (.inl x.toInt)) = .long x := by unfold zcv; simp
theorem zvok_cons {κ : ZK} {v : ZV} {t : List ZV} (hv : zvok κ v) (ht : ∀ w ∈ t, zvok κ w) : ∀ w ∈ v :: t, zvok κ w := fun w hw => by
  rcases List.mem_cons.mp hw with h | h
  · rw [h]; exact hv
  · exact ht w h
theorem zvok_head {κ : ZK} {v : ZV} {t : List ZV} (h : ∀ w ∈ v :: t, zvok κ w) : zvok κ v := h v List.mem_cons_self
theorem zvok_tail {κ : ZK} {v : ZV} {t : List ZV} (h : ∀ w ∈ v :: t, zvok κ w) : ∀ w ∈ t, zvok κ w := fun w hw => h w (List.mem_cons_of_mem _ hw)
theorem zo_bin {g : Int → Int → Int} {G : Int32 → Int32 → Int32} (hg : ∀ x y, g x y = (G (Int32.ofInt x) (Int32.ofInt y)).toInt) (h : zbin stv lsv μ g = some (lsv', stv', μ'))
    (row : ∀ {H : Heap} {locs : List Loc} {cells slots : Nat} {ls : Array Slot} {rest : List Value} {x y : Int32}, W p l e R s m args below meth c H locs cells slots Q (F0 m (pc + 1) ls (.int (G x y) :: rest)) → W p l e R s m args below meth c H locs cells slots Q (F0 m pc ls (.int y :: .int x :: rest)))
    (kk : zcont D cA e0 bS nS xS A p l e R s m args below meth c Q L0 ad0 u0 v0 (pc + 1) lsv' stv' μ') : zcont D cA e0 bS nS xS A p l e R s m args below meth c Q L0 ad0 u0 v0 pc lsv stv μ := by
  unfold zbin at h
  split at h
  · cases h
    intro L ad H locs ls cells slots hext hrel hl hlv hsv hc hs
    have k := kk L ad H locs ls cells slots hext hrel hl hlv (zvok_cons (by show zI32 _; rw [hg]; exact zI32_of _) (zvok_tail (zvok_tail hsv))) hc hs
    rw [List.map_cons, hg, zcv_int] at k
    exact row k
  · cases h
theorem zo_bind {g : Int → Int → Int} {G : Int32 → Int32 → Int32} (hg : ∀ x y, g x y = (G (Int32.ofInt x) (Int32.ofInt y)).toInt) (h : zbind stv lsv μ g = some (lsv', stv', μ'))
    (row : ∀ {H : Heap} {locs : List Loc} {cells slots : Nat} {ls : Array Slot} {rest : List Value} {x y : Int32}, ¬ y = 0 → W p l e R s m args below meth c H locs cells slots Q (F0 m (pc + 1) ls (.int (G x y) :: rest)) → W p l e R s m args below meth c H locs cells slots Q (F0 m pc ls (.int y :: .int x :: rest)))
    (kk : zcont D cA e0 bS nS xS A p l e R s m args below meth c Q L0 ad0 u0 v0 (pc + 1) lsv' stv' μ') : zcont D cA e0 bS nS xS A p l e R s m args below meth c Q L0 ad0 u0 v0 pc lsv stv μ := by
  unfold zbind at h
  split at h
  · split at h
    · cases h
    · rename_i y x st0 hy
      cases h
      intro L ad H locs ls cells slots hext hrel hl hlv hsv hc hs
      have k := kk L ad H locs ls cells slots hext hrel hl hlv (zvok_cons (by show zI32 _; rw [hg]; exact zI32_of _) (zvok_tail (zvok_tail hsv))) hc hs
      rw [List.map_cons, hg, zcv_int] at k
      exact row (fun q => hy ((zeq32 (zvok_head hsv) zI32_0).mp q)) k
  · cases h
theorem zo_un {g : Int → Int} {G : Int32 → Int32} (hg : ∀ x, g x = (G (Int32.ofInt x)).toInt) (h : zun stv lsv μ g = some (lsv', stv', μ'))
    (row : ∀ {H : Heap} {locs : List Loc} {cells slots : Nat} {ls : Array Slot} {rest : List Value} {x : Int32}, W p l e R s m args below meth c H locs cells slots Q (F0 m (pc + 1) ls (.int (G x) :: rest)) → W p l e R s m args below meth c H locs cells slots Q (F0 m pc ls (.int x :: rest)))
    (kk : zcont D cA e0 bS nS xS A p l e R s m args below meth c Q L0 ad0 u0 v0 (pc + 1) lsv' stv' μ') : zcont D cA e0 bS nS xS A p l e R s m args below meth c Q L0 ad0 u0 v0 pc lsv stv μ := by
  unfold zun at h
  split at h
  · cases h
    intro L ad H locs ls cells slots hext hrel hl hlv hsv hc hs
    have k := kk L ad H locs ls cells slots hext hrel hl hlv (zvok_cons (by show zI32 _; rw [hg]; exact zI32_of _) (zvok_tail hsv)) hc hs
    rw [List.map_cons, hg, zcv_int] at k
    exact row k
  · cases h
theorem zo_lbin {g : Int → Int → Int} {G : Int64 → Int64 → Int64} (hg : ∀ x y, g x y = (G (Int64.ofInt x) (Int64.ofInt y)).toInt) (h : zlbin stv lsv μ g = some (lsv', stv', μ'))
    (row : ∀ {H : Heap} {locs : List Loc} {cells slots : Nat} {ls : Array Slot} {rest : List Value} {x y : Int64}, W p l e R s m args below meth c H locs cells slots Q (F0 m (pc + 1) ls (.long (G x y) :: rest)) → W p l e R s m args below meth c H locs cells slots Q (F0 m pc ls (.long y :: .long x :: rest)))
    (kk : zcont D cA e0 bS nS xS A p l e R s m args below meth c Q L0 ad0 u0 v0 (pc + 1) lsv' stv' μ') : zcont D cA e0 bS nS xS A p l e R s m args below meth c Q L0 ad0 u0 v0 pc lsv stv μ := by
  unfold zlbin at h
  split at h
  · cases h
    intro L ad H locs ls cells slots hext hrel hl hlv hsv hc hs
    have k := kk L ad H locs ls cells slots hext hrel hl hlv (zvok_cons (by show zI64 _; rw [hg]; exact zI64_of _) (zvok_tail (zvok_tail hsv))) hc hs
    rw [List.map_cons, hg, zcv_long] at k
    exact row k
  · cases h
theorem zo_lsh {g : Int → Int → Int} {G : Int64 → Int32 → Int64} (hg : ∀ x y, g x y = (G (Int64.ofInt x) (Int32.ofInt y)).toInt) (h : zlsh stv lsv μ g = some (lsv', stv', μ'))
    (row : ∀ {H : Heap} {locs : List Loc} {cells slots : Nat} {ls : Array Slot} {rest : List Value} {x : Int64} {y : Int32}, W p l e R s m args below meth c H locs cells slots Q (F0 m (pc + 1) ls (.long (G x y) :: rest)) → W p l e R s m args below meth c H locs cells slots Q (F0 m pc ls (.int y :: .long x :: rest)))
    (kk : zcont D cA e0 bS nS xS A p l e R s m args below meth c Q L0 ad0 u0 v0 (pc + 1) lsv' stv' μ') : zcont D cA e0 bS nS xS A p l e R s m args below meth c Q L0 ad0 u0 v0 pc lsv stv μ := by
  unfold zlsh at h
  split at h
  · cases h
    intro L ad H locs ls cells slots hext hrel hl hlv hsv hc hs
    have k := kk L ad H locs ls cells slots hext hrel hl hlv (zvok_cons (by show zI64 _; rw [hg]; exact zI64_of _) (zvok_tail (zvok_tail hsv))) hc hs
    rw [List.map_cons, hg, zcv_long] at k
    exact row k
  · cases h
/-- a constant int -/
theorem zo_ic {n : Int} {len : Nat} {v : Int32} (hn : zI32 n) (hv : Int32.ofInt n = v)
    (row : ∀ {H : Heap} {locs : List Loc} {cells slots : Nat} {ls : Array Slot} {rest : List Value}, W p l e R s m args below meth c H locs cells slots Q (F0 m (pc + len) ls (.int v :: rest)) → W p l e R s m args below meth c H locs cells slots Q (F0 m pc ls rest))
    (kk : zcont D cA e0 bS nS xS A p l e R s m args below meth c Q L0 ad0 u0 v0 (pc + len) lsv (.inl n :: stv) μ) : zcont D cA e0 bS nS xS A p l e R s m args below meth c Q L0 ad0 u0 v0 pc lsv stv μ := by
  intro L ad H locs ls cells slots hext hrel hl hlv hsv hc hs
  have k := kk L ad H locs ls cells slots hext hrel hl hlv (zvok_cons hn hsv) hc hs
  have e1 : zcv e0 ad (.inl n) = .int v := by show Value.int (Int32.ofInt n) = _; rw [hv]
  rw [List.map_cons, e1] at k
  exact row k
theorem zo_lc {n : Int} {len : Nat} {v : Int64} (hn : zI64 n) (hv : Int64.ofInt n = v)
    (row : ∀ {H : Heap} {locs : List Loc} {cells slots : Nat} {ls : Array Slot} {rest : List Value}, W p l e R s m args below meth c H locs cells slots Q (F0 m (pc + len) ls (.long v :: rest)) → W p l e R s m args below meth c H locs cells slots Q (F0 m pc ls rest))
    (kk : zcont D cA e0 bS nS xS A p l e R s m args below meth c Q L0 ad0 u0 v0 (pc + len) lsv (.inr (.inl n) :: stv) μ) : zcont D cA e0 bS nS xS A p l e R s m args below meth c Q L0 ad0 u0 v0 pc lsv stv μ := by
  intro L ad H locs ls cells slots hext hrel hl hlv hsv hc hs
  have k := kk L ad H locs ls cells slots hext hrel hl hlv (zvok_cons hn hsv) hc hs
  have e1 : zcv e0 ad (.inr (.inl n)) = .long v := by show Value.long (Int64.ofInt n) = _; rw [hv]
  rw [List.map_cons, e1] at k
  exact row k
theorem zo_ldI {i len : Nat} (h : zldI i lsv stv μ = some (lsv', stv', μ'))
    (row : ∀ {H : Heap} {locs : List Loc} {cells slots : Nat} {ls : Array Slot} {rest : List Value} {x : Int32}, ls[i]? = some (.val (.int x)) → W p l e R s m args below meth c H locs cells slots Q (F0 m (pc + len) ls (.int x :: rest)) → W p l e R s m args below meth c H locs cells slots Q (F0 m pc ls rest))
    (kk : zcont D cA e0 bS nS xS A p l e R s m args below meth c Q L0 ad0 u0 v0 (pc + len) lsv' stv' μ') : zcont D cA e0 bS nS xS A p l e R s m args below meth c Q L0 ad0 u0 v0 pc lsv stv μ := by
  unfold zldI at h
  split at h
  · rename_i x hx
    cases h
    intro L ad H locs ls cells slots hext hrel hl hlv hsv hc hs
    exact row (x := Int32.ofInt x) (zlv_get hl hx (fun q => by cases q)) (kk L ad H locs ls cells slots hext hrel hl hlv (zvok_cons (hlv _ (List.mem_of_getElem? hx)) hsv) hc hs)
  · cases h
theorem zo_ldL {i len : Nat} (h : zldL i lsv stv μ = some (lsv', stv', μ'))
    (row : ∀ {H : Heap} {locs : List Loc} {cells slots : Nat} {ls : Array Slot} {rest : List Value} {x : Int64}, ls[i]? = some (.val (.long x)) → W p l e R s m args below meth c H locs cells slots Q (F0 m (pc + len) ls (.long x :: rest)) → W p l e R s m args below meth c H locs cells slots Q (F0 m pc ls rest))
    (kk : zcont D cA e0 bS nS xS A p l e R s m args below meth c Q L0 ad0 u0 v0 (pc + len) lsv' stv' μ') : zcont D cA e0 bS nS xS A p l e R s m args below meth c Q L0 ad0 u0 v0 pc lsv stv μ := by
  unfold zldL at h
  split at h
  · rename_i x hx
    cases h
    intro L ad H locs ls cells slots hext hrel hl hlv hsv hc hs
    exact row (x := Int64.ofInt x) (zlv_get hl hx (fun q => by cases q)) (kk L ad H locs ls cells slots hext hrel hl hlv (zvok_cons (hlv _ (List.mem_of_getElem? hx)) hsv) hc hs)
  · cases h
/-- what a reference that isn't null is -/
theorem zcv_ref (hz : ∀ k, k < 10 → ∃ q q', e0 4 k = some q ∧ e0 5 k = some q') (ad : Nat → Nat → Nat) {t r o : Nat} (ht : t = 1 ∨ t = 4 ∨ t = 5) (hr : t = 1 ∨ r < 10) : ∃ q : Nat, zcv e0 ad (.inr (.inr (t, r, o))) = .ref q := by
  unfold zcv
  rcases ht with h | h | h
  · exact ⟨ad r o, by simp [h]⟩
  · rcases hr with h1 | h1
    · omega
    · obtain ⟨q, q', a, b⟩ := hz r h1
      exact ⟨q, by simp [h, a, va_rf]⟩
  · rcases hr with h1 | h1
    · omega
    · obtain ⟨q, q', a, b⟩ := hz r h1
      exact ⟨q', by simp [h, b, va_rf]⟩
theorem zo_ldA {i len : Nat} (hz : ∀ k, k < 10 → ∃ q q', e0 4 k = some q ∧ e0 5 k = some q') (h : zldA i lsv stv μ = some (lsv', stv', μ'))
    (row : ∀ {H : Heap} {locs : List Loc} {cells slots : Nat} {ls : Array Slot} {rest : List Value} {x : Nat}, ls[i]? = some (.val (.ref x)) → W p l e R s m args below meth c H locs cells slots Q (F0 m (pc + len) ls (.ref x :: rest)) → W p l e R s m args below meth c H locs cells slots Q (F0 m pc ls rest))
    (kk : zcont D cA e0 bS nS xS A p l e R s m args below meth c Q L0 ad0 u0 v0 (pc + len) lsv' stv' μ') : zcont D cA e0 bS nS xS A p l e R s m args below meth c Q L0 ad0 u0 v0 pc lsv stv μ := by
  unfold zldA at h
  split at h
  · rename_i t r o hx
    split at h
    · rename_i ht
      cases h
      intro L ad H locs ls cells slots hext hrel hl hlv hsv hc hs
      obtain ⟨q, hq⟩ := zcv_ref hz ad (t := t) (r := r) (o := o) (by omega) (by omega)
      have h1 := zlv_get hl hx (fun q => by have := congrArg (fun z : ZV => match z with | .inr (.inr (t, _, _)) => t | _ => 0) q; simp at this; omega)
      rw [hq] at h1
      have k := kk L ad H locs ls cells slots hext hrel hl hlv (zvok_cons (hlv _ (List.mem_of_getElem? hx)) hsv) hc hs
      rw [List.map_cons, hq] at k
      exact row h1 k
    · cases h
  · cases h
theorem zo_stI {i len : Nat} (h : zstI i lsv stv μ = some (lsv', stv', μ'))
    (row : ∀ {H : Heap} {locs : List Loc} {cells slots : Nat} {ls : Array Slot} {rest : List Value} {x : Int32} {nn : Nat} {lv : List (Nat × Value)}, lv_has ls nn lv → i < nn → (∀ ls' : Array Slot, lv_has ls' nn ((i, Value.int x) :: lv.filter (fun q => !(q.1 == i) && !(q.1 + 1 == i && q.2.category == 2))) → W p l e R s m args below meth c H locs cells slots Q (F0 m (pc + len) ls' rest)) → W p l e R s m args below meth c H locs cells slots Q (F0 m pc ls (.int x :: rest)))
    (kk : zcont D cA e0 bS nS xS A p l e R s m args below meth c Q L0 ad0 u0 v0 (pc + len) lsv' stv' μ') : zcont D cA e0 bS nS xS A p l e R s m args below meth c Q L0 ad0 u0 v0 pc lsv stv μ := by
  unfold zstI at h
  split at h
  · split at h
    · rename_i x st0 hi
      cases h
      intro L ad H locs ls cells slots hext hrel hl hlv hsv hc hs
      exact row hl hi fun ls' hl' => kk L ad H locs ls' cells slots hext hrel (zlv_st1 (v := .inl x) hl') (zst1_ok hlv (zvok_head hsv)) (zvok_tail hsv) hc hs
    · cases h
  · cases h
theorem zo_stL {i len : Nat} (h : zstL i lsv stv μ = some (lsv', stv', μ'))
    (row : ∀ {H : Heap} {locs : List Loc} {cells slots : Nat} {ls : Array Slot} {rest : List Value} {x : Int64} {nn : Nat} {lv : List (Nat × Value)}, lv_has ls nn lv → i + 1 < nn → (∀ ls' : Array Slot, lv_has ls' nn ((i, Value.long x) :: lv.filter (fun q => !(q.1 == i) && (!(q.1 == i + 1) && !(q.1 + 1 == i && q.2.category == 2)))) → W p l e R s m args below meth c H locs cells slots Q (F0 m (pc + len) ls' rest)) → W p l e R s m args below meth c H locs cells slots Q (F0 m pc ls (.long x :: rest)))
    (kk : zcont D cA e0 bS nS xS A p l e R s m args below meth c Q L0 ad0 u0 v0 (pc + len) lsv' stv' μ') : zcont D cA e0 bS nS xS A p l e R s m args below meth c Q L0 ad0 u0 v0 pc lsv stv μ := by
  unfold zstL at h
  split at h
  · split at h
    · rename_i x st0 hi
      cases h
      intro L ad H locs ls cells slots hext hrel hl hlv hsv hc hs
      exact row hl hi fun ls' hl' => kk L ad H locs ls' cells slots hext hrel (zlv_st2 (v := .inr (.inl x)) hi hl') (zst2_ok hlv (zvok_head hsv)) (zvok_tail hsv) hc hs
    · cases h
  · cases h
theorem zo_stA {i len : Nat} (h : zstA i lsv stv μ = some (lsv', stv', μ'))
    (row : ∀ {H : Heap} {locs : List Loc} {cells slots : Nat} {ls : Array Slot} {rest : List Value} {x : Nat} {nn : Nat} {lv : List (Nat × Value)}, lv_has ls nn lv → i < nn → (∀ ls' : Array Slot, lv_has ls' nn ((i, Value.ref x) :: lv.filter (fun q => !(q.1 == i) && !(q.1 + 1 == i && q.2.category == 2))) → W p l e R s m args below meth c H locs cells slots Q (F0 m (pc + len) ls' rest)) → W p l e R s m args below meth c H locs cells slots Q (F0 m pc ls (.ref x :: rest)))
    (kk : zcont D cA e0 bS nS xS A p l e R s m args below meth c Q L0 ad0 u0 v0 (pc + len) lsv' stv' μ') : zcont D cA e0 bS nS xS A p l e R s m args below meth c Q L0 ad0 u0 v0 pc lsv stv μ := by
  unfold zstA at h
  split at h
  · split at h
    · rename_i t r o st0 hi
      obtain ⟨hi, rfl⟩ := hi
      cases h
      intro L ad H locs ls cells slots hext hrel hl hlv hsv hc hs
      have e1 : zcv e0 ad (.inr (.inr (1, r, o))) = .ref (ad r o) := rfl
      rw [List.map_cons, e1]
      exact row hl hi fun ls' hl' => kk L ad H locs ls' cells slots hext hrel (zlv_st1 (v := .inr (.inr (1, r, o))) hl') (zst1_ok hlv (zvok_head hsv)) (zvok_tail hsv) hc hs
    · cases h
  · cases h
end ZO
