/-! ops without the heap: numbers, locals, the stack -/
theorem zI32_of (x : Int32) : zI32 x.toInt := by
  have h1 := Int32.le_toInt x
  have h2 := Int32.toInt_lt x
  unfold zI32
  omega
theorem zI64_of (x : Int64) : zI64 x.toInt := by
  have h1 := Int64.le_toInt x
  have h2 := Int64.toInt_lt x
  unfold zI64
  omega
theorem zI32_to {n : Int} (h : zI32 n) : (Int32.ofInt n).toInt = n := Int32.toInt_ofInt_of_le (by unfold zI32 at h; omega) (by unfold zI32 at h; omega)
theorem zI64_to {n : Int} (h : zI64 n) : (Int64.ofInt n).toInt = n := Int64.toInt_ofInt_of_le (by unfold zI64 at h; omega) (by unfold zI64 at h; omega)
theorem zlt32 {x y : Int} (hx : zI32 x) (hy : zI32 y) : (Int32.ofInt x < Int32.ofInt y) ↔ x < y := by rw [Int32.lt_iff_toInt_lt, zI32_to hx, zI32_to hy]
theorem zeq32 {x y : Int} (hx : zI32 x) (hy : zI32 y) : (Int32.ofInt x = Int32.ofInt y) ↔ x = y := by rw [← Int32.toInt_inj, zI32_to hx, zI32_to hy]
theorem zI32_0 : zI32 0 := by unfold zI32; omega
theorem zin {i : Int} {n : Nat} (hi : zI32 i) (h0 : 0 ≤ i) (h1 : i < (n : Int)) : vp_in (Int32.ofInt i) n ∧ (Int32.ofInt i).toNatClampNeg = i.toNat := by
  have e : (Int32.ofInt i).toNatClampNeg = i.toNat := by
    show ((Int32.ofInt i).toInt).toNat = i.toNat
    rw [zI32_to hi]
  refine ⟨?_, e⟩
  unfold vp_in
  rw [e]
  intro h
  rcases h with h | h
  · have := (zlt32 hi zI32_0).mp h
    omega
  · omega
theorem zcv_cat {e0 : Nat → Nat → Option Nat} {ad : Nat → Nat → Nat} (v : ZV) : (zcv e0 ad v).category = zcat v := by
  rcases v with n | n | ⟨t, r, o⟩
  · rfl
  · rfl
  · unfold zcv zcat
    by_cases h : t = 1
    · simp [h, Value.category]
    · simp only [h, if_false]
      cases e0 t r <;> simp [va_rf, Value.category]
theorem zcat1 {v : ZV} (h : ¬ zislong v = true) : zcat v = 1 := by
  rcases v with n | n | ⟨t, r, o⟩
  · rfl
  · exact absurd rfl h
  · rfl
def zpairs (e0 : Nat → Nat → Option Nat) (ad : Nat → Nat → Nat) : Nat → List ZV → List (Nat × Value)
  | _, [] => []
  | i, v :: t => if v = zu then zpairs e0 ad (i + 1) t else (i, zcv e0 ad v) :: zpairs e0 ad (i + 1) t
theorem zpairs_mem {e0 : Nat → Nat → Option Nat} {ad : Nat → Nat → Nat} {q : Nat × Value} : ∀ (l : List ZV) (i : Nat), q ∈ zpairs e0 ad i l ↔ ∃ (k : Nat) (v : ZV), q.1 = i + k ∧ l[k]? = some v ∧ v ≠ zu ∧ q.2 = zcv e0 ad v
  | [], i => by simp [zpairs]
  | w :: t, i => by
    have ih := zpairs_mem (e0 := e0) (ad := ad) (q := q) t (i + 1)
    unfold zpairs
    constructor
    · intro h
      by_cases hw : w = zu
      · rw [if_pos hw] at h
        obtain ⟨k, v, h1, h2, h3, h4⟩ := ih.mp h
        exact ⟨k + 1, v, by omega, by simpa using h2, h3, h4⟩
      · rw [if_neg hw] at h
        rcases List.mem_cons.mp h with h | h
        · exact ⟨0, w, by rw [h]; rfl, rfl, hw, by rw [h]⟩
        · obtain ⟨k, v, h1, h2, h3, h4⟩ := ih.mp h
          exact ⟨k + 1, v, by omega, by simpa using h2, h3, h4⟩
    · intro ⟨k, v, h1, h2, h3, h4⟩
      cases k with
      | zero =>
        have e : w = v := by simpa using h2
        subst e
        rw [if_neg h3]
        exact List.mem_cons.mpr (Or.inl (Prod.ext (by simpa using h1) h4))
      | succ k =>
        have hm := ih.mpr ⟨k, v, by omega, by simpa using h2, h3, h4⟩
        by_cases hw : w = zu
        · rw [if_pos hw]; exact hm
        · rw [if_neg hw]; exact List.mem_cons_of_mem _ hm
theorem zlv_sub {ls : Array Slot} {n : Nat} {l l' : List (Nat × Value)} (h : lv_has ls n l) (hs : ∀ q ∈ l', q ∈ l) : lv_has ls n l' := ⟨h.1, h.2.1, fun q hq => h.2.2 q (hs q hq)⟩
theorem zlv_get {e0 : Nat → Nat → Option Nat} {ad : Nat → Nat → Nat} {ls : Array Slot} {l : List ZV} {i : Nat} {v : ZV} (h : lv_has ls l.length (zpairs e0 ad 0 l)) (hi : l[i]? = some v) (hv : v ≠ zu) : ls[i]? = some (.val (zcv e0 ad v)) :=
  h.2.2 (i, zcv e0 ad v) ((zpairs_mem l 0).mpr ⟨i, v, by simp, hi, hv, rfl⟩)
theorem zst1_len : ∀ (l : List ZV) (i : Nat) (v : ZV), (zst1 l i v).length = l.length
  | [], _, _ => rfl
  | _ :: _, 0, _ => rfl
  | _ :: t, i + 1, v => by simp [zst1, zst1_len t i v]
theorem zst1_get : ∀ (l : List ZV) (i : Nat) (v : ZV) (k : Nat) (w : ZV), (zst1 l i v)[k]? = some w → w ≠ zu → (k = i ∧ w = v) ∨ (k ≠ i ∧ l[k]? = some w ∧ ¬ (k + 1 = i ∧ zislong w = true))
  | [], _, _, _, _, h, _ => by simp [zst1] at h
  | a :: t, 0, v, k, w, h, _ => by
    cases k with
    | zero => left; simpa [zst1] using h.symm
    | succ k => right; exact ⟨by omega, by simpa [zst1] using h, by omega⟩
  | a :: t, i + 1, v, k, w, h, hw => by
    cases k with
    | zero =>
      right
      simp only [zst1, List.getElem?_cons_zero, Option.some.injEq] at h
      cases hb : (i == 0 && zislong a) with
      | true => rw [hb] at h; exact absurd h.symm hw
      | false =>
        rw [hb] at h
        have e : a = w := h
        subst e
        refine ⟨by omega, rfl, fun q => ?_⟩
        have h0 : i = 0 := by omega
        rw [h0, q.2] at hb
        cases hb
    | succ k =>
      have h2 : (zst1 t i v)[k]? = some w := by simpa [zst1] using h
      rcases zst1_get t i v k w h2 hw with ⟨h3, h4⟩ | ⟨h3, h4, h5⟩
      · exact Or.inl ⟨by omega, h4⟩
      · exact Or.inr ⟨by omega, by simpa using h4, fun q => h5 ⟨by omega, q.2⟩⟩
theorem zst2_len : ∀ (l : List ZV) (i : Nat) (v : ZV), i + 1 < l.length → (zst2 l i v).length = l.length
  | [], _, _, h => by simp at h
  | _ :: [], 0, _, h => by simp at h
  | _ :: _ :: _, 0, _, _ => rfl
  | _ :: t, i + 1, v, h => by
    have h1 : i + 1 < t.length := by simpa using h
    simp [zst2, zst2_len t i v h1]
theorem zst2_get : ∀ (l : List ZV) (i : Nat) (v : ZV) (k : Nat) (w : ZV), (zst2 l i v)[k]? = some w → w ≠ zu → (k = i ∧ w = v) ∨ (k ≠ i ∧ k ≠ i + 1 ∧ l[k]? = some w ∧ ¬ (k + 1 = i ∧ zislong w = true))
  | [], _, _, _, _, h, _ => by simp [zst2] at h
  | a :: [], 0, v, k, w, h, _ => by simp [zst2] at h
  | a :: b :: t, 0, v, k, w, h, hw => by
    match k, h with
    | 0, h => left; simpa [zst2] using h.symm
    | 1, h =>
      have e : zu = w := by simpa [zst2] using h
      exact absurd e.symm hw
    | k + 2, h => right; exact ⟨by omega, by omega, by simpa [zst2] using h, by omega⟩
  | a :: t, i + 1, v, k, w, h, hw => by
    cases k with
    | zero =>
      right
      simp only [zst2, List.getElem?_cons_zero, Option.some.injEq] at h
      cases hb : (i == 0 && zislong a) with
      | true => rw [hb] at h; exact absurd h.symm hw
      | false =>
        rw [hb] at h
        have e : a = w := h
        subst e
        refine ⟨by omega, by omega, rfl, fun q => ?_⟩
        have h0 : i = 0 := by omega
        rw [h0, q.2] at hb
        cases hb
    | succ k =>
      have h2 : (zst2 t i v)[k]? = some w := by simpa [zst2] using h
      rcases zst2_get t i v k w h2 hw with ⟨h3, h4⟩ | ⟨h3, h4, h5, h6⟩
      · exact Or.inl ⟨by omega, h4⟩
      · exact Or.inr ⟨by omega, by omega, by simpa using h5, fun q => h6 ⟨by omega, q.2⟩⟩
theorem zlv_st1 {e0 : Nat → Nat → Option Nat} {ad : Nat → Nat → Nat} {ls : Array Slot} {l : List ZV} {i : Nat} {v : ZV}
    (h : lv_has ls l.length ((i, zcv e0 ad v) :: (zpairs e0 ad 0 l).filter (fun q => !(q.1 == i) && !(q.1 + 1 == i && q.2.category == 2)))) : lv_has ls (zst1 l i v).length (zpairs e0 ad 0 (zst1 l i v)) := by
  rw [zst1_len]
  refine zlv_sub h fun q hq => ?_
  obtain ⟨k, w, h1, h2, h3, h4⟩ := (zpairs_mem _ 0).mp hq
  have hk : q.1 = k := by omega
  rcases zst1_get l i v k w h2 h3 with ⟨h5, h6⟩ | ⟨h5, h6, h7⟩
  · exact List.mem_cons.mpr (Or.inl (Prod.ext (by omega) (by rw [h4, h6])))
  · refine List.mem_cons_of_mem _ (List.mem_filter.mpr ⟨(zpairs_mem l 0).mpr ⟨k, w, h1, h6, h3, h4⟩, ?_⟩)
    rw [hk, h4, zcv_cat]
    simp only [Bool.and_eq_true, Bool.not_eq_true', beq_eq_false_iff_ne, ne_eq, Bool.and_eq_false_imp, beq_iff_eq]
    refine ⟨h5, fun hq2 => ?_⟩
    have : ¬ zislong w = true := fun z => h7 ⟨hq2, z⟩
    rw [zcat1 this]
    decide
theorem zlv_st2 {e0 : Nat → Nat → Option Nat} {ad : Nat → Nat → Nat} {ls : Array Slot} {l : List ZV} {i : Nat} {v : ZV} (hi : i + 1 < l.length)
    (h : lv_has ls l.length ((i, zcv e0 ad v) :: (zpairs e0 ad 0 l).filter (fun q => !(q.1 == i) && (!(q.1 == i + 1) && !(q.1 + 1 == i && q.2.category == 2))))) : lv_has ls (zst2 l i v).length (zpairs e0 ad 0 (zst2 l i v)) := by
  rw [zst2_len l i v hi]
  refine zlv_sub h fun q hq => ?_
  obtain ⟨k, w, h1, h2, h3, h4⟩ := (zpairs_mem _ 0).mp hq
  have hk : q.1 = k := by omega
  rcases zst2_get l i v k w h2 h3 with ⟨h5, h6⟩ | ⟨h5, h5', h6, h7⟩
  · exact List.mem_cons.mpr (Or.inl (Prod.ext (by omega) (by rw [h4, h6])))
  · refine List.mem_cons_of_mem _ (List.mem_filter.mpr ⟨(zpairs_mem l 0).mpr ⟨k, w, h1, h6, h3, h4⟩, ?_⟩)
    rw [hk, h4, zcv_cat]
    simp only [Bool.and_eq_true, Bool.not_eq_true', beq_eq_false_iff_ne, ne_eq, Bool.and_eq_false_imp, beq_iff_eq]
    refine ⟨h5, h5', fun hq2 => ?_⟩
    have : ¬ zislong w = true := fun z => h7 ⟨hq2, z⟩
    rw [zcat1 this]
    decide
theorem zst1_ok {κ : ZK} {l : List ZV} {i : Nat} {v : ZV} (h : ∀ w ∈ l, zvok κ w) (hv : zvok κ v) : ∀ w ∈ zst1 l i v, zvok κ w := by
  intro w hw
  by_cases hz : w = zu
  · subst hz; intro h; cases h
  · obtain ⟨k, hk⟩ := List.getElem?_of_mem hw
    rcases zst1_get l i v k w hk hz with ⟨-, h1⟩ | ⟨-, h1, -⟩
    · rw [h1]; exact hv
    · exact h w (List.mem_of_getElem? h1)
theorem zst2_ok {κ : ZK} {l : List ZV} {i : Nat} {v : ZV} (h : ∀ w ∈ l, zvok κ w) (hv : zvok κ v) : ∀ w ∈ zst2 l i v, zvok κ w := by
  intro w hw
  by_cases hz : w = zu
  · subst hz; intro h; cases h
  · obtain ⟨k, hk⟩ := List.getElem?_of_mem hw
    rcases zst2_get l i v k w hk hz with ⟨-, h1⟩ | ⟨-, -, h1, -⟩
    · rw [h1]; exact hv
    · exact h w (List.mem_of_getElem? h1)
/-- a frame: the machine, its code, the tables' words, what is read alone -/
def zFr (D : va_G) (cA : Nat → ClassId) (e0 : Nat → Nat → Option Nat) (bS nS : Nat) (xS : Nat → Int) (A : Nat → Prop) (p : Program) (s : State) (m : MethodId) (args : Array Value) (meth : Method) (c : Code) (own nm : String) (cc : ByteArray) (nL : Nat) : Prop :=
  p.tables.exec = Jvm.exec ∧ c.code = cc ∧ c.maxLocals = nL ∧ s.vm.findClass own = some m.cls ∧ (∀ w ∈ zgood, w.before args s = true) ∧ zEnv D cA e0 s ∧ zRO e0 bS nS xS A s s.heap ∧ meth.locks = false ∧ meth.name = nm ∧ ∀ q : Nat, s.heap.size ≤ q → A q
/-- the heap holds the memory -/
def zRel (D : va_G) (cA : Nat → ClassId) (e0 : Nat → Nat → Option Nat) (bS nS : Nat) (xS : Nat → Int) (A : Nat → Prop) (s : State) (L : List (Nat × Nat)) (ad : Nat → Nat → Nat) (κ : ZK) (f : ZF) (a : ZA) (H : Heap) (locs : List Loc) : Prop :=
  va_P D vwCl (zws cA e0 ad κ f a L) H ∧ va_D A (zws cA e0 ad κ f a L) ∧ va_S A s.heap H locs ∧ L.Nodup ∧ (∀ r o, (r, o) ∈ L ↔ ∃ k n, κ r o = some (k, n) ∧ k ≠ 6) ∧ zok bS nS xS ad κ f a
section ZC
variable (D : va_G) (cA : Nat → ClassId) (e0 : Nat → Nat → Option Nat) (bS nS : Nat) (xS : Nat → Int) (A : Nat → Prop) (p : Program) (l : Launch) (e : Env) (R : Room) (s : State) (m : MethodId) (args : Array Value) (below : List Frame) (meth : Method) (c : Code) (Q : State → Prop) (L0 : List (Nat × Nat)) (ad0 : Nat → Nat → Nat) (u0 v0 : Nat)
/-- from this place on the method comes to Q, whatever the heap that holds the memory -/
def zcont (pc : Nat) (lsv stv : List ZV) (μ : ZM) : Prop :=
  ∀ (L : List (Nat × Nat)) (ad : Nat → Nat → Nat) (H : Heap) (locs : List Loc) (ls : Array Slot) (cells slots : Nat), (∀ q ∈ L0, q ∈ L ∧ ad q.1 q.2 = ad0 q.1 q.2) → zRel D cA e0 bS nS xS A s L ad μ.1 μ.2.1 μ.2.2.1 H locs → lv_has ls lsv.length (zpairs e0 ad 0 lsv) →
    (∀ v ∈ lsv, zvok μ.1 v) → (∀ v ∈ stv, zvok μ.1 v) → cells + u0 = μ.2.2.2.2.1 → slots + v0 = μ.2.2.2.2.2 → W p l e R s m args below meth c H locs cells slots Q (F0 m pc ls (stv.map (zcv e0 ad)))
end ZC
