/-! THE CLAIM OUT OF ONE WALK OF THE LAW'S BODY. Your part is whole_start (and what it stands on); all else here is the same for every law, but numbers. -/
def R_law : String := "PaperWayLaw"
def lw_P (b : Addr) (xs : List Int32) (args : Array Value) (s : State) : Prop := args = #[.ref b] ∧ s.IntsAt b xs ∧ xs.length ≤ 3072 ∧ (Jvm.Cond.and given_1 narrow_1).before args s = true
def lw_Q (_ : Array Value) (s : State) (o : Outcome) (t : State) : Prop := o = .returned (some (.int 1)) ∧ Framed s o t [] 600000 7302250
def lw_Z (below : List Frame) (a : Array Value) (s : State) : State → Prop := fun t => ∃ o, t.status = .running ∧ Ended t below o ∧ lw_Q a s o t
/-- the law's own end, with 1 on the stack, nothing written that was there before, its room as the claim has it -/
theorem lw_ret {p : Program} {l : Launch} {e : Env} {s : State} {m : MethodId} {below : List Frame} {meth : Method} {c : Code} {b : Nat} (hx : p.tables.exec = Jvm.exec) (hb : c.code = code) (hr : meth.sig.returnType = ret) (hlocks : meth.locks = false) {pc : Nat} {H : Heap} {ls : Array Slot} (hdg : decode code pc = .ok (.ireturn, 1)) : W p l e room_1 s m #[Value.ref b] below meth c H [] 600000 7302250 (lw_Z below #[Value.ref b] s) (F0 m pc ls [.int 1]) := by
  intro T hT X
  obtain ⟨fs, hret, hrun, hended, hW, hframe⟩ := X.leave (v := some (.int 1)) (hlocks := hlocks) (fun h => by rw [hr] at h; cases h)
  have hmeth' : T.vm.method? m = some meth := X.method'
  refine ⟨T.setFrames fs, ?_, .returned (some (.int 1)), hrun, hended, rfl, ⟨_, rfl⟩, hW, hframe⟩
  jvm_step X.here [X.here.top, hx, hb, hdg, hmeth', hr, ret, narrow_b1]
  (try refine ⟨rfl, ?_⟩); (try refine ⟨rfl, ?_⟩)
  first | (intro acts; rw [hret _ acts rfl rfl rfl]) | rw [hret _ _ rfl rfl rfl]
  exact Steps.refl _
/-- what holds at the law's entry: the machine, the code, the tables' words (any of lw_tbl by 'hts w (by decide +kernel)'), the script of L ints xs at the cell b, what the Statement gives of the start (any of its parts by flat_of_before) -/
def lw_At (p : Program) (s : State) (m : MethodId) (meth : Method) (c : Code) (b L : Nat) (xs : Nat → Int32) : Prop :=
  p.tables.exec = Jvm.exec ∧ c.code = code ∧ meth.sig.returnType = ret ∧ c.maxLocals = 4 ∧ s.vm.findClass R_law = some m.cls ∧ (∀ w ∈ lw_tbl, w.before #[Value.ref b] s = true) ∧ va_X b L xs s s.heap ∧ b < s.heap.size ∧ meth.locks = false ∧ (Jvm.Cond.and given_1 narrow_1).before #[Value.ref b] s = true ∧ meth.name = "law"

def ztm (i : Nat) : Term := .string (zsown i) (zsidx i)
abbrev ztv (i : Nat) : Term := .field (ztm i) "java/lang/String" "value" "[B"
def zsc1 (i : Nat) : List Cond := [.exactly (ztm i) "java/lang/String", .eq (.field (ztm i) "java/lang/String" "coder" "B") (.int 0), .arrayOf (ztv i) .byte, .eq (.length (ztv i)) (.int (Int32.ofNat (zslen.getD i 0)))]
def zsc2 (i : Nat) : List Cond := (List.range (zslen.getD i 0)).map fun j => .eq (.elem (ztv i) (.int (Int32.ofNat j))) (.int ((zsbyt.getD i []).getD j 0))
def zord : List Nat := [0, 1, 4, 5, 6, 7, 8, 2, 3, 9]
def zpos (i : Nat) : Nat := [0, 1, 7, 8, 2, 3, 4, 5, 6, 9].getD i 0
theorem zord_all : ∀ i : Nat, i < 10 → i ∈ zord := by decide +kernel
theorem zpos_all : ∀ i : Nat, i < 10 → ∀ j : Nat, j < 10 → i ≠ j → i ∈ zord.take (zpos j) ∨ j ∈ zord.take (zpos i) := by decide +kernel
def zsc3 (i : Nat) : List Cond := (zord.take (zpos i)).map fun k => .not (.eq (ztm k) (ztm i))
def zscA (i : Nat) : List Cond := zsc1 i ++ (zsc2 i ++ zsc3 i)
set_option maxRecDepth 100000 in
theorem zsc_sub : List.Sublist (zord.flatMap zscA) (flatC (Jvm.Cond.and given_1 narrow_1)) := by decide +kernel
theorem zsc_in {i : Nat} (hi : i < 10) {w : Cond} (h : w ∈ zscA i) : w ∈ flatC (Jvm.Cond.and given_1 narrow_1) := zsc_sub.subset (List.mem_flatMap.mpr ⟨i, zord_all i hi, h⟩)
set_option maxRecDepth 100000 in
theorem zst_in : ∀ w ∈ ([.eq (.static "java/lang/String" "COMPACT_STRINGS" "Z") (.int 1), .isRef (.static "jdk/internal/util/Preconditions" "SIOOBE_FORMATTER" "Ljava/util/function/BiFunction;")] : List Cond), w ∈ flatC (Jvm.Cond.and given_1 narrow_1) := by decide +kernel
def zneed : List Cond := [.arrayOver (.object "PaperWay$Job"), .arrayOver (.array .long), .laysStatic "java/lang/String" "COMPACT_STRINGS" "Z", .initialized "java/lang/String", .laysStatic "jdk/internal/util/Preconditions" "SIOOBE_FORMATTER" "Ljava/util/function/BiFunction;", .initialized "jdk/internal/util/Preconditions"] ++
  (znest ++ ((List.range 13).map (fun ci => .instantiable (zcl ci).1 (zcl ci).2.2) ++ (List.range 10).map fun k => .stringRef (zsown k) (zsidx k) (zstx k)))
set_option maxRecDepth 100000 in
theorem zneed_ok : zneed.all (fun w => decide (w ∈ lw_tbl)) = true := by decide +kernel
theorem zneed_in {w : Cond} (h : w ∈ zneed) : w ∈ lw_tbl := of_decide_eq_true (List.all_eq_true.mp zneed_ok w h)
section ZLW
variable {s : State} {b L : Nat} {xs : Nat → Int32}
theorem zK_of (hts : ∀ w ∈ lw_tbl, w.before #[Value.ref b] s = true) : ∃ (D : va_G) (cA : Nat → ClassId), va_K D vwCl (zTY cA) s := by
  have hgd : ∀ w ∈ zgood, w.before #[Value.ref b] s = true := fun w hw => hts w (List.mem_filter.mp hw).1
  have h0 : ∀ ci : Nat, ∃ q : ClassId × (Nat → Nat), ci < 13 → u_Kn s (zcl ci).1 (zcl ci).2.1 (zcl ci).2.2 q.1 q.2 := by
    intro ci
    by_cases hc : ci < 13
    · obtain ⟨cC, iS, h⟩ := u_known hgd (zcl_in hc) (hts (.instantiable (zcl ci).1 (zcl ci).2.2) (zneed_in (List.mem_append_right _ (List.mem_append_right _ (List.mem_append_left _ (List.mem_map.mpr ⟨ci, List.mem_range.mpr hc, rfl⟩))))))
      exact ⟨(cC, iS), fun _ => h⟩
    · exact ⟨(default, fun _ => 0), fun h => absurd h hc⟩
  obtain ⟨g, hg⟩ := Classical.axiomOfChoice h0
  have harr : ∀ ty : FieldType, Cond.arrayClass ty ∈ zfix → ∃ c : ClassId, ArrOfT s c ty ∧ s.vm.findClass ("[" ++ ty.toString) = some c := by
    intro ty h
    obtain ⟨c, k, comp, f1, f2, f3⟩ := Cond.arrayClass_spec (hgd _ (zfix_in h))
    exact ⟨c, fun N z => ⟨(fun k h => by cases h), k, f2, comp, f3⟩, f1⟩
  obtain ⟨c0, a0, b0⟩ := harr .int (by decide +kernel)
  obtain ⟨c1, a1, b1⟩ := harr .boolean (by decide +kernel)
  obtain ⟨c2, a2, b2⟩ := harr .byte (by decide +kernel)
  obtain ⟨c3, a3, b3⟩ := harr .long (by decide +kernel)
  obtain ⟨comp4, c4, k4, d1, d2, d3, d4, d5⟩ := Cond.arrayOver_spec (hts (.arrayOver (.object "PaperWay$Job")) (zneed_in (by decide +kernel)))
  obtain ⟨comp5, c5, k5, e1, e2, e3, e4, e5⟩ := arrayOverA_spec (hts (.arrayOver (.array .long)) (zneed_in (by decide +kernel)))
  refine ⟨(fun c => (g c).1, fun c => (g c).2), fun k => [c0, c1, c2, c3, c4, c5].getD k c0, ⟨fun c q hq => ?_, fun k q hq => ?_⟩⟩
  · have hc : c < 13 := by
      have := (List.getElem?_eq_some_iff.mp hq).1
      exact this
    rw [zcl_at hc] at hq
    cases hq
    exact hg c hc
  · match k, hq with
    | 0, hq => cases hq; exact ⟨a0, b0⟩
    | 1, hq => cases hq; exact ⟨a1, b1⟩
    | 2, hq => cases hq; exact ⟨a2, b2⟩
    | 3, hq => cases hq; exact ⟨a3, b3⟩
    | 4, hq => cases hq; exact ⟨fun N z => ⟨(fun k h => by cases h), k4, d3, comp4, d4⟩, k4, comp4, d3, d4, d1, d5⟩
    | 5, hq => cases hq; exact ⟨fun N z => ⟨(fun k h => by cases h), k5, e3, comp5, e4⟩, e5⟩
    | k + 6, hq => cases hq
theorem zRO_of (hts : ∀ w ∈ lw_tbl, w.before #[Value.ref b] s = true) (hgv : (Jvm.Cond.and given_1 narrow_1).before #[Value.ref b] s = true) (hX : va_X b L xs s s.heap) (hb : b < s.heap.size) :
    ∃ e0 : Nat → Nat → Option Nat, (∀ r, e0 0 r = none) ∧ zRO e0 b L (fun j => (xs j).toInt) (fun q => s.heap.size ≤ q) s s.heap ∧ ∀ k, k < 10 → ∃ q, e0 4 k = some q ∧ vk_R (zsown k) (zsidx k) (zstx k) q s := by
  have hs := flat_of_before _ hgv
  have hA : ∀ a : Nat, a < s.heap.size → ¬ (fun q : Nat => s.heap.size ≤ q) a := fun a h => Nat.not_le.mpr h
  have hin : ∀ i : Nat, i < 10 → ∀ w ∈ zscA i, w.before #[Value.ref b] s = true := fun i hi w hw => hs w (zsc_in hi hw)
  have hlen : ∀ i : Nat, i < 10 → zslen.getD i 0 < 2 ^ 31 := by
    intro i hi
    have : ∀ i : Nat, i < 10 → zslen.getD i 0 < 100 := by decide +kernel
    exact Nat.lt_trans (this i hi) (by decide)
  obtain ⟨adK, adV, hS, htm⟩ := vk_Sof (args := #[Value.ref b]) (s := s) (N := 10) (tm := ztm) (len := zslen) (byt := zsbyt) (A := fun q => s.heap.size ≤ q) hlen
    (fun i hi => hin i hi _ (List.mem_append_left _ List.mem_cons_self))
    (fun i hi => hin i hi _ (List.mem_append_left _ (List.mem_cons_of_mem _ List.mem_cons_self)))
    (fun i hi => hin i hi _ (List.mem_append_left _ (List.mem_cons_of_mem _ (List.mem_cons_of_mem _ List.mem_cons_self))))
    (fun i hi => hin i hi _ (List.mem_append_left _ (List.mem_cons_of_mem _ (List.mem_cons_of_mem _ (List.mem_cons_of_mem _ List.mem_cons_self)))))
    (fun i hi j hj => hin i hi _ (List.mem_append_right _ (List.mem_append_left _ (List.mem_map.mpr ⟨j, List.mem_range.mpr hj, rfl⟩))))
    (fun i j hi hj hne => by
      rcases zpos_all i hi j hj hne with h | h
      · exact Or.inl (hin j hj _ (List.mem_append_right _ (List.mem_append_right _ (List.mem_map.mpr ⟨i, h, rfl⟩))))
      · exact Or.inr (hin i hi _ (List.mem_append_right _ (List.mem_append_right _ (List.mem_map.mpr ⟨j, h, rfl⟩))))) hA
  have hZ1 : va_Z "java/lang/String" "COMPACT_STRINGS" "Z" (.int 1) (fun q => s.heap.size ≤ q) s s.heap := va_Zof (args := #[Value.ref b]) (hts _ (zneed_in (by decide +kernel))) (hts _ (zneed_in (by decide +kernel))) (va_eqt (hs _ (zst_in _ List.mem_cons_self))) hA
  have hZ2 := va_Zqof (args := #[Value.ref b]) (s := s) (C := "jdk/internal/util/Preconditions") (n := "SIOOBE_FORMATTER") (d := "Ljava/util/function/BiFunction;") (A := fun q => s.heap.size ≤ q) (hts _ (zneed_in (by decide +kernel))) (hts _ (zneed_in (by decide +kernel))) (hs _ (zst_in _ (List.mem_cons_of_mem _ List.mem_cons_self))) hA
  have hX' : va_X b L (fun j => Int32.ofInt ((fun j => (xs j).toInt) j)) s s.heap := by
    have e : (fun j => Int32.ofInt ((fun j => (xs j).toInt) j)) = xs := by
      funext j
      exact Int32.ofInt_toInt (xs j)
    rw [e]
    exact hX
  obtain ⟨o6, h6⟩ : ∃ o6 : Option Nat, va_Z "jdk/internal/util/Preconditions" "SIOOBE_FORMATTER" "Ljava/util/function/BiFunction;" (va_rf o6) (fun q => s.heap.size ≤ q) s s.heap := by
    rcases hZ2 with h | ⟨t, h⟩
    · exact ⟨none, h⟩
    · exact ⟨some t, h⟩
  refine ⟨fun t k => if t = 0 then none else if t = 4 then some (adK k) else if t = 5 then some (adV k) else o6, fun r => rfl, ⟨⟨adK, adV, fun k hk => ⟨rfl, rfl⟩, hS⟩, hZ1, h6, hX', hb, Nat.not_le.mpr hb⟩, fun k hk => ⟨adK k, rfl, vk_R.of (hts _ (zneed_in (List.mem_append_right _ (List.mem_append_right _ (List.mem_append_right _ (List.mem_map.mpr ⟨k, List.mem_range.mpr hk, rfl⟩)))))) (htm k hk)⟩⟩
end ZLW
/-- the memory at the start: the script, and names for all that will be made -/
def zmu0 (n : Nat) (xs : Nat → Int) (ns : List (Nat × Nat)) : ZM := (fun r o => if r = 0 ∧ o = 0 then some (6, n) else none, fun _ _ _ => zi 0, fun _ _ j => xs j, ns, 0, 0)
