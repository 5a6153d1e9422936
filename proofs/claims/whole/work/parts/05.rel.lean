/-! What a state of the machine of numbers says of the JVM's heap; instruction by instruction. -/
def zcv (e0 : Nat → Nat → Option Nat) (ad : Nat → Nat → Nat) : ZV → Value
  | .inl n => .int (Int32.ofInt n)
  | .inr (.inl n) => .long (Int64.ofInt n)
  | .inr (.inr (t, r, o)) => if t = 1 then .ref (ad r o) else va_rf (e0 t r)
def zop1 (ad : Nat → Nat → Nat) : ZV → Option Nat
  | .inr (.inr (t, r, o)) => if t = 1 then some (ad r o) else none
  | _ => none
def zcell (cA : Nat → ClassId) (e0 : Nat → Nat → Option Nat) (ad : Nat → Nat → Nat) (κ : ZK) (f : ZF) (a : ZA) (r o : Nat) : va_E := match κ r o with
  | some (k, n) => if k ≤ 2 then .inl (cA k, n, .inl fun j => Int32.ofInt (a r o j)) else if k = 3 then .inl (cA 3, n, .inr (.inl fun j => Int64.ofInt (a r o j)))
    else if k ≤ 5 then .inl (cA k, n, .inr (.inr (.inr (.inr fun j => zop1 ad (f r o j))))) else .inr (k - 10, (List.range n).map fun j => zcv e0 ad (f r o j))
  | none => .inr (0, [])
def zws (cA : Nat → ClassId) (e0 : Nat → Nat → Option Nat) (ad : Nat → Nat → Nat) (κ : ZK) (f : ZF) (a : ZA) (L : List (Nat × Nat)) : va_W := L.map fun q => (ad q.1 q.2, zcell cA e0 ad κ f a q.1 q.2)
def zI32 (x : Int) : Prop := -2147483648 ≤ x ∧ x < 2147483648
def zI64 (x : Int) : Prop := -9223372036854775808 ≤ x ∧ x < 9223372036854775808
def zvok (κ : ZK) : ZV → Prop
  | .inl n => zI32 n
  | .inr (.inl n) => zI64 n
  | .inr (.inr (t, r, o)) => t = 1 → κ r o ≠ none
/-- memory is as it should be: numbers in their bounds, no name of a cell that isn't there, the script at bS -/
def zok (bS nS : Nat) (xS : Nat → Int) (ad : Nat → Nat → Nat) (κ : ZK) (f : ZF) (a : ZA) : Prop :=
  (∀ r o k n, κ r o = some (k, n) → (k ≤ 2 ∨ k = 6 → ∀ j, zI32 (a r o j) ∧ (k = 1 → a r o j = 0 ∨ a r o j = 1)) ∧ (k = 3 → ∀ j, zI64 (a r o j)) ∧ (k = 4 ∨ k = 5 → ∀ j, ∃ t r' o', f r o j = .inr (.inr (t, r', o')) ∧ t ≤ 1) ∧ (k = 6 → ad r o = bS ∧ n = nS ∧ ∀ j, a r o j = xS j)) ∧
  ∀ r o j, zvok κ (f r o j)
def zTY (cA : Nat → ClassId) : List (ClassId × FieldType) := [(cA 0, .int), (cA 1, .boolean), (cA 2, .byte), (cA 3, .long), (cA 4, .object "PaperWay$Job"), (cA 5, .array .long)]
def zsown (k : Nat) : String := if k = 9 then "PaperWayModel" else "PaperWay$Reader"
def zsidx (k : Nat) : Nat := [89, 95, 101, 103, 105, 107, 109, 111, 113, 186].getD k 0
def zstx (k : Nat) : String := ["way", "eye", "speed", "roller", "turn", "back", "hold", "rest", "damp", " way roller speed eye turn back hold rest damp "].getD k ""
def zslen : List Nat := zstrs.map List.length
def zsbyt : List (List Int32) := zstrs.map fun l => l.map Int32.ofInt
abbrev yNest (c : String) : MethodName := ⟨c, "<init>", "()V"⟩
/-- constructors of nest mates, as their callers' pools name them -/
def znest : List Cond := [.methodLinkNest RX11 9 (yNest RX6) RX11, .methodLinkNest RX11 18 (yNest RX1) RX11, .methodLinkNest RX11 25 (yNest RX8) RX11, .methodLinkNest RX11 32 (yNest RX0) RX11, .methodLinkNest RX11 39 (yNest RX2) RX11, .methodLinkNest RX11 54 (yNest RX5) RX11, .methodLinkNest RX11 61 (yNest RX3) RX11, .methodLinkNest RX11 68 (yNest RX7) RX11, .methodLinkNest RX11 75 (yNest RX4) RX11, .methodLinkNest RX0 29 (yNest RX8) RX11, .methodLinkNest RX0 36 (yNest RX1) RX11, .methodLinkNest RX5 25 (yNest RX2) RX11, .methodLinkNest RX8 11 (yNest RX9) RX11, .methodLinkNest RX8 60 (yNest RX1) RX11]
def zgood : List Cond := lw_tbl.filter goodWord
/-- what the tables say, in each frame -/
def zEnv (D : va_G) (cA : Nat → ClassId) (e0 : Nat → Nat → Option Nat) (U : State) : Prop :=
  va_K D vwCl (zTY cA) U ∧ (∀ w ∈ znest, va_Nw w U) ∧ va_AO "PaperWay$Job" U ∧ zAOA .long U ∧ ∀ k, k < 10 → ∃ q, e0 4 k = some q ∧ vk_R (zsown k) (zsidx k) (zstx k) q U
/-- what is read alone: String constants, two statics, the script -/
def zRO (e0 : Nat → Nat → Option Nat) (bS nS : Nat) (xS : Nat → Int) (A : Nat → Prop) (U : State) (H : Heap) : Prop :=
  (∃ adK adV : Nat → Nat, (∀ k, k < 10 → e0 4 k = some (adK k) ∧ e0 5 k = some (adV k)) ∧ vk_S 10 zslen zsbyt adK adV A U H) ∧ va_Z "java/lang/String" "COMPACT_STRINGS" "Z" (.int 1) A U H ∧
  va_Z "jdk/internal/util/Preconditions" "SIOOBE_FORMATTER" "Ljava/util/function/BiFunction;" (va_rf (e0 6 0)) A U H ∧ va_X bS nS (fun j => Int32.ofInt (xS j)) U H ∧ bS < H.size ∧ ¬ A bS
theorem zEnv.moved {D : va_G} {cA : Nat → ClassId} {e0 : Nat → Nat → Option Nat} {s U : State} (hW : s.WarmedH U.vm) (h : zEnv D cA e0 s) : zEnv D cA e0 U := by
  obtain ⟨h1, h2, h3, h4, h5⟩ := h
  refine ⟨va_K.moved hW.alike h1, fun w hw => ?_, va_AO.moved hW.alike h3, zAOA.moved hW.alike h4, fun k hk => ?_⟩
  · have hz := h2 w hw
    unfold znest at hw
    simp only [List.mem_cons, List.not_mem_nil, or_false] at hw
    rcases hw with rfl | rfl | rfl | rfl | rfl | rfl | rfl | rfl | rfl | rfl | rfl | rfl | rfl | rfl <;> exact va_Nw.warmM hW hz
  · obtain ⟨q, a, b⟩ := h5 k hk
    exact ⟨q, a, vk_R.warm hW b⟩
theorem zRO.kept {e0 : Nat → Nat → Option Nat} {bS nS : Nat} {xS : Nat → Int} {A B : Nat → Prop} {s U : State} {H H1 : Heap} (hW : s.WarmedH U.vm) (hq : ∀ a : Nat, a < H.size → ¬ A a → H1[a]? = H[a]?) (hAB : ∀ q, B q → A q) (hz : H.size ≤ H1.size)
    (h : zRO e0 bS nS xS A s H) : zRO e0 bS nS xS B U H1 := by
  obtain ⟨⟨adK, adV, h0, h1⟩, h2, h3, h4, h5, h6⟩ := h
  exact ⟨⟨adK, adV, h0, ((h1.kept hq).narrow hAB).moved hW.alike⟩, ((h2.kept hq).narrow hAB).moved hW.alike, ((h3.kept hq).narrow hAB).moved hW.alike, (h4.kept (hq bS h5 h6)).moved hW.alike, Nat.lt_of_lt_of_le h5 hz, fun q => h6 (hAB _ q)⟩
