/-! runs of the machine of numbers told by functions: the rows by which dec.py's texts are proved -/
abbrev ZS : Type := (Nat → Nat → Int) × ZA
section ZW
variable {σ ρ : Type}
/-- a loop: so many rounds at most -/
def zwF (f : σ → Option (σ ⊕ ρ)) : Nat → σ → Option ρ
  | 0, _ => none
  | n + 1, s => match f s with
    | none => none
    | some (.inl s') => zwF f n s'
    | some (.inr r) => some r
noncomputable def zw (f : σ → Option (σ ⊕ ρ)) (s : σ) : Option ρ :=
  match Classical.propDecidable (∃ n r, zwF f n s = some r) with
  | .isTrue h => some (Classical.choose (Classical.choose_spec h))
  | .isFalse _ => none
theorem zwF_succ {f : σ → Option (σ ⊕ ρ)} : ∀ (n : Nat) (s : σ) (r : ρ), zwF f n s = some r → zwF f (n + 1) s = some r
  | 0, _, _, h => by simp [zwF] at h
  | n + 1, s, r, h => by
    unfold zwF at h ⊢
    cases e : f s with
    | none => rw [e] at h; cases h
    | some x =>
      rw [e] at h
      cases x with
      | inl s' => exact zwF_succ n s' r h
      | inr r' => exact h
theorem zwF_le {f : σ → Option (σ ⊕ ρ)} {n : Nat} {s : σ} {r : ρ} (h : zwF f n s = some r) : ∀ d, zwF f (n + d) s = some r
  | 0 => h
  | d + 1 => zwF_succ _ _ _ (zwF_le h d)
theorem zw_iff {f : σ → Option (σ ⊕ ρ)} {s : σ} {r : ρ} : zw f s = some r ↔ ∃ n, zwF f n s = some r := by
  unfold zw
  split
  · rename_i h _
    have h1 := Classical.choose_spec (Classical.choose_spec h)
    constructor
    · intro e
      cases e
      exact ⟨_, h1⟩
    · intro ⟨n, hn⟩
      have a := zwF_le hn (Classical.choose h)
      have b := zwF_le h1 n
      rw [Nat.add_comm] at b
      exact (b.symm.trans a)
  · rename_i h _
    constructor
    · intro e; cases e
    · intro ⟨n, hn⟩
      exact absurd ⟨n, r, hn⟩ h
theorem zw_ext {a b : Option ρ} (h : ∀ x, a = some x ↔ b = some x) : a = b := by
  cases a with
  | none => cases b with
    | none => rfl
    | some y => exact ((h y).mpr rfl)
  | some y => exact ((h y).mp rfl).symm
theorem zw_inl {f : σ → Option (σ ⊕ ρ)} {s s' : σ} (h : f s = some (.inl s')) : zw f s = zw f s' := by
  apply zw_ext
  intro x
  rw [zw_iff, zw_iff]
  constructor
  · intro ⟨n, hn⟩
    cases n with
    | zero => simp [zwF] at hn
    | succ n =>
      refine ⟨n, ?_⟩
      unfold zwF at hn
      rw [h] at hn
      exact hn
  · intro ⟨n, hn⟩
    refine ⟨n + 1, ?_⟩
    unfold zwF
    rw [h]
    exact hn
theorem zw_inr {f : σ → Option (σ ⊕ ρ)} {s : σ} {r : ρ} (h : f s = some (.inr r)) : zw f s = some r :=
  zw_iff.mpr ⟨1, by unfold zwF; rw [h]⟩
/-- a loop told by its states one behind the other -/
theorem zw_seq {f : σ → Option (σ ⊕ ρ)} (g : Nat → σ) (k : Nat) {r : ρ} (h : ∀ i, i < k → f (g i) = some (.inl (g (i + 1)))) (he : f (g k) = some (.inr r)) : zw f (g 0) = some r := by
  have : ∀ j, j ≤ k → zw f (g (k - j)) = some r := by
    intro j
    induction j with
    | zero => intro _; exact zw_inr he
    | succ j ih =>
      intro hj
      rw [zw_inl (h (k - (j + 1)) (by omega)), show k - (j + 1) + 1 = k - j by omega]
      exact ih (by omega)
  have h0 := this k (Nat.le_refl k)
  rwa [Nat.sub_self] at h0
end ZW
def zjn {σ ρ : Type} (F : Option ρ) : Option (σ ⊕ ρ) := F.map .inr
/-- a value or a state kept under a name -/
def zlt {α β : Type} (a : α) (k : α → β) : β := k a
def zsim {β : Type} (G : β → ZO → Prop) (F : Option β) (X : ZO) : Prop := ∀ v, F = some v → G v X
def zGi (N : Nat) (S : ZS) : Int → ZO → Prop := fun r X => X = some (some (zi r), zm N S.1 S.2)
def zGl (N : Nat) (S : ZS) : Int → ZO → Prop := fun r X => X = some (some (zl r), zm N S.1 S.2)
def zGq (N : Nat) : (Int × ZS) → ZO → Prop := fun r X => X = some (some (zi r.1), zm N r.2.1 r.2.2)
def zGL (N : Nat) : (Int × ZS) → ZO → Prop := fun r X => X = some (some (zl r.1), zm N r.2.1 r.2.2)
def zGv (N : Nat) : ZS → ZO → Prop := fun r X => X = some (none, zm N r.1 r.2)
def zLp {σ β : Type} (G : β → ZO → Prop) (R : σ → ZO → Prop) : σ ⊕ β → ZO → Prop
  | .inl s, X => R s X
  | .inr r, X => G r X
section ZSIM
variable {σ β γ : Type} {G : β → ZO → Prop} {R : σ → ZO → Prop} {F F' : Option β} {X Y : ZO}
theorem zs (h : X = Y) (k : zsim G F Y) : zsim G F X := by rw [h]; exact k
theorem zsr {v : β} (h : G v X) : zsim G (some v) X := fun w e => by cases e; exact h
theorem zsn : zsim G (none : Option β) X := fun _ e => by cases e
theorem zsb {c : Prop} {i1 i2 : Decidable c} (h1 : c → zsim G F X) (h2 : ¬c → zsim G F' Y) : zsim G (@ite _ c i1 F F') (@ite _ c i2 X Y) := by
  by_cases h : c
  · rw [if_pos h, if_pos h]; exact h1 h
  · rw [if_neg h, if_neg h]; exact h2 h
theorem zsc {c : Prop} {i1 : Decidable c} (h1 : c → zsim G F X) (h2 : ¬c → zsim G F' X) : zsim G (@ite _ c i1 F F') X := by
  by_cases h : c
  · rw [if_pos h]; exact h1 h
  · rw [if_neg h]; exact h2 h
theorem zsg {c : Prop} {i1 : Decidable c} (h1 : c → zsim G F X) : zsim G (@ite _ c i1 F none) X := zsc h1 fun _ => zsn
theorem zRl {s : σ} (h : R s X) : zLp G R (.inl s) X := h
theorem zRr {r : β} (h : G r X) : zLp G R (.inr r) X := h
theorem zsm (h : zsim G F X) : zsim (zLp G R) (zjn F) X := fun v e => by
  cases hF : F with
  | none => rw [hF] at e; cases e
  | some w => rw [hF] at e; cases e; exact h w hF
theorem zsl {f : σ → Option (σ ⊕ β)} {s0 : σ} (R : σ → ZO → Prop) (hb : ∀ s X, R s X → zsim (zLp G R) (f s) X) (h0 : R s0 X) : zsim G (zw f s0) X := by
  intro v hv
  obtain ⟨n, hn⟩ := zw_iff.mp hv
  have key : ∀ n (s : σ) (X : ZO), R s X → zwF f n s = some v → G v X := by
    intro n
    induction n with
    | zero => intro s X _ h; simp [zwF] at h
    | succ n ih =>
      intro s X hR h
      unfold zwF at h
      cases e : f s with
      | none => rw [e] at h; cases h
      | some x =>
        rw [e] at h
        have hx := hb s X hR x e
        cases x with
        | inl s' => exact ih s' X hx h
        | inr r => cases h; exact hx
  exact key n s0 X h0 hn
variable {call : Nat → List ZV → ZM → ZO} {rec : Nat → List ZV → List ZV → ZM → ZO} {k : List ZN} {ls st : List ZV} {N : Nat} {S : ZS}
theorem zsT {K : ZS → Option β} {I : Nat → Nat → Int} {A : ZA} (h : ∀ s : ZS, zsim G (K s) (zexec call rec k ls st (zm N s.1 s.2))) : zsim G (zlt (I, A) K) (zexec call rec k ls st (zm N I A)) := h (I, A)
theorem zbi {Fc : Option Int} {K : Int → Option β} {Z : ZO} (h : zsim (zGi N S) Fc Z) (hk : ∀ r, zsim G (K r) (zexec call rec k ls (zi r :: st) (zm N S.1 S.2))) : zsim G (Fc.bind K) (zcK call rec k ls st Z) := by
  intro v e
  cases hF : Fc with
  | none => rw [hF] at e; cases e
  | some r =>
    rw [hF] at e
    have hz : Z = some (some (zi r), zm N S.1 S.2) := h r hF
    rw [hz, zcK_s]
    exact hk r v e
theorem zbl {Fc : Option Int} {K : Int → Option β} {Z : ZO} (h : zsim (zGl N S) Fc Z) (hk : ∀ r, zsim G (K r) (zexec call rec k ls (zl r :: st) (zm N S.1 S.2))) : zsim G (Fc.bind K) (zcK call rec k ls st Z) := by
  intro v e
  cases hF : Fc with
  | none => rw [hF] at e; cases e
  | some r =>
    rw [hF] at e
    have hz : Z = some (some (zl r), zm N S.1 S.2) := h r hF
    rw [hz, zcK_s]
    exact hk r v e
theorem zbQ {Fc : Option (Int × ZS)} {K : Int × ZS → Option β} {Z : ZO} (h : zsim (zGq N) Fc Z) (hk : ∀ r, zsim G (K r) (zexec call rec k ls (zi r.1 :: st) (zm N r.2.1 r.2.2))) : zsim G (Fc.bind K) (zcK call rec k ls st Z) := by
  intro v e
  cases hF : Fc with
  | none => rw [hF] at e; cases e
  | some r =>
    rw [hF] at e
    have hz : Z = some (some (zi r.1), zm N r.2.1 r.2.2) := h r hF
    rw [hz, zcK_s]
    exact hk r v e
theorem zbL {Fc : Option (Int × ZS)} {K : Int × ZS → Option β} {Z : ZO} (h : zsim (zGL N) Fc Z) (hk : ∀ r, zsim G (K r) (zexec call rec k ls (zl r.1 :: st) (zm N r.2.1 r.2.2))) : zsim G (Fc.bind K) (zcK call rec k ls st Z) := by
  intro v e
  cases hF : Fc with
  | none => rw [hF] at e; cases e
  | some r =>
    rw [hF] at e
    have hz : Z = some (some (zl r.1), zm N r.2.1 r.2.2) := h r hF
    rw [hz, zcK_s]
    exact hk r v e
theorem zbV {Fc : Option ZS} {K : ZS → Option β} {Z : ZO} (h : zsim (zGv N) Fc Z) (hk : ∀ r, zsim G (K r) (zexec call rec k ls st (zm N r.1 r.2))) : zsim G (Fc.bind K) (zcK call rec k ls st Z) := by
  intro v e
  cases hF : Fc with
  | none => rw [hF] at e; cases e
  | some r =>
    rw [hF] at e
    have hz : Z = some (none, zm N r.1 r.2) := h r hF
    rw [hz, zcK_n]
    exact hk r v e
end ZSIM
section ZJ
variable {call : Nat → List ZV → ZM → ZO} {rec : Nat → List ZV → List ZV → ZM → ZO} {k : List ZN} {ls st : List ZV} {N d r o n m ix t i9 : Nat} {I : Nat → Nat → Int} {A : ZA} {p : ZP} {x y v : Int} {μ : ZM}
theorem zhU {T : Nat} (h : T = 6 ∨ T = 8) : T + 1 = 7 ∨ T + 1 = 9 := by omega
theorem zhJ (h0 : 0 ≤ x) (h1 : x < 2) : 12 + x.toNat = 11 ∨ 12 + x.toNat = 12 ∨ 12 + x.toNat = 13 := by omega
theorem kq_num (h0 : 0 ≤ x) (h1 : x < 4) : zka N 18 (10 + x.toNat) = some (3, 60) := by
  rcases (show x = 0 ∨ x = 1 ∨ x = 2 ∨ x = 3 by omega) with rfl | rfl | rfl | rfl
  · exact kq_18_10
  · exact kq_18_11
  · exact kq_18_12
  · exact kq_18_13
theorem kp_24_47 {q : Nat} (h : q = 24 ∨ q = 47) : zka N 1 q = some (0, 10) := by
  rcases h with rfl | rfl
  · exact kq_1_24
  · exact kq_1_47
theorem kp_25_48 {q : Nat} (h : q = 25 ∨ q = 48) : zka N 1 q = some (0, 10) := by
  rcases h with rfl | rfl
  · exact kq_1_25
  · exact kq_1_48
theorem kp_26_49 {q : Nat} (h : q = 26 ∨ q = 49) : zka N 1 q = some (0, 4) := by
  rcases h with rfl | rfl
  · exact kq_1_26
  · exact kq_1_49
theorem zk1_0 {F : Nat} (h : F = 4 ∨ F = 5) : zka N F 1 = some (0, 10) := by
  rcases h with rfl | rfl
  · exact kq_4_1
  · exact kq_5_1
theorem zk1_1 {F : Nat} (h : F = 4 ∨ F = 5) : zka N F 2 = some (0, 10) := by
  rcases h with rfl | rfl
  · exact kq_4_2
  · exact kq_5_2
theorem zk1_2 {F : Nat} (h : F = 4 ∨ F = 5) : zka N F 3 = some (0, 3) := by
  rcases h with rfl | rfl
  · exact kq_4_3
  · exact kq_5_3
theorem zk2_1 {J : Nat} (h : J = 11 ∨ J = 12 ∨ J = 13) : zka N J 2 = some (0, 8) := by
  rcases h with rfl | rfl | rfl
  · exact kq_11_2
  · exact kq_12_2
  · exact kq_13_2
theorem zk2_2 {J : Nat} (h : J = 11 ∨ J = 12 ∨ J = 13) : zka N J 3 = some (1, 8) := by
  rcases h with rfl | rfl | rfl
  · exact kq_11_3
  · exact kq_12_3
  · exact kq_13_3
theorem zk2_3 {J : Nat} (h : J = 11 ∨ J = 12 ∨ J = 13) : zka N J 4 = some (0, 4) := by
  rcases h with rfl | rfl | rfl
  · exact kq_11_4
  · exact kq_12_4
  · exact kq_13_4
theorem zk2_4 {J : Nat} (h : J = 11 ∨ J = 12 ∨ J = 13) : zka N J 5 = some (1, 4) := by
  rcases h with rfl | rfl | rfl
  · exact kq_11_5
  · exact kq_12_5
  · exact kq_13_5
theorem zk2_13 {J : Nat} (h : J = 11 ∨ J = 12 ∨ J = 13) : zka N J 14 = some (0, 60) := by
  rcases h with rfl | rfl | rfl
  · exact kq_11_14
  · exact kq_12_14
  · exact kq_13_14
theorem zk2_14 {J : Nat} (h : J = 11 ∨ J = 12 ∨ J = 13) : zka N J 15 = some (0, 10) := by
  rcases h with rfl | rfl | rfl
  · exact kq_11_15
  · exact kq_12_15
  · exact kq_13_15
theorem zk2_15 {J : Nat} (h : J = 11 ∨ J = 12 ∨ J = 13) : zka N J 16 = some (0, 10) := by
  rcases h with rfl | rfl | rfl
  · exact kq_11_16
  · exact kq_12_16
  · exact kq_13_16
theorem zk2_16 {J : Nat} (h : J = 11 ∨ J = 12 ∨ J = 13) : zka N J 17 = some (0, 10) := by
  rcases h with rfl | rfl | rfl
  · exact kq_11_17
  · exact kq_12_17
  · exact kq_13_17
theorem zk2_17 {J : Nat} (h : J = 11 ∨ J = 12 ∨ J = 13) : zka N J 18 = some (1, 10) := by
  rcases h with rfl | rfl | rfl
  · exact kq_11_18
  · exact kq_12_18
  · exact kq_13_18
theorem zk3_4 : zka N 16 5 = some (0, 3721) := kq_16_5
theorem zk5_4 : zka N 14 5 = some (3, 2791) := kq_14_5
theorem zk9_1 {U : Nat} (h : U = 7 ∨ U = 9) : zka N U 2 = some (0, 19) := by
  rcases h with rfl | rfl
  · exact kq_7_2
  · exact kq_9_2
theorem zx_lns (hN : N < 2147483648) : zexec call rec ((.arraylength, m, p) :: k) ls (zr 0 0 :: st) (zm N I A) = zexec call rec k ls (zi (N : Int) :: st) (zm N I A) := zx_ln (n := N) (kd := 6) zka_00 (by decide) hN
theorem zsw_d {d lo hi : Int} {offs : Array Int} {pc : Nat} (h : x < lo ∨ hi < x) : zsw pc d lo hi offs x = ((pc : Int) + d).toNat := if_pos h
/-- a row copied, a row filled -/
def zcY (n : Nat) (f g : Nat → Int) : Nat → Int := fun j => if j < n then f j else g j
def zfl (n : Nat) (v : Int) (g : Nat → Int) : Nat → Int := fun j => if j < n then v else g j
theorem zx_acopy {n kd r1 o1 r2 o2 nn : Nat} (h1 : zka N r1 o1 = some (kd, n)) (h2 : zka N r2 o2 = some (kd, n)) (hd : kd < 2) (hr : r1 ≠ r2) :
    zexec call rec ((.invokestatic ix, m, (t, nn, 2)) :: k) ls [zi (n : Int), zi 0, zr r2 o2, zi 0, zr r1 o1] (zm N I A) = zexec call rec k ls [] (zm N I (zuA A r2 o2 (zcY n (A r1 o1) (A r2 o2)))) := by
  have e : zcopy [zi (n : Int), zi 0, zr r2 o2, zi 0, zr r1 o1] ls (zm N I A) = some (ls, [], zm N I (zuA A r2 o2 (zcY n (A r1 o1) (A r2 o2)))) := by
    unfold zcopy zm
    simp only [h1, h2]
    rw [if_pos (by refine ⟨?_, hd, fun z => hr z.1, ?_, ?_, ?_, ?_, ?_⟩ <;> first | trivial | omega)]
    congr 6
    funext r' o' j
    unfold zuA zcY
    by_cases h : r' = r2 ∧ o' = o2
    · rw [if_pos h]
      obtain ⟨rfl, rfl⟩ := h
      by_cases hj : j < n
      · rw [if_pos ⟨rfl, rfl, by omega, by omega⟩, if_pos hj]
        simp
      · rw [if_neg (fun z => hj (by omega)), if_neg hj]
    · rw [if_neg (fun z => h ⟨z.1, z.2.1⟩), if_neg h]
  have e2 : zistat (t, nn, 2) [zi (n : Int), zi 0, zr r2 o2, zi 0, zr r1 o1] ls (zm N I A) = some (ls, [], zm N I (zuA A r2 o2 (zcY n (A r1 o1) (A r2 o2)))) := by
    unfold zistat
    rw [if_pos (Nat.le_of_ble_eq_true rfl)]
    exact e
  simp only [zexec, zop, e2]
theorem zcoder (hr : r < 10) : zc (d + 1) j_J0_coder_7d493 [zx 4 r 0] μ = some (some (zi 0), μ) := by
  rw [m_J0_coder_7d493 hr, r_J0_coder_7d493_0]
  refine (zx_getst0 (q := (0, 0))).trans (zx_ifeq.trans ((if_neg (by decide)).trans ((zx_aload_n_0_4 hr).trans ?_)))
  have e : zexec (zc d) (zrun (zc d) (zseg j_J0_coder_7d493)) [(.getfield 15, 3, (51, 0, 0)), (.goto 4, 3, (14, 0, 0))] [zx 4 r 0] [zx 4 r 0] μ = zrun (zc d) (zseg j_J0_coder_7d493) 14 [zx 4 r 0] [zi 0] μ := by
    simp [zexec, zop, zgetf, hr]
  refine e.trans ?_
  rw [r_J0_coder_7d493_14]
  simp [s_J0_coder_7d493_14, zexec]
theorem zlen (hr : r < 10) : zc (d + 2) j_J0_length_8abf5 [zx 4 r 0] μ = some (some (zi ((zstr r).length : Int)), μ) := by
  rw [m_J0_length_8abf5 hr, r_J0_length_8abf5_0]
  refine (zx_aload_n_0_4 hr).trans ?_
  have e : zexec (zc (d + 1)) (zrun (zc (d + 1)) (zseg j_J0_length_8abf5)) [(.getfield 9, 3, (50, 0, 0)), (.arraylength, 1, (0, 0, 0)), (.aload_n 0, 1, (0, 0, 0)), (.invokevirtual 335, 3, (j_J0_coder_7d493, 1, 0)), (.ishr, 1, (0, 0, 0)), (.ireturn, 1, (0, 0, 0))] [zx 4 r 0] [zx 4 r 0] μ = zexec (zc (d + 1)) (zrun (zc (d + 1)) (zseg j_J0_length_8abf5)) [(.invokevirtual 335, 3, (j_J0_coder_7d493, 1, 0)), (.ishr, 1, (0, 0, 0)), (.ireturn, 1, (0, 0, 0))] [zx 4 r 0] [zx 4 r 0, zi ((zstr r).length : Int)] μ := by
    simp [zexec, zop, zgetf, zalen, zldA, hr]
  refine e.trans (zx_cv_1.trans ((if_pos (Nat.le_of_ble_eq_true rfl)).trans ?_))
  rw [zcoder hr, zcK_s]
  refine zx_ishr.trans (zx_ret0.trans ?_)
  have h10 : zshr ((zstr r).length : Int) 0 = ((zstr r).length : Int) := by
    rcases (show r = 0 ∨ r = 1 ∨ r = 2 ∨ r = 3 ∨ r = 4 ∨ r = 5 ∨ r = 6 ∨ r = 7 ∨ r = 8 ∨ r = 9 by omega) with rfl | rfl | rfl | rfl | rfl | rfl | rfl | rfl | rfl | rfl <;> decide
  rw [h10]
theorem zK_len (hr : r < 10) : zcK call rec k ls st (zc (d + 2) j_J0_length_8abf5 [zx 4 r 0] μ) = zexec call rec k ls (zi ((zstr r).length : Int) :: st) μ := by
  rw [zlen hr, zcK_s]
theorem zlat (hr : r < 10) : zc (d + 1) j_J0_isLatin1_aae02 [zx 4 r 0] μ = some (some (zi 1), μ) := by
  rw [m_J0_isLatin1_aae02 hr, r_J0_isLatin1_aae02_0]
  refine (zx_getst0 (q := (0, 0))).trans (zx_ifeq.trans ((if_neg (by decide)).trans ((zx_aload_n_0_4 hr).trans ?_)))
  have e : zexec (zc d) (zrun (zc d) (zseg j_J0_isLatin1_aae02)) [(.getfield 15, 3, (51, 0, 0)), (.ifCond .ne 7, 3, (17, 0, 0)), (.iconst 1, 1, (0, 0, 0)), (.goto 4, 3, (18, 0, 0))] [zx 4 r 0] [zx 4 r 0] μ = zrun (zc d) (zseg j_J0_isLatin1_aae02) 18 [zx 4 r 0] [zi 1] μ := by
    simp [zexec, zop, zgetf, hr]
  refine e.trans ?_
  rw [r_J0_isLatin1_aae02_18]
  simp [s_J0_isLatin1_aae02_18, zexec]
theorem zchi {t9 r9 o9 : Nat} (h0 : 0 ≤ x) (h1 : x < y) : zc (d + 1) j_J3_checkIndex_8e157 [zi x, zi y, zx t9 r9 o9] μ = some (some (zi x), μ) := by
  rw [m_J3_checkIndex_8e157, r_J3_checkIndex_8e157_0]
  refine zx_iload_n_0.trans (zx_iflt.trans ((if_neg (by omega)).trans (zx_iload_n_0.trans (zx_iload_n_1.trans (zx_icmplt.trans ((if_pos h1).trans ?_))))))
  rw [r_J3_checkIndex_8e157_16]
  exact zx_iload_n_0.trans zx_ret0
theorem zch2 (h0 : 0 ≤ x) (h1 : x < y) : zc (d + 2) j_J0_checkIndex_df160 [zi x, zi y] μ = some (none, μ) := by
  rw [m_J0_checkIndex_df160, r_J0_checkIndex_df160_0]
  refine zx_iload_n_0.trans (zx_iload_n_1.trans (zx_getst1.trans (zx_cs_3.trans ((if_pos (Nat.le_of_ble_eq_true rfl)).trans ?_))))
  rw [zchi h0 h1, zcK_s]
  exact zx_pop.trans zx_ret
theorem zstr_ok (hr : r < 10) (hi : i9 < (zstr r).length) : zi2c (zand ((zstr r).getD i9 0) 255) = (zstr r).getD i9 0 ∧ 0 ≤ (zstr r).getD i9 0 ∧ (zstr r).getD i9 0 < 65536 := by
  have key : (List.range 10).all (fun r => (List.range (zstr r).length).all fun i => decide (zi2c (zand ((zstr r).getD i 0) 255) = (zstr r).getD i 0 ∧ 0 ≤ (zstr r).getD i 0 ∧ (zstr r).getD i 0 < 65536)) = true := by decide +kernel
  exact of_decide_eq_true (List.all_eq_true.mp (List.all_eq_true.mp key r (List.mem_range.mpr hr)) i9 (List.mem_range.mpr hi))
end ZJ
section ZJ2
variable {call : Nat → List ZV → ZM → ZO} {rec : Nat → List ZV → List ZV → ZM → ZO} {k : List ZN} {ls st : List ZV} {N d r o n m ix t : Nat} {I : Nat → Nat → Int} {A : ZA} {p : ZP} {x y v : Int} {μ : ZM}
theorem zch1 (hr : r < 10) (h0 : 0 ≤ x) (h1 : x < ((zstr r).length : Int)) : zc (d + 3) j_J1_charAt_3b067 [zx 5 r 0, zi x] μ = some (some (zi ((zstr r).getD x.toNat 0)), μ) := by
  have e0 : zc (d + 3) j_J1_charAt_3b067 [zx 5 r 0, zi x] μ = zrun (zc (d + 2)) (zseg j_J1_charAt_3b067) 0 [zx 5 r 0, zi x] [] μ := zc_in rfl (Nat.le_of_ble_eq_true rfl) (by decide) rfl
  rw [e0, r_J1_charAt_3b067_0]
  have e1 : zexec (zc (d + 2)) (zrun (zc (d + 2)) (zseg j_J1_charAt_3b067)) s_J1_charAt_3b067_0 [zx 5 r 0, zi x] [] μ = zexec (zc (d + 2)) (zrun (zc (d + 2)) (zseg j_J1_charAt_3b067)) [(.invokestatic 9, 3, (j_J0_checkIndex_df160, 2, 0)), (.aload_n 0, 1, (0, 0, 0)), (.iload_n 1, 1, (0, 0, 0)), (.baload, 1, (0, 0, 0)), (.sipush 255, 3, (0, 0, 0)), (.iand, 1, (0, 0, 0)), (.i2c, 1, (0, 0, 0)), (.ireturn, 1, (3, 0, 0))] [zx 5 r 0, zi x] [zi ((zstr r).length : Int), zi x] μ := by
    simp [s_J1_charAt_3b067_0, zexec, zop, zldA, zldI, zalen, hr]
  refine e1.trans (zx_cs_2.trans ((if_pos (Nat.le_of_ble_eq_true rfl)).trans ?_))
  rw [zch2 h0 h1, zcK_n]
  have hl : x.toNat < (zstr r).length := by omega
  obtain ⟨q1, q2, q3⟩ := zstr_ok (i9 := x.toNat) hr hl
  refine (zx_aload_n_0_5 hr).trans (zx_iload_n_1.trans ?_)
  have e2 : zexec (zc (d + 2)) (zrun (zc (d + 2)) (zseg j_J1_charAt_3b067)) [(.baload, 1, (0, 0, 0)), (.sipush 255, 3, (0, 0, 0)), (.iand, 1, (0, 0, 0)), (.i2c, 1, (0, 0, 0)), (.ireturn, 1, (3, 0, 0))] [zx 5 r 0, zi x] [zi x, zx 5 r 0] μ = zexec (zc (d + 2)) (zrun (zc (d + 2)) (zseg j_J1_charAt_3b067)) [(.sipush 255, 3, (0, 0, 0)), (.iand, 1, (0, 0, 0)), (.i2c, 1, (0, 0, 0)), (.ireturn, 1, (3, 0, 0))] [zx 5 r 0, zi x] [zi ((zstr r).getD x.toNat 0)] μ := by
    have eb : zbald [zi x, zx 5 r 0] [zx 5 r 0, zi x] μ = some ([zx 5 r 0, zi x], [zi ((zstr r).getD x.toNat 0)], μ) := by
      unfold zbald
      exact if_pos ⟨h0, h1, hr⟩
    simp only [zexec, zop, eb]
  refine e2.trans (zx_sipush.trans (zx_iand.trans (zx_i2c.trans ?_)))
  rw [q1]
  simp only [zexec]
  rw [if_pos (Or.inr (Or.inr (Or.inr ⟨by trivial, q2, q3⟩)))]
theorem zchr (hr : r < 10) (h0 : 0 ≤ x) (h1 : x < ((zstr r).length : Int)) : zc (d + 4) j_J0_charAt_5068e [zx 4 r 0, zi x] μ = some (some (zi ((zstr r).getD x.toNat 0)), μ) := by
  rw [m_J0_charAt_5068e hr, r_J0_charAt_5068e_0]
  refine (zx_aload_n_0_4 hr).trans (zx_cv_1.trans ((if_pos (Nat.le_of_ble_eq_true rfl)).trans ?_))
  rw [zlat (d := d + 2) hr, zcK_s]
  refine zx_ifeq.trans ((if_neg (by decide)).trans ((zx_aload_n_0_4 hr).trans ?_))
  have e : zexec (zc (d + 3)) (zrun (zc (d + 3)) (zseg j_J0_charAt_5068e)) [(.getfield 9, 3, (50, 0, 0)), (.iload_n 1, 1, (0, 0, 0)), (.invokestatic 495, 3, (j_J1_charAt_3b067, 2, 0)), (.ireturn, 1, (3, 0, 0))] [zx 4 r 0, zi x] [zx 4 r 0] μ = zexec (zc (d + 3)) (zrun (zc (d + 3)) (zseg j_J0_charAt_5068e)) [(.invokestatic 495, 3, (j_J1_charAt_3b067, 2, 0)), (.ireturn, 1, (3, 0, 0))] [zx 4 r 0, zi x] [zi x, zx 5 r 0] μ := by
    simp [zexec, zop, zgetf, zldI, hr]
  refine e.trans (zx_cs_2.trans ((if_pos (Nat.le_of_ble_eq_true rfl)).trans ?_))
  rw [zch1 hr h0 h1, zcK_s]
  have hl : x.toNat < (zstr r).length := by omega
  obtain ⟨q1, q2, q3⟩ := zstr_ok (i9 := x.toNat) hr hl
  simp only [zexec]
  rw [if_pos (Or.inr (Or.inr (Or.inr ⟨by trivial, q2, q3⟩)))]
theorem zK_chr (hr : r < 10) (h0 : 0 ≤ x) (h1 : x < ((zstr r).length : Int)) : zcK call rec k ls st (zc (d + 4) j_J0_charAt_5068e [zx 4 r 0, zi x] μ) = zexec call rec k ls (zi ((zstr r).getD x.toNat 0) :: st) μ := by
  rw [zchr hr h0 h1, zcK_s]
theorem zadd_bm {x y : Int} : zadd x y = (x + y).bmod 4294967296 := by
  unfold zadd
  rw [Int32.toInt_add, Int32.toInt_ofInt, Int32.toInt_ofInt]
  show ((x.bmod 4294967296) + (y.bmod 4294967296)).bmod 4294967296 = _
  rw [Int.bmod_add_bmod, Int.add_bmod_bmod]
theorem zbm {x : Int} (h0 : -2147483648 ≤ x) (h1 : x < 2147483648) : x.bmod 4294967296 = x := by
  simp only [Int.bmod]
  split <;> omega
theorem zadd_ok {x y : Int} (h0 : -2147483648 ≤ x + y) (h1 : x + y < 2147483648) : zadd x y = x + y := by rw [zadd_bm, zbm h0 h1]
theorem zfl_s {n : Nat} {g : Nat → Int} : zset (zfl n v g) n v = zfl (n + 1) v g := by
  funext j
  unfold zset zfl
  by_cases h : j = n
  · rw [if_pos h, if_pos (by omega)]
  · rw [if_neg h]
    by_cases h2 : j < n
    · rw [if_pos h2, if_pos (by omega)]
    · rw [if_neg h2, if_neg (by omega)]
theorem zfl_0 {g : Nat → Int} : zfl 0 v g = g := by
  funext j
  unfold zfl
  rw [if_neg (by omega)]
theorem zfillI {n : Nat} (hk : zka N r o = some (0, n)) (hn : n < 2147483648) : zc (d + 1) j_J7_fill_53178 [zr r o, zi v] (zm N I A) = some (none, zm N I (zuA A r o (zfl n v (A r o)))) := by
  rw [m_J7_fill_53178, r_J7_fill_53178_0]
  refine zx_iconst.trans (zx_istore_n_2.trans (zx_aload_n_0.trans ((zx_ln (n := n) (kd := 0) hk (by decide) hn).trans (zx_istore_n_3.trans (zx_nop.trans ?_)))))
  have key : ∀ j : Nat, j ≤ n → zrun (zc d) (zseg j_J7_fill_53178) 5 [zr r o, zi v, zi ((n - j : Nat) : Int), zi (n : Int)] [] (zm N I (zuA A r o (zfl (n - j) v (A r o)))) = some (none, zm N I (zuA A r o (zfl n v (A r o)))) := by
    intro j
    induction j with
    | zero =>
      intro _
      rw [r_J7_fill_53178_5]
      refine zx_iload_n_2.trans (zx_iload_n_3.trans (zx_icmpge.trans ((if_neg (by omega)).trans ?_)))
      rw [r_J7_fill_53178_20]
      exact zx_ret
    | succ j ih =>
      intro hj
      rw [r_J7_fill_53178_5]
      refine zx_iload_n_2.trans (zx_iload_n_3.trans (zx_icmpge.trans ((if_pos (by omega)).trans (zx_aload_n_0.trans (zx_iload_n_2.trans (zx_iload_n_1.trans ((zx_si (n := n) hk (by omega) (by omega)).trans (zx_iinc_2.trans (zx_goto.trans ?_)))))))))
      rw [zuA_s, zuA_A, Int.toNat_natCast, zfl_s, zadd_ok (by omega) (by omega), show ((n - (j + 1) : Nat) : Int) + 1 = ((n - j : Nat) : Int) by omega, show n - (j + 1) + 1 = n - j by omega]
      exact ih (by omega)
  have h0 := key n (Nat.le_refl n)
  rw [Nat.sub_self, zfl_0, zuA_same] at h0
  exact h0
theorem zK_fillI {n : Nat} (hk : zka N r o = some (0, n)) (hn : n < 2147483648) : zcK call rec k ls st (zc (d + 1) j_J7_fill_53178 [zr r o, zi v] (zm N I A)) = zexec call rec k ls st (zm N I (zuA A r o (zfl n v (A r o)))) := by
  rw [zfillI hk hn, zcK_n]
theorem zfillL {n : Nat} (hk : zka N r o = some (3, n)) (hn : n < 2147483648) : zc (d + 1) j_J7_fill_d0a16 [zr r o, zl v] (zm N I A) = some (none, zm N I (zuA A r o (zfl n v (A r o)))) := by
  rw [m_J7_fill_d0a16, r_J7_fill_d0a16_0]
  refine zx_iconst.trans (zx_istore_n_3.trans (zx_aload_n_0.trans ((zx_ln (n := n) (kd := 3) hk (by decide) hn).trans (zx_istore_4.trans (zx_nop.trans ?_)))))
  have key : ∀ j : Nat, j ≤ n → zrun (zc d) (zseg j_J7_fill_d0a16) 6 [zr r o, zl v, zu, zi ((n - j : Nat) : Int), zi (n : Int)] [] (zm N I (zuA A r o (zfl (n - j) v (A r o)))) = some (none, zm N I (zuA A r o (zfl n v (A r o)))) := by
    intro j
    induction j with
    | zero =>
      intro _
      rw [r_J7_fill_d0a16_6]
      refine zx_iload_n_3.trans (zx_iload_4.trans (zx_icmpge.trans ((if_neg (by omega)).trans ?_)))
      rw [r_J7_fill_d0a16_22]
      exact zx_ret
    | succ j ih =>
      intro hj
      rw [r_J7_fill_d0a16_6]
      refine zx_iload_n_3.trans (zx_iload_4.trans (zx_icmpge.trans ((if_pos (by omega)).trans (zx_aload_n_0.trans (zx_iload_n_3.trans (zx_lload_n_1.trans ((zx_sl (n := n) hk (by omega) (by omega)).trans (zx_iinc_3.trans (zx_goto.trans ?_)))))))))
      rw [zuA_s, zuA_A, Int.toNat_natCast, zfl_s, zadd_ok (by omega) (by omega), show ((n - (j + 1) : Nat) : Int) + 1 = ((n - j : Nat) : Int) by omega, show n - (j + 1) + 1 = n - j by omega]
      exact ih (by omega)
  have h0 := key n (Nat.le_refl n)
  rw [Nat.sub_self, zfl_0, zuA_same] at h0
  exact h0
theorem zK_fillL {n : Nat} (hk : zka N r o = some (3, n)) (hn : n < 2147483648) : zcK call rec k ls st (zc (d + 1) j_J7_fill_d0a16 [zr r o, zl v] (zm N I A)) = zexec call rec k ls st (zm N I (zuA A r o (zfl n v (A r o)))) := by
  rw [zfillL hk hn, zcK_n]
end ZJ2
section ZV
variable {β : Type} {G : β → ZO → Prop} {call : Nat → List ZV → ZM → ZO} {rec : Nat → List ZV → List ZV → ZM → ZO} {k : List ZN} {st l : List ZV} {N : Nat} {I : Nat → Nat → Int} {A : ZA} {x : Int} {a0 a1 a2 a3 a4 a5 a6 a7 a8 a9 a10 a11 : ZV}
theorem zv_i_0 {K : Int → Option β} (h : ∀ y, zsim G (K y) (zexec call rec k (zi y :: l) st (zm N I A))) : zsim G (zlt x K) (zexec call rec k (zi x :: l) st (zm N I A)) := h x
theorem zv_i_2 {K : Int → Option β} (h : ∀ y, zsim G (K y) (zexec call rec k (a0 :: a1 :: zi y :: l) st (zm N I A))) : zsim G (zlt x K) (zexec call rec k (a0 :: a1 :: zi x :: l) st (zm N I A)) := h x
theorem zv_i_4 {K : Int → Option β} (h : ∀ y, zsim G (K y) (zexec call rec k (a0 :: a1 :: a2 :: a3 :: zi y :: l) st (zm N I A))) : zsim G (zlt x K) (zexec call rec k (a0 :: a1 :: a2 :: a3 :: zi x :: l) st (zm N I A)) := h x
theorem zv_i_5 {K : Int → Option β} (h : ∀ y, zsim G (K y) (zexec call rec k (a0 :: a1 :: a2 :: a3 :: a4 :: zi y :: l) st (zm N I A))) : zsim G (zlt x K) (zexec call rec k (a0 :: a1 :: a2 :: a3 :: a4 :: zi x :: l) st (zm N I A)) := h x
theorem zv_i_6 {K : Int → Option β} (h : ∀ y, zsim G (K y) (zexec call rec k (a0 :: a1 :: a2 :: a3 :: a4 :: a5 :: zi y :: l) st (zm N I A))) : zsim G (zlt x K) (zexec call rec k (a0 :: a1 :: a2 :: a3 :: a4 :: a5 :: zi x :: l) st (zm N I A)) := h x
theorem zv_i_8 {K : Int → Option β} (h : ∀ y, zsim G (K y) (zexec call rec k (a0 :: a1 :: a2 :: a3 :: a4 :: a5 :: a6 :: a7 :: zi y :: l) st (zm N I A))) : zsim G (zlt x K) (zexec call rec k (a0 :: a1 :: a2 :: a3 :: a4 :: a5 :: a6 :: a7 :: zi x :: l) st (zm N I A)) := h x
theorem zv_i_9 {K : Int → Option β} (h : ∀ y, zsim G (K y) (zexec call rec k (a0 :: a1 :: a2 :: a3 :: a4 :: a5 :: a6 :: a7 :: a8 :: zi y :: l) st (zm N I A))) : zsim G (zlt x K) (zexec call rec k (a0 :: a1 :: a2 :: a3 :: a4 :: a5 :: a6 :: a7 :: a8 :: zi x :: l) st (zm N I A)) := h x
theorem zv_i_10 {K : Int → Option β} (h : ∀ y, zsim G (K y) (zexec call rec k (a0 :: a1 :: a2 :: a3 :: a4 :: a5 :: a6 :: a7 :: a8 :: a9 :: zi y :: l) st (zm N I A))) : zsim G (zlt x K) (zexec call rec k (a0 :: a1 :: a2 :: a3 :: a4 :: a5 :: a6 :: a7 :: a8 :: a9 :: zi x :: l) st (zm N I A)) := h x
theorem zv_i_11 {K : Int → Option β} (h : ∀ y, zsim G (K y) (zexec call rec k (a0 :: a1 :: a2 :: a3 :: a4 :: a5 :: a6 :: a7 :: a8 :: a9 :: a10 :: zi y :: l) st (zm N I A))) : zsim G (zlt x K) (zexec call rec k (a0 :: a1 :: a2 :: a3 :: a4 :: a5 :: a6 :: a7 :: a8 :: a9 :: a10 :: zi x :: l) st (zm N I A)) := h x
theorem zv_i_12 {K : Int → Option β} (h : ∀ y, zsim G (K y) (zexec call rec k (a0 :: a1 :: a2 :: a3 :: a4 :: a5 :: a6 :: a7 :: a8 :: a9 :: a10 :: a11 :: zi y :: l) st (zm N I A))) : zsim G (zlt x K) (zexec call rec k (a0 :: a1 :: a2 :: a3 :: a4 :: a5 :: a6 :: a7 :: a8 :: a9 :: a10 :: a11 :: zi x :: l) st (zm N I A)) := h x
end ZV
section ZC7
variable {β : Type} {G : β → ZO → Prop} {F : Option β} {call : Nat → List ZV → ZM → ZO} {rec : Nat → List ZV → List ZV → ZM → ZO} {k : List ZN} {ls st : List ZV} {μ : ZM} {m n ix : Nat} {a0 a1 a2 a3 a4 a5 a6 : ZV}
theorem zx_cv_7 : zexec call rec ((.invokevirtual ix, m, (n, 7, 0)) :: k) ls (a6 :: a5 :: a4 :: a3 :: a2 :: a1 :: a0 :: st) μ = if (st.map zcat).sum ≤ 8 then zcK call rec k ls st (call n [a0, a1, a2, a3, a4, a5, a6] μ) else none := by
  simp [zexec, zcK]
  try (split <;> first | rfl | (split <;> rfl))
theorem zx_cs_7 : zexec call rec ((.invokestatic ix, m, (n, 7, 0)) :: k) ls (a6 :: a5 :: a4 :: a3 :: a2 :: a1 :: a0 :: st) μ = if (st.map zcat).sum ≤ 8 then zcK call rec k ls st (call n [a0, a1, a2, a3, a4, a5, a6] μ) else none := by
  simp [zexec, zcK]
  try (split <;> first | rfl | (split <;> rfl))
theorem zsq {c : Nat → List ZV → ZM → ZO} {s : Nat → List ZN} {l n : Nat} (h : l = n) (q : zsim G F (zrun c s n ls st μ)) : zsim G F (zrun c s l ls st μ) := by rw [h]; exact q
end ZC7
theorem zGq_i {N : Nat} {x : Int} {S : ZS} : zGq N (x, S) (some (some (zi x), zm N S.1 S.2)) := rfl
theorem zGL_i {N : Nat} {x : Int} {S : ZS} : zGL N (x, S) (some (some (zl x), zm N S.1 S.2)) := rfl
