/-! the law's start: both objects made -/
section BOO
variable {N : Nat} {xs : Nat → Int} {μ : ZM}
theorem zbv_some {o : ZO} {μ0 : ZM} (h : zbv o = true) : o = some (none, zbc o μ0) := by
  cases o with
  | none => cases h
  | some x =>
    obtain ⟨v, μ⟩ := x
    cases v with
    | none => rfl
    | some w => cases h
theorem zbq_some {ci n : Nat} {q : Nat × Nat} (h : zbq ci n μ = some q) : znew (ci + 10) n (zdfl ci (zsrt ci)) μ = some (q, zbn ci n μ) := by
  unfold zbq at h
  unfold zbn
  split at h
  · rename_i e
    cases h
    rw [e]
  · cases h
theorem zmu0_fr : zmu0 N xs znames = zfr N xs zmuC := rfl
theorem zG_C : zG zmuC := ⟨rfl, by decide +kernel⟩
theorem zstart {call : Nat → List ZV → ZM → ZO} {rec : Nat → List ZV → List ZV → ZM → ZO} {m0 m1 m2 m3 m4 : ZM} (n1 : znewo (11, 13, 0) [] [zr 0 0, zu, zu, zu] m0 = some ([zr 0 0, zu, zu, zu], [zr 2 0], m1)) (c2 : call j_X11_init [zr 2 0] m1 = some (none, m2))
    (n3 : znewo (12, 69, 0) [] [zr 0 0, zr 2 0, zu, zu] m2 = some ([zr 0 0, zr 2 0, zu, zu], [zr 1 0], m3)) (c4 : call j_X12_init [zr 1 0] m3 = some (none, m4)) : zexec call rec s_L_law_0 [zr 0 0, zu, zu, zu] [] m0 = rec 18 [zr 0 0, zr 2 0, zr 1 0, zi 0] [] m4 := by
  unfold s_L_law_0
  show (match znewo (11, 13, 0) [] [zr 0 0, zu, zu, zu] m0 with
    | some (ls', st', μ') => zexec call rec [(.dup, 1, (0, 0, 0)), (.invokespecial 9, 3, (j_X11_init, 1, 0)), (.astore_n 1, 1, (0, 0, 0)), (.new 10, 3, (12, 69, 0)), (.dup, 1, (0, 0, 0)), (.invokespecial 12, 3, (j_X12_init, 1, 0)), (.astore_n 2, 1, (0, 0, 0)), (.iconst 0, 1, (0, 0, 0)), (.istore_n 3, 1, (0, 0, 0)), (.nop, 0, (18, 0, 0))] ls' st' μ'
    | none => none) = _
  rw [n1]
  show (if 1 ≤ [zr 2 0, zr 2 0].length ∧ (([zr 2 0, zr 2 0].drop 1).map zcat).sum ≤ 8 then (match call j_X11_init [zr 2 0] m1 with
    | some (none, μ') => zexec call rec [(.astore_n 1, 1, (0, 0, 0)), (.new 10, 3, (12, 69, 0)), (.dup, 1, (0, 0, 0)), (.invokespecial 12, 3, (j_X12_init, 1, 0)), (.astore_n 2, 1, (0, 0, 0)), (.iconst 0, 1, (0, 0, 0)), (.istore_n 3, 1, (0, 0, 0)), (.nop, 0, (18, 0, 0))] [zr 0 0, zu, zu, zu] [zr 2 0] μ'
    | some (some v, μ') => zexec call rec [(.astore_n 1, 1, (0, 0, 0)), (.new 10, 3, (12, 69, 0)), (.dup, 1, (0, 0, 0)), (.invokespecial 12, 3, (j_X12_init, 1, 0)), (.astore_n 2, 1, (0, 0, 0)), (.iconst 0, 1, (0, 0, 0)), (.istore_n 3, 1, (0, 0, 0)), (.nop, 0, (18, 0, 0))] [zr 0 0, zu, zu, zu] (v :: [zr 2 0]) μ'
    | none => none) else none) = _
  rw [if_pos (by decide), c2]
  show (match znewo (12, 69, 0) [] [zr 0 0, zr 2 0, zu, zu] m2 with
    | some (ls', st', μ') => zexec call rec [(.dup, 1, (0, 0, 0)), (.invokespecial 12, 3, (j_X12_init, 1, 0)), (.astore_n 2, 1, (0, 0, 0)), (.iconst 0, 1, (0, 0, 0)), (.istore_n 3, 1, (0, 0, 0)), (.nop, 0, (18, 0, 0))] ls' st' μ'
    | none => none) = _
  rw [n3]
  show (if 1 ≤ [zr 1 0, zr 1 0].length ∧ (([zr 1 0, zr 1 0].drop 1).map zcat).sum ≤ 8 then (match call j_X12_init [zr 1 0] m3 with
    | some (none, μ') => zexec call rec [(.astore_n 2, 1, (0, 0, 0)), (.iconst 0, 1, (0, 0, 0)), (.istore_n 3, 1, (0, 0, 0)), (.nop, 0, (18, 0, 0))] [zr 0 0, zr 2 0, zu, zu] [zr 1 0] μ'
    | some (some v, μ') => zexec call rec [(.astore_n 2, 1, (0, 0, 0)), (.iconst 0, 1, (0, 0, 0)), (.istore_n 3, 1, (0, 0, 0)), (.nop, 0, (18, 0, 0))] [zr 0 0, zr 2 0, zu, zu] (v :: [zr 1 0]) μ'
    | none => none) else none) = _
  rw [if_pos (by decide), c4]
  rfl
theorem zboot : zrun (zc 13) (zseg 253) 0 [zr 0 0, zu, zu, zu] [] (zmu0 N xs znames) = zrun (zc 13) (zseg 253) 18 [zr 0 0, zr 2 0, zr 1 0, zi 0] [] (zfr N xs zb4) := by
  obtain ⟨n1, g1⟩ := zf_newo (N := N) (xs := xs) (p := (11, 13, 0)) (st := []) (ls := [zr 0 0, zu, zu, zu]) (ls' := [zr 0 0, zu, zu, zu]) (st' := [zr 2 0]) (μ' := zb1) zG_C (by unfold znewo; rw [if_pos (by decide), zbq_some zb_c1]; rfl)
  obtain ⟨n2, g2⟩ := zf_cF (N := N) (xs := xs) 13 j_X11_init [zr 2 0] zb1 none zb2 g1 (zbv_some zb_c2)
  obtain ⟨n3, g3⟩ := zf_newo (N := N) (xs := xs) (p := (12, 69, 0)) (st := []) (ls := [zr 0 0, zr 2 0, zu, zu]) (ls' := [zr 0 0, zr 2 0, zu, zu]) (st' := [zr 1 0]) (μ' := zb3) g2 (by unfold znewo; rw [if_pos (by decide), zbq_some zb_c3]; rfl)
  obtain ⟨n4, g4⟩ := zf_cF (N := N) (xs := xs) 13 j_X12_init [zr 1 0] zb3 none zb4 g3 (zbv_some zb_c4)
  have c2 := zcF_ok _ _ _ _ _ n2
  have c4 := zcF_ok _ _ _ _ _ n4
  rw [zmu0_fr, zrun_eq]
  exact zstart n1 c2 n3 c4
/-- the rows at the start -/
def bA0 (xs : Nat → Int) : ZA := fun r o => if zb4.1 r o = none then xs else zb4.2.2.1 r o
theorem zfr_zm : zfr N xs zb4 = zm N zI0 (bA0 xs) := by
  unfold zm
  rw [zmf_I0]
  rfl
theorem zb4_00 : zb4.1 0 0 = none := by decide +kernel
theorem bA0_s : bA0 xs 0 0 = xs := if_pos zb4_00
theorem bA0_at {r o a b : Nat} (h : zkt.contains ((r, o), (a, b)) = true) : bA0 xs r o = zb4.2.2.1 r o := by
  have : zb4.1 r o = some (a, b) := zkt_at (List.contains_iff_mem.mp h)
  exact if_neg (by rw [this]; exact fun z => nomatch z)
theorem zb4_n : zb4.2.2.2.2.1 = 178 ∧ zb4.2.2.2.2.2 = 378774 := by decide +kernel
end BOO
