/-! memory as numbers: what the constructors left, fields and rows as functions (by wip/whole/gen26.py) -/
def zcr (r : Nat) : Nat := [99, 12, 11, 6, 1, 1, 8, 9, 8, 9, 0, 2, 2, 2, 5, 2, 3, 7, 4, 10, 10, 10, 1, 10, 1].getD r 99
/-- the sorts of fields: 0 a number, 1 an object that may change, 2 the row of its place, 3 the same object always -/
def zft (c k : Nat) : Nat := match c with
  | 0 => [0, 0, 0, 0, 2, 2, 2, 2, 3, 3, 0].getD k 9
  | 1 => [2, 2, 2, 0].getD k 9
  | 2 => [0, 2, 2, 2, 2, 0, 0, 0, 0, 0, 0, 0, 0, 2, 2, 2, 2, 2].getD k 9
  | 3 => [0, 0, 0, 2, 2].getD k 9
  | 4 => [2, 2, 2].getD k 9
  | 5 => [0, 0, 2, 2, 2, 0, 0, 1, 0, 0, 0, 0, 0, 0].getD k 9
  | 6 => [2, 0, 0, 0, 2, 2, 2, 0, 0, 0, 0].getD k 9
  | 7 => [0, 0, 0, 0, 0, 0].getD k 9
  | 8 => [3, 0, 0, 0, 0, 2, 2, 2, 2, 2, 2, 2, 2, 0, 2, 1, 1].getD k 9
  | 9 => [2, 2, 2, 2, 2].getD k 9
  | 10 => [0, 0, 2, 2, 0, 2, 0, 0, 0, 0, 0, 0].getD k 9
  | 11 => [3, 3, 3, 3, 3, 2, 2, 3, 3, 3, 3, 1, 1].getD k 9
  | 12 => [0, 2, 0, 2, 2, 2, 2, 2, 2, 2, 2, 0, 0, 0, 0, 0, 0, 0, 0, 0, 0, 0, 0, 2, 2, 2, 0, 0, 0, 0, 2, 2, 2, 2, 2, 2, 2, 2, 2, 2, 2, 2, 2, 2, 2, 2, 2, 2, 2, 2, 2, 0, 0, 0, 2, 2, 2, 2, 2, 2, 0, 0, 2, 2, 0, 0, 2, 2, 2].getD k 9
  | _ => 9
def znf (c : Nat) : Nat := [11, 4, 18, 5, 3, 14, 11, 6, 17, 5, 12, 13, 69].getD c 0
def zco (r k : Nat) : Nat := match zcr r with
  | 0 => (bif Nat.beq k 8 then 8 else bif Nat.beq k 9 then 5 else 0)
  | 8 => (bif Nat.beq k 0 then r + 1 else 0)
  | 11 => (bif Nat.beq k 0 then 3 else bif Nat.beq k 1 then 4 else bif Nat.beq k 2 then 6 else bif Nat.beq k 3 then 10 else bif Nat.beq k 4 then 11 else bif Nat.beq k 7 then 14 else bif Nat.beq k 8 then 16 else bif Nat.beq k 9 then 17 else bif Nat.beq k 10 then 18 else 0)
  | _ => 0
def zlive (r o k : Nat) : Bool := match o with
  | 0 => Nat.blt k (znf (zcr r))
  | o + 1 => (Nat.beq r 2 && Nat.beq o 5 && Nat.blt k 2) || (Nat.beq r 18 && Nat.beq o 0 && Nat.blt k 4)
def zexp (I : Nat → Nat → Int) (r o k : Nat) : ZV := match o with
  | 0 => (match zft (zcr r) k with
    | 0 => zi (I r k)
    | 1 => zr (I r k).toNat 0
    | 2 => zr r (k + 1)
    | _ => zr (zco r k) 0)
  | _ + 1 => bif Nat.beq r 2 then zr (12 + k) 0 else zr 18 (10 + k)
def zmf (I : Nat → Nat → Int) : ZF := fun r o k => bif zlive r o k then zexp I r o k else zb4.2.1 r o k
def zka (N : Nat) : ZK := zuk zb4.1 0 0 (6, N)
/-- the memory in which numbers I stand in fields, A in rows -/
def zm (N : Nat) (I : Nat → Nat → Int) (A : ZA) : ZM := (zka N, zmf I, A, zb4.2.2.2)
def zI0 (r k : Nat) : Int := match zb4.2.1 r 0 k with
  | .inl x => x
  | .inr (.inr (_, q, _)) => q
  | _ => 0
def zkt : List ((Nat × Nat) × (Nat × Nat)) := [((2, 0), (21, 13)), ((3, 0), (16, 11)), ((3, 1), (2, 400)), ((3, 5), (0, 401)), ((3, 6), (0, 401)), ((3, 7), (0, 401)), ((4, 0), (11, 4)), ((4, 1), (0, 10)), ((4, 2), (0, 10)), ((4, 3), (0, 3)), ((6, 0), (18, 17)), ((7, 0), (19, 5)), ((7, 1), (1, 19)), ((7, 2), (0, 19)), ((7, 3), (0, 228)), ((7, 4), (0, 228)), ((7, 5), (0, 19)), ((6, 6), (0, 40)), ((6, 7), (0, 40)), ((6, 8), (0, 40)), ((6, 9), (0, 40)), ((6, 10), (0, 40)), ((6, 11), (0, 40)), ((6, 12), (1, 40)), ((6, 13), (0, 40)), ((6, 15), (0, 3)), ((21, 0), (20, 12)), ((21, 3), (0, 10)), ((21, 4), (0, 10)), ((21, 6), (0, 19)), ((22, 0), (11, 4)), ((22, 1), (0, 10)), ((22, 2), (0, 10)), ((22, 3), (0, 3)), ((10, 0), (10, 11)), ((10, 5), (1, 19)), ((10, 6), (0, 19)), ((10, 7), (0, 19)), ((10, 8), (0, 69)), ((8, 0), (18, 17)), ((9, 0), (19, 5)), ((9, 1), (1, 19)), ((9, 2), (0, 19)), ((9, 3), (0, 228)), ((9, 4), (0, 228)), ((9, 5), (0, 19)), ((8, 6), (0, 40)), ((8, 7), (0, 40)), ((8, 8), (0, 40)), ((8, 9), (0, 40)), ((8, 10), (0, 40)), ((8, 11), (0, 40)), ((8, 12), (1, 40)), ((8, 13), (0, 40)), ((8, 15), (0, 3)), ((23, 0), (20, 12)), ((23, 3), (0, 10)), ((23, 4), (0, 10)), ((23, 6), (0, 19)), ((24, 0), (11, 4)), ((24, 1), (0, 10)), ((24, 2), (0, 10)), ((24, 3), (0, 3)), ((5, 0), (11, 4)), ((5, 1), (0, 10)), ((5, 2), (0, 10)), ((5, 3), (0, 3)), ((11, 0), (12, 18)), ((11, 2), (0, 8)), ((11, 3), (1, 8)), ((11, 4), (0, 4)), ((11, 5), (1, 4)), ((11, 14), (0, 60)), ((11, 15), (0, 10)), ((11, 16), (0, 10)), ((11, 17), (0, 10)), ((11, 18), (1, 10)), ((2, 6), (4, 2)), ((12, 0), (12, 18)), ((12, 2), (0, 8)), ((12, 3), (1, 8)), ((12, 4), (0, 4)), ((12, 5), (1, 4)), ((12, 14), (0, 60)), ((12, 15), (0, 10)), ((12, 16), (0, 10)), ((12, 17), (0, 10)), ((12, 18), (1, 10)), ((13, 0), (12, 18)), ((13, 2), (0, 8)), ((13, 3), (1, 8)), ((13, 4), (0, 4)), ((13, 5), (1, 4)), ((13, 14), (0, 60)), ((13, 15), (0, 10)), ((13, 16), (0, 10)), ((13, 17), (0, 10)), ((13, 18), (1, 10)), ((2, 7), (1, 2)), ((14, 0), (15, 14)), ((14, 3), (0, 256)), ((14, 4), (3, 65536)), ((14, 5), (3, 2791)), ((15, 0), (12, 18)), ((15, 2), (0, 8)), ((15, 3), (1, 8)), ((15, 4), (0, 4)), ((15, 5), (1, 4)), ((15, 14), (0, 60)), ((15, 15), (0, 10)), ((15, 16), (0, 10)), ((15, 17), (0, 10)), ((15, 18), (1, 10)), ((16, 0), (13, 5)), ((16, 4), (0, 320)), ((16, 5), (0, 3721)), ((17, 0), (17, 6)), ((18, 0), (14, 3)), ((18, 1), (5, 4)), ((18, 10), (3, 60)), ((18, 11), (3, 60)), ((18, 12), (3, 60)), ((18, 13), (3, 60)), ((18, 2), (0, 4)), ((18, 3), (0, 4)), ((19, 0), (20, 12)), ((19, 3), (0, 10)), ((19, 4), (0, 10)), ((19, 6), (0, 19)), ((20, 0), (20, 12)), ((20, 3), (0, 10)), ((20, 4), (0, 10)), ((20, 6), (0, 19)), ((1, 0), (22, 69)), ((1, 2), (0, 400)), ((1, 4), (0, 8)), ((1, 5), (0, 8)), ((1, 6), (0, 10)), ((1, 7), (0, 10)), ((1, 8), (0, 10)), ((1, 9), (0, 10)), ((1, 10), (0, 19)), ((1, 11), (0, 19)), ((1, 24), (0, 10)), ((1, 25), (0, 10)), ((1, 26), (0, 4)), ((1, 31), (0, 40)), ((1, 32), (0, 40)), ((1, 33), (0, 40)), ((1, 34), (0, 40)), ((1, 35), (0, 40)), ((1, 36), (0, 40)), ((1, 37), (1, 40)), ((1, 38), (1, 19)), ((1, 39), (1, 19)), ((1, 40), (1, 19)), ((1, 41), (0, 19)), ((1, 42), (0, 228)), ((1, 43), (0, 228)), ((1, 44), (0, 19)), ((1, 45), (0, 19)), ((1, 46), (1, 40)), ((1, 47), (0, 10)), ((1, 48), (0, 10)), ((1, 49), (0, 4)), ((1, 50), (0, 19)), ((1, 51), (0, 19)), ((1, 55), (0, 399)), ((1, 56), (1, 2)), ((1, 57), (3, 9417)), ((1, 58), (0, 90000)), ((1, 59), (0, 90000)), ((1, 60), (0, 90000)), ((1, 63), (0, 19581)), ((1, 64), (0, 320)), ((1, 67), (0, 4)), ((1, 68), (0, 4)), ((1, 69), (3, 240))]
set_option maxRecDepth 100000 in
theorem zkt_ok : zkt.all (fun e => decide (zb4.1 e.1.1 e.1.2 = some e.2)) = true := by decide +kernel
theorem zall_cells {f : ZK} {l : List ((Nat × Nat) × (Nat × Nat))} (h : l.all (fun e => decide (f e.1.1 e.1.2 = some e.2)) = true) {r o a b : Nat} (hm : ((r, o), (a, b)) ∈ l) : f r o = some (a, b) := of_decide_eq_true (List.all_eq_true.mp h _ hm)
theorem zkt_at {r o a b : Nat} (h : ((r, o), (a, b)) ∈ zkt) : zb4.1 r o = some (a, b) := zall_cells zkt_ok h
theorem zka_at {N r o a b : Nat} (h : zkt.contains ((r, o), (a, b)) = true) (h0 : Nat.beq r 0 = false) : zka N r o = some (a, b) := by
  unfold zka zuk
  rw [if_neg (fun z => by rw [z.1] at h0; cases h0)]
  exact zkt_at (List.contains_iff_mem.mp h)
theorem zka_00 {N : Nat} : zka N 0 0 = some (6, N) := by
  unfold zka zuk
  rw [if_pos ⟨rfl, rfl⟩]
set_option maxRecDepth 100000 in
theorem zmf_ok : (List.range 25).all (fun r => (List.range (znf (zcr r))).all fun k => decide (zexp zI0 r 0 k = zb4.2.1 r 0 k)) = true := by decide +kernel
theorem zall_f {f g : ZF} {r o n : Nat} (h : (List.range n).all (fun k => decide (f r o k = g r o k)) = true) {k : Nat} (hk : k < n) : f r o k = g r o k := of_decide_eq_true (List.all_eq_true.mp h k (List.mem_range.mpr hk))
set_option maxRecDepth 100000 in
theorem zmf_ok2 : (List.range 2).all (fun k => decide (zexp zI0 2 6 k = zb4.2.1 2 6 k)) = true := by decide +kernel
set_option maxRecDepth 100000 in
theorem zmf_ok3 : (List.range 4).all (fun k => decide (zexp zI0 18 1 k = zb4.2.1 18 1 k)) = true := by decide +kernel
theorem zmf_ok4 {k : Nat} (hk : k < 2) : zexp zI0 2 6 k = zb4.2.1 2 6 k := zall_f zmf_ok2 hk
theorem zmf_ok5 {k : Nat} (hk : k < 4) : zexp zI0 18 1 k = zb4.2.1 18 1 k := zall_f zmf_ok3 hk
theorem zcr_out {r : Nat} (h : 25 ≤ r) : znf (zcr r) = 0 := by
  obtain ⟨n, rfl⟩ : ∃ n, r = n + 25 := ⟨r - 25, by omega⟩
  rfl
theorem zmf_gen {f : ZF} {I : Nat → Nat → Int} (h0 : ∀ r, r < 25 → ∀ k, k < znf (zcr r) → zexp I r 0 k = f r 0 k) (h1 : ∀ k, k < 2 → zexp I 2 6 k = f 2 6 k) (h2 : ∀ k, k < 4 → zexp I 18 1 k = f 18 1 k) : (fun r o k => bif zlive r o k then zexp I r o k else f r o k) = f := by
  funext r o k
  cases h : zlive r o k with
  | false => rfl
  | true =>
    rw [cond_true]
    match o, h with
    | 0, h =>
      have hk : k < znf (zcr r) := Nat.blt_eq.mp h
      have hr : r < 25 := Nat.lt_of_not_le fun z => by rw [zcr_out z] at hk; omega
      exact h0 r hr k hk
    | o + 1, h =>
      simp only [zlive, Bool.or_eq_true, Bool.and_eq_true, Nat.beq_eq, Nat.blt_eq] at h
      rcases h with ⟨⟨rfl, rfl⟩, hk⟩ | ⟨⟨rfl, rfl⟩, hk⟩
      · exact h1 k hk
      · exact h2 k hk
theorem zmf_I0 : zmf zI0 = zb4.2.1 := zmf_gen (fun r hr k hk => of_decide_eq_true (List.all_eq_true.mp (List.all_eq_true.mp zmf_ok r (List.mem_range.mpr hr)) k (List.mem_range.mpr hk))) (fun _ => zmf_ok4) (fun _ => zmf_ok5)
/-- a number in a field; a number in a row; a row -/
def zup (I : Nat → Nat → Int) (r k : Nat) (v : Int) : Nat → Nat → Int := fun r' k' => if r' = r ∧ k' = k then v else I r' k'
def zset (g : Nat → Int) (k : Nat) (v : Int) : Nat → Int := fun j => if j = k then v else g j
theorem zup_s {I : Nat → Nat → Int} {r k : Nat} {v : Int} : zup I r k v r k = v := if_pos ⟨rfl, rfl⟩
theorem zup_k {I : Nat → Nat → Int} {r r' k k' : Nat} {v : Int} (h : k' ≠ k) : zup I r k v r' k' = I r' k' := if_neg fun z => h z.2
theorem zup_r {I : Nat → Nat → Int} {r r' k k' : Nat} {v : Int} (h : r' ≠ r) : zup I r k v r' k' = I r' k' := if_neg fun z => h z.1
theorem zup_R {I : Nat → Nat → Int} {r r' k : Nat} {v : Int} (h : r' ≠ r) : zup I r k v r' = I r' := funext fun _ => zup_r h
theorem zup_up {I : Nat → Nat → Int} {r k : Nat} {v w : Int} : zup (zup I r k v) r k w = zup I r k w := by
  funext r' k'
  unfold zup
  split <;> rfl
theorem zset_s {g : Nat → Int} {k : Nat} {v : Int} : zset g k v k = v := if_pos rfl
theorem zset_n {g : Nat → Int} {k j : Nat} {v : Int} (h : j ≠ k) : zset g k v j = g j := if_neg h
theorem zuA_s {A : ZA} {r o : Nat} {g : Nat → Int} : zuA A r o g r o = g := by
  funext j
  exact if_pos ⟨rfl, rfl⟩
theorem zuA_o {A : ZA} {r r' o o' : Nat} {g : Nat → Int} (h : o' ≠ o) : zuA A r o g r' o' = A r' o' := by
  funext j
  exact if_neg fun z => h z.2
theorem zuA_r {A : ZA} {r r' o o' : Nat} {g : Nat → Int} (h : r' ≠ r) : zuA A r o g r' o' = A r' o' := by
  funext j
  exact if_neg fun z => h z.1
theorem zuA_R {A : ZA} {r r' o : Nat} {g : Nat → Int} (h : r' ≠ r) : zuA A r o g r' = A r' := by
  funext o' j
  exact if_neg fun z => h z.1
theorem zuA_A {A : ZA} {r o : Nat} {g g' : Nat → Int} : zuA (zuA A r o g) r o g' = zuA A r o g' := by
  funext r' o' j
  unfold zuA
  split <;> rfl
theorem zuA_same {A : ZA} {r o : Nat} : zuA A r o (A r o) = A := by
  funext r' o' j
  unfold zuA
  split
  · rename_i h
    rw [h.1, h.2]
  · rfl
theorem zua_eq {A : ZA} {r o k : Nat} {v : Int} : zua A r o k v = zuA A r o (zset (A r o) k v) := by
  funext r' o' j
  unfold zua zuA zset
  by_cases h : r' = r ∧ o' = o
  · rw [if_pos h]
    by_cases hj : j = k
    · rw [if_pos ⟨h.1, h.2, hj⟩, if_pos hj]
    · rw [if_neg (fun z => hj z.2.2), if_neg hj, h.1, h.2]
  · rw [if_neg (fun z => h ⟨z.1, z.2.1⟩), if_neg h]
theorem zuf_up {I : Nat → Nat → Int} {r k : Nat} {v : Int} (hl : zlive r 0 k = true) (hf : zft (zcr r) k = 0) : zuf (zmf I) r 0 k (zi v) = zmf (zup I r k v) := by
  funext r' o' k'
  unfold zuf
  by_cases h : r' = r ∧ o' = 0 ∧ k' = k
  · rw [if_pos h]
    obtain ⟨rfl, rfl, rfl⟩ := h
    unfold zmf
    rw [hl, cond_true]
    unfold zexp
    simp only [hf, zup_s]
  · rw [if_neg h]
    unfold zmf
    cases hz : zlive r' o' k' with
    | false => rfl
    | true =>
      rw [cond_true, cond_true]
      match o', h with
      | 0, h =>
        unfold zexp
        simp only
        rw [show zup I r k v r' k' = I r' k' from if_neg fun z => h ⟨z.1, rfl, z.2⟩]
      | o' + 1, h => rfl
theorem zuf_upr {I : Nat → Nat → Int} {r k q : Nat} (hl : zlive r 0 k = true) (hf : zft (zcr r) k = 1) : zuf (zmf I) r 0 k (zr q 0) = zmf (zup I r k q) := by
  funext r' o' k'
  unfold zuf
  by_cases h : r' = r ∧ o' = 0 ∧ k' = k
  · rw [if_pos h]
    obtain ⟨rfl, rfl, rfl⟩ := h
    unfold zmf
    rw [hl, cond_true]
    unfold zexp
    simp only [hf, zup_s, Int.toNat_natCast]
  · rw [if_neg h]
    unfold zmf
    cases hz : zlive r' o' k' with
    | false => rfl
    | true =>
      rw [cond_true, cond_true]
      match o', h with
      | 0, h =>
        unfold zexp
        simp only
        rw [show zup I r k q r' k' = I r' k' from if_neg fun z => h ⟨z.1, rfl, z.2⟩]
      | o' + 1, h => rfl
theorem kq_2_0 {N : Nat} : zka N 2 0 = some (21, 13) := zka_at (by decide +kernel) rfl
theorem kq_3_0 {N : Nat} : zka N 3 0 = some (16, 11) := zka_at (by decide +kernel) rfl
theorem kq_3_1 {N : Nat} : zka N 3 1 = some (2, 400) := zka_at (by decide +kernel) rfl
theorem kq_3_5 {N : Nat} : zka N 3 5 = some (0, 401) := zka_at (by decide +kernel) rfl
theorem kq_3_6 {N : Nat} : zka N 3 6 = some (0, 401) := zka_at (by decide +kernel) rfl
theorem kq_3_7 {N : Nat} : zka N 3 7 = some (0, 401) := zka_at (by decide +kernel) rfl
theorem kq_4_0 {N : Nat} : zka N 4 0 = some (11, 4) := zka_at (by decide +kernel) rfl
theorem kq_4_1 {N : Nat} : zka N 4 1 = some (0, 10) := zka_at (by decide +kernel) rfl
theorem kq_4_2 {N : Nat} : zka N 4 2 = some (0, 10) := zka_at (by decide +kernel) rfl
theorem kq_4_3 {N : Nat} : zka N 4 3 = some (0, 3) := zka_at (by decide +kernel) rfl
theorem kq_6_0 {N : Nat} : zka N 6 0 = some (18, 17) := zka_at (by decide +kernel) rfl
theorem kq_7_0 {N : Nat} : zka N 7 0 = some (19, 5) := zka_at (by decide +kernel) rfl
theorem kq_7_1 {N : Nat} : zka N 7 1 = some (1, 19) := zka_at (by decide +kernel) rfl
theorem kq_7_2 {N : Nat} : zka N 7 2 = some (0, 19) := zka_at (by decide +kernel) rfl
theorem kq_7_3 {N : Nat} : zka N 7 3 = some (0, 228) := zka_at (by decide +kernel) rfl
theorem kq_7_4 {N : Nat} : zka N 7 4 = some (0, 228) := zka_at (by decide +kernel) rfl
theorem kq_7_5 {N : Nat} : zka N 7 5 = some (0, 19) := zka_at (by decide +kernel) rfl
theorem kq_6_6 {N : Nat} : zka N 6 6 = some (0, 40) := zka_at (by decide +kernel) rfl
theorem kq_6_7 {N : Nat} : zka N 6 7 = some (0, 40) := zka_at (by decide +kernel) rfl
theorem kq_6_8 {N : Nat} : zka N 6 8 = some (0, 40) := zka_at (by decide +kernel) rfl
theorem kq_6_9 {N : Nat} : zka N 6 9 = some (0, 40) := zka_at (by decide +kernel) rfl
theorem kq_6_10 {N : Nat} : zka N 6 10 = some (0, 40) := zka_at (by decide +kernel) rfl
theorem kq_6_11 {N : Nat} : zka N 6 11 = some (0, 40) := zka_at (by decide +kernel) rfl
theorem kq_6_12 {N : Nat} : zka N 6 12 = some (1, 40) := zka_at (by decide +kernel) rfl
theorem kq_6_13 {N : Nat} : zka N 6 13 = some (0, 40) := zka_at (by decide +kernel) rfl
theorem kq_6_15 {N : Nat} : zka N 6 15 = some (0, 3) := zka_at (by decide +kernel) rfl
theorem kq_21_0 {N : Nat} : zka N 21 0 = some (20, 12) := zka_at (by decide +kernel) rfl
theorem kq_21_3 {N : Nat} : zka N 21 3 = some (0, 10) := zka_at (by decide +kernel) rfl
theorem kq_21_4 {N : Nat} : zka N 21 4 = some (0, 10) := zka_at (by decide +kernel) rfl
theorem kq_21_6 {N : Nat} : zka N 21 6 = some (0, 19) := zka_at (by decide +kernel) rfl
theorem kq_22_0 {N : Nat} : zka N 22 0 = some (11, 4) := zka_at (by decide +kernel) rfl
theorem kq_22_1 {N : Nat} : zka N 22 1 = some (0, 10) := zka_at (by decide +kernel) rfl
theorem kq_22_2 {N : Nat} : zka N 22 2 = some (0, 10) := zka_at (by decide +kernel) rfl
theorem kq_22_3 {N : Nat} : zka N 22 3 = some (0, 3) := zka_at (by decide +kernel) rfl
theorem kq_10_0 {N : Nat} : zka N 10 0 = some (10, 11) := zka_at (by decide +kernel) rfl
theorem kq_10_5 {N : Nat} : zka N 10 5 = some (1, 19) := zka_at (by decide +kernel) rfl
theorem kq_10_6 {N : Nat} : zka N 10 6 = some (0, 19) := zka_at (by decide +kernel) rfl
theorem kq_10_7 {N : Nat} : zka N 10 7 = some (0, 19) := zka_at (by decide +kernel) rfl
theorem kq_10_8 {N : Nat} : zka N 10 8 = some (0, 69) := zka_at (by decide +kernel) rfl
theorem kq_8_0 {N : Nat} : zka N 8 0 = some (18, 17) := zka_at (by decide +kernel) rfl
theorem kq_9_0 {N : Nat} : zka N 9 0 = some (19, 5) := zka_at (by decide +kernel) rfl
theorem kq_9_1 {N : Nat} : zka N 9 1 = some (1, 19) := zka_at (by decide +kernel) rfl
theorem kq_9_2 {N : Nat} : zka N 9 2 = some (0, 19) := zka_at (by decide +kernel) rfl
theorem kq_9_3 {N : Nat} : zka N 9 3 = some (0, 228) := zka_at (by decide +kernel) rfl
theorem kq_9_4 {N : Nat} : zka N 9 4 = some (0, 228) := zka_at (by decide +kernel) rfl
theorem kq_9_5 {N : Nat} : zka N 9 5 = some (0, 19) := zka_at (by decide +kernel) rfl
theorem kq_8_6 {N : Nat} : zka N 8 6 = some (0, 40) := zka_at (by decide +kernel) rfl
theorem kq_8_7 {N : Nat} : zka N 8 7 = some (0, 40) := zka_at (by decide +kernel) rfl
theorem kq_8_8 {N : Nat} : zka N 8 8 = some (0, 40) := zka_at (by decide +kernel) rfl
theorem kq_8_9 {N : Nat} : zka N 8 9 = some (0, 40) := zka_at (by decide +kernel) rfl
theorem kq_8_10 {N : Nat} : zka N 8 10 = some (0, 40) := zka_at (by decide +kernel) rfl
theorem kq_8_11 {N : Nat} : zka N 8 11 = some (0, 40) := zka_at (by decide +kernel) rfl
theorem kq_8_12 {N : Nat} : zka N 8 12 = some (1, 40) := zka_at (by decide +kernel) rfl
theorem kq_8_13 {N : Nat} : zka N 8 13 = some (0, 40) := zka_at (by decide +kernel) rfl
theorem kq_8_15 {N : Nat} : zka N 8 15 = some (0, 3) := zka_at (by decide +kernel) rfl
theorem kq_23_0 {N : Nat} : zka N 23 0 = some (20, 12) := zka_at (by decide +kernel) rfl
theorem kq_23_3 {N : Nat} : zka N 23 3 = some (0, 10) := zka_at (by decide +kernel) rfl
theorem kq_23_4 {N : Nat} : zka N 23 4 = some (0, 10) := zka_at (by decide +kernel) rfl
theorem kq_23_6 {N : Nat} : zka N 23 6 = some (0, 19) := zka_at (by decide +kernel) rfl
theorem kq_24_0 {N : Nat} : zka N 24 0 = some (11, 4) := zka_at (by decide +kernel) rfl
theorem kq_24_1 {N : Nat} : zka N 24 1 = some (0, 10) := zka_at (by decide +kernel) rfl
theorem kq_24_2 {N : Nat} : zka N 24 2 = some (0, 10) := zka_at (by decide +kernel) rfl
theorem kq_24_3 {N : Nat} : zka N 24 3 = some (0, 3) := zka_at (by decide +kernel) rfl
theorem kq_5_0 {N : Nat} : zka N 5 0 = some (11, 4) := zka_at (by decide +kernel) rfl
theorem kq_5_1 {N : Nat} : zka N 5 1 = some (0, 10) := zka_at (by decide +kernel) rfl
theorem kq_5_2 {N : Nat} : zka N 5 2 = some (0, 10) := zka_at (by decide +kernel) rfl
theorem kq_5_3 {N : Nat} : zka N 5 3 = some (0, 3) := zka_at (by decide +kernel) rfl
theorem kq_11_0 {N : Nat} : zka N 11 0 = some (12, 18) := zka_at (by decide +kernel) rfl
theorem kq_11_2 {N : Nat} : zka N 11 2 = some (0, 8) := zka_at (by decide +kernel) rfl
theorem kq_11_3 {N : Nat} : zka N 11 3 = some (1, 8) := zka_at (by decide +kernel) rfl
theorem kq_11_4 {N : Nat} : zka N 11 4 = some (0, 4) := zka_at (by decide +kernel) rfl
theorem kq_11_5 {N : Nat} : zka N 11 5 = some (1, 4) := zka_at (by decide +kernel) rfl
theorem kq_11_14 {N : Nat} : zka N 11 14 = some (0, 60) := zka_at (by decide +kernel) rfl
theorem kq_11_15 {N : Nat} : zka N 11 15 = some (0, 10) := zka_at (by decide +kernel) rfl
theorem kq_11_16 {N : Nat} : zka N 11 16 = some (0, 10) := zka_at (by decide +kernel) rfl
theorem kq_11_17 {N : Nat} : zka N 11 17 = some (0, 10) := zka_at (by decide +kernel) rfl
theorem kq_11_18 {N : Nat} : zka N 11 18 = some (1, 10) := zka_at (by decide +kernel) rfl
theorem kq_2_6 {N : Nat} : zka N 2 6 = some (4, 2) := zka_at (by decide +kernel) rfl
theorem kq_12_0 {N : Nat} : zka N 12 0 = some (12, 18) := zka_at (by decide +kernel) rfl
theorem kq_12_2 {N : Nat} : zka N 12 2 = some (0, 8) := zka_at (by decide +kernel) rfl
theorem kq_12_3 {N : Nat} : zka N 12 3 = some (1, 8) := zka_at (by decide +kernel) rfl
theorem kq_12_4 {N : Nat} : zka N 12 4 = some (0, 4) := zka_at (by decide +kernel) rfl
theorem kq_12_5 {N : Nat} : zka N 12 5 = some (1, 4) := zka_at (by decide +kernel) rfl
theorem kq_12_14 {N : Nat} : zka N 12 14 = some (0, 60) := zka_at (by decide +kernel) rfl
theorem kq_12_15 {N : Nat} : zka N 12 15 = some (0, 10) := zka_at (by decide +kernel) rfl
theorem kq_12_16 {N : Nat} : zka N 12 16 = some (0, 10) := zka_at (by decide +kernel) rfl
theorem kq_12_17 {N : Nat} : zka N 12 17 = some (0, 10) := zka_at (by decide +kernel) rfl
theorem kq_12_18 {N : Nat} : zka N 12 18 = some (1, 10) := zka_at (by decide +kernel) rfl
theorem kq_13_0 {N : Nat} : zka N 13 0 = some (12, 18) := zka_at (by decide +kernel) rfl
theorem kq_13_2 {N : Nat} : zka N 13 2 = some (0, 8) := zka_at (by decide +kernel) rfl
theorem kq_13_3 {N : Nat} : zka N 13 3 = some (1, 8) := zka_at (by decide +kernel) rfl
theorem kq_13_4 {N : Nat} : zka N 13 4 = some (0, 4) := zka_at (by decide +kernel) rfl
theorem kq_13_5 {N : Nat} : zka N 13 5 = some (1, 4) := zka_at (by decide +kernel) rfl
theorem kq_13_14 {N : Nat} : zka N 13 14 = some (0, 60) := zka_at (by decide +kernel) rfl
theorem kq_13_15 {N : Nat} : zka N 13 15 = some (0, 10) := zka_at (by decide +kernel) rfl
theorem kq_13_16 {N : Nat} : zka N 13 16 = some (0, 10) := zka_at (by decide +kernel) rfl
theorem kq_13_17 {N : Nat} : zka N 13 17 = some (0, 10) := zka_at (by decide +kernel) rfl
theorem kq_13_18 {N : Nat} : zka N 13 18 = some (1, 10) := zka_at (by decide +kernel) rfl
theorem kq_2_7 {N : Nat} : zka N 2 7 = some (1, 2) := zka_at (by decide +kernel) rfl
theorem kq_14_0 {N : Nat} : zka N 14 0 = some (15, 14) := zka_at (by decide +kernel) rfl
theorem kq_14_3 {N : Nat} : zka N 14 3 = some (0, 256) := zka_at (by decide +kernel) rfl
theorem kq_14_4 {N : Nat} : zka N 14 4 = some (3, 65536) := zka_at (by decide +kernel) rfl
theorem kq_14_5 {N : Nat} : zka N 14 5 = some (3, 2791) := zka_at (by decide +kernel) rfl
theorem kq_15_0 {N : Nat} : zka N 15 0 = some (12, 18) := zka_at (by decide +kernel) rfl
theorem kq_15_2 {N : Nat} : zka N 15 2 = some (0, 8) := zka_at (by decide +kernel) rfl
theorem kq_15_3 {N : Nat} : zka N 15 3 = some (1, 8) := zka_at (by decide +kernel) rfl
theorem kq_15_4 {N : Nat} : zka N 15 4 = some (0, 4) := zka_at (by decide +kernel) rfl
theorem kq_15_5 {N : Nat} : zka N 15 5 = some (1, 4) := zka_at (by decide +kernel) rfl
theorem kq_15_14 {N : Nat} : zka N 15 14 = some (0, 60) := zka_at (by decide +kernel) rfl
theorem kq_15_15 {N : Nat} : zka N 15 15 = some (0, 10) := zka_at (by decide +kernel) rfl
theorem kq_15_16 {N : Nat} : zka N 15 16 = some (0, 10) := zka_at (by decide +kernel) rfl
theorem kq_15_17 {N : Nat} : zka N 15 17 = some (0, 10) := zka_at (by decide +kernel) rfl
theorem kq_15_18 {N : Nat} : zka N 15 18 = some (1, 10) := zka_at (by decide +kernel) rfl
theorem kq_16_0 {N : Nat} : zka N 16 0 = some (13, 5) := zka_at (by decide +kernel) rfl
theorem kq_16_4 {N : Nat} : zka N 16 4 = some (0, 320) := zka_at (by decide +kernel) rfl
theorem kq_16_5 {N : Nat} : zka N 16 5 = some (0, 3721) := zka_at (by decide +kernel) rfl
theorem kq_17_0 {N : Nat} : zka N 17 0 = some (17, 6) := zka_at (by decide +kernel) rfl
theorem kq_18_0 {N : Nat} : zka N 18 0 = some (14, 3) := zka_at (by decide +kernel) rfl
theorem kq_18_1 {N : Nat} : zka N 18 1 = some (5, 4) := zka_at (by decide +kernel) rfl
theorem kq_18_10 {N : Nat} : zka N 18 10 = some (3, 60) := zka_at (by decide +kernel) rfl
theorem kq_18_11 {N : Nat} : zka N 18 11 = some (3, 60) := zka_at (by decide +kernel) rfl
theorem kq_18_12 {N : Nat} : zka N 18 12 = some (3, 60) := zka_at (by decide +kernel) rfl
theorem kq_18_13 {N : Nat} : zka N 18 13 = some (3, 60) := zka_at (by decide +kernel) rfl
theorem kq_18_2 {N : Nat} : zka N 18 2 = some (0, 4) := zka_at (by decide +kernel) rfl
theorem kq_18_3 {N : Nat} : zka N 18 3 = some (0, 4) := zka_at (by decide +kernel) rfl
theorem kq_19_0 {N : Nat} : zka N 19 0 = some (20, 12) := zka_at (by decide +kernel) rfl
theorem kq_19_3 {N : Nat} : zka N 19 3 = some (0, 10) := zka_at (by decide +kernel) rfl
theorem kq_19_4 {N : Nat} : zka N 19 4 = some (0, 10) := zka_at (by decide +kernel) rfl
theorem kq_19_6 {N : Nat} : zka N 19 6 = some (0, 19) := zka_at (by decide +kernel) rfl
theorem kq_20_0 {N : Nat} : zka N 20 0 = some (20, 12) := zka_at (by decide +kernel) rfl
theorem kq_20_3 {N : Nat} : zka N 20 3 = some (0, 10) := zka_at (by decide +kernel) rfl
theorem kq_20_4 {N : Nat} : zka N 20 4 = some (0, 10) := zka_at (by decide +kernel) rfl
theorem kq_20_6 {N : Nat} : zka N 20 6 = some (0, 19) := zka_at (by decide +kernel) rfl
theorem kq_1_0 {N : Nat} : zka N 1 0 = some (22, 69) := zka_at (by decide +kernel) rfl
theorem kq_1_2 {N : Nat} : zka N 1 2 = some (0, 400) := zka_at (by decide +kernel) rfl
theorem kq_1_4 {N : Nat} : zka N 1 4 = some (0, 8) := zka_at (by decide +kernel) rfl
theorem kq_1_5 {N : Nat} : zka N 1 5 = some (0, 8) := zka_at (by decide +kernel) rfl
theorem kq_1_6 {N : Nat} : zka N 1 6 = some (0, 10) := zka_at (by decide +kernel) rfl
theorem kq_1_7 {N : Nat} : zka N 1 7 = some (0, 10) := zka_at (by decide +kernel) rfl
theorem kq_1_8 {N : Nat} : zka N 1 8 = some (0, 10) := zka_at (by decide +kernel) rfl
theorem kq_1_9 {N : Nat} : zka N 1 9 = some (0, 10) := zka_at (by decide +kernel) rfl
theorem kq_1_10 {N : Nat} : zka N 1 10 = some (0, 19) := zka_at (by decide +kernel) rfl
theorem kq_1_11 {N : Nat} : zka N 1 11 = some (0, 19) := zka_at (by decide +kernel) rfl
theorem kq_1_24 {N : Nat} : zka N 1 24 = some (0, 10) := zka_at (by decide +kernel) rfl
theorem kq_1_25 {N : Nat} : zka N 1 25 = some (0, 10) := zka_at (by decide +kernel) rfl
theorem kq_1_26 {N : Nat} : zka N 1 26 = some (0, 4) := zka_at (by decide +kernel) rfl
theorem kq_1_31 {N : Nat} : zka N 1 31 = some (0, 40) := zka_at (by decide +kernel) rfl
theorem kq_1_32 {N : Nat} : zka N 1 32 = some (0, 40) := zka_at (by decide +kernel) rfl
theorem kq_1_33 {N : Nat} : zka N 1 33 = some (0, 40) := zka_at (by decide +kernel) rfl
theorem kq_1_34 {N : Nat} : zka N 1 34 = some (0, 40) := zka_at (by decide +kernel) rfl
theorem kq_1_35 {N : Nat} : zka N 1 35 = some (0, 40) := zka_at (by decide +kernel) rfl
theorem kq_1_36 {N : Nat} : zka N 1 36 = some (0, 40) := zka_at (by decide +kernel) rfl
theorem kq_1_37 {N : Nat} : zka N 1 37 = some (1, 40) := zka_at (by decide +kernel) rfl
theorem kq_1_38 {N : Nat} : zka N 1 38 = some (1, 19) := zka_at (by decide +kernel) rfl
theorem kq_1_39 {N : Nat} : zka N 1 39 = some (1, 19) := zka_at (by decide +kernel) rfl
theorem kq_1_40 {N : Nat} : zka N 1 40 = some (1, 19) := zka_at (by decide +kernel) rfl
theorem kq_1_41 {N : Nat} : zka N 1 41 = some (0, 19) := zka_at (by decide +kernel) rfl
theorem kq_1_42 {N : Nat} : zka N 1 42 = some (0, 228) := zka_at (by decide +kernel) rfl
theorem kq_1_43 {N : Nat} : zka N 1 43 = some (0, 228) := zka_at (by decide +kernel) rfl
theorem kq_1_44 {N : Nat} : zka N 1 44 = some (0, 19) := zka_at (by decide +kernel) rfl
theorem kq_1_45 {N : Nat} : zka N 1 45 = some (0, 19) := zka_at (by decide +kernel) rfl
theorem kq_1_46 {N : Nat} : zka N 1 46 = some (1, 40) := zka_at (by decide +kernel) rfl
theorem kq_1_47 {N : Nat} : zka N 1 47 = some (0, 10) := zka_at (by decide +kernel) rfl
theorem kq_1_48 {N : Nat} : zka N 1 48 = some (0, 10) := zka_at (by decide +kernel) rfl
theorem kq_1_49 {N : Nat} : zka N 1 49 = some (0, 4) := zka_at (by decide +kernel) rfl
theorem kq_1_50 {N : Nat} : zka N 1 50 = some (0, 19) := zka_at (by decide +kernel) rfl
theorem kq_1_51 {N : Nat} : zka N 1 51 = some (0, 19) := zka_at (by decide +kernel) rfl
theorem kq_1_55 {N : Nat} : zka N 1 55 = some (0, 399) := zka_at (by decide +kernel) rfl
theorem kq_1_56 {N : Nat} : zka N 1 56 = some (1, 2) := zka_at (by decide +kernel) rfl
theorem kq_1_57 {N : Nat} : zka N 1 57 = some (3, 9417) := zka_at (by decide +kernel) rfl
theorem kq_1_58 {N : Nat} : zka N 1 58 = some (0, 90000) := zka_at (by decide +kernel) rfl
theorem kq_1_59 {N : Nat} : zka N 1 59 = some (0, 90000) := zka_at (by decide +kernel) rfl
theorem kq_1_60 {N : Nat} : zka N 1 60 = some (0, 90000) := zka_at (by decide +kernel) rfl
theorem kq_1_63 {N : Nat} : zka N 1 63 = some (0, 19581) := zka_at (by decide +kernel) rfl
theorem kq_1_64 {N : Nat} : zka N 1 64 = some (0, 320) := zka_at (by decide +kernel) rfl
theorem kq_1_67 {N : Nat} : zka N 1 67 = some (0, 4) := zka_at (by decide +kernel) rfl
theorem kq_1_68 {N : Nat} : zka N 1 68 = some (0, 4) := zka_at (by decide +kernel) rfl
theorem kq_1_69 {N : Nat} : zka N 1 69 = some (3, 240) := zka_at (by decide +kernel) rfl
