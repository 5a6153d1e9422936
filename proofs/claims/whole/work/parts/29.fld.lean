/-! fields and rows (by wip/whole/gen26.py) -/
section ZFD
variable {call : Nat → List ZV → ZM → ZO} {rec : Nat → List ZV → List ZV → ZM → ZO} {k : List ZN} {ls st : List ZV} {N m ix i9 : Nat} {I : Nat → Nat → Int} {A : ZA} {p : ZP} {s x y : Int}
theorem zgetf_ok {κ : ZK} {f : ZF} {a : ZA} {w : ZW} {r c n fl : Nat} (hk : κ r 0 = some (c + 10, n)) (hc : c < 13) (hf : fl < n) : zgetf (c, fl, s) (zr r 0 :: st) ls (κ, f, a, w) = some (ls, f r 0 fl :: st, (κ, f, a, w)) := by
  unfold zgetf
  simp [hk, hc, hf]
theorem zputf_ok {κ : ZK} {f : ZF} {a : ZA} {w : ZW} {r c n fl : Nat} {v : ZV} (hk : κ r 0 = some (c + 10, n)) (hc : c < 13) (hf : fl < n) (hv : zfits s v = true) : zputf (c, fl, s) (v :: zr r 0 :: st) ls (κ, f, a, w) = some (ls, st, (κ, zuf f r 0 fl v, a, w)) := by
  unfold zputf
  simp [hk, hc, hf, hv]
theorem zx_gf {c n f r : Nat} {v : ZV} (hk : zka N r 0 = some (c + 10, n)) (hc : c < 13) (hf : f < n) (hv : zmf I r 0 f = v) : zexec call rec ((.getfield ix, m, (c, f, s)) :: k) ls (zr r 0 :: st) (zm N I A) = zexec call rec k ls (v :: st) (zm N I A) := by
  have e : zgetf (c, f, s) (zr r 0 :: st) ls (zm N I A) = some (ls, v :: st, zm N I A) := by
    unfold zm
    rw [zgetf_ok hk hc hf, hv]
  simp only [zexec, zop, e]
theorem zx_pf {c n f r : Nat} (hk : zka N r 0 = some (c + 10, n)) (hc : c < 13) (hf : f < n) (hl : zlive r 0 f = true) (ht : zft (zcr r) f = 0) : zexec call rec ((.putfield ix, m, (c, f, 0)) :: k) ls (zi x :: zr r 0 :: st) (zm N I A) = zexec call rec k ls st (zm N (zup I r f x) A) := by
  have e : zputf (c, f, 0) (zi x :: zr r 0 :: st) ls (zm N I A) = some (ls, st, zm N (zup I r f x) A) := by
    unfold zm
    rw [zputf_ok hk hc hf rfl, zuf_up hl ht]
  simp only [zexec, zop, e]
theorem zx_pfb {c n f r : Nat} (hk : zka N r 0 = some (c + 10, n)) (hc : c < 13) (hf : f < n) (hl : zlive r 0 f = true) (ht : zft (zcr r) f = 0) (hx : x = 0 ∨ x = 1) : zexec call rec ((.putfield ix, m, (c, f, 1)) :: k) ls (zi x :: zr r 0 :: st) (zm N I A) = zexec call rec k ls st (zm N (zup I r f x) A) := by
  have e : zputf (c, f, 1) (zi x :: zr r 0 :: st) ls (zm N I A) = some (ls, st, zm N (zup I r f x) A) := by
    unfold zm
    rw [zputf_ok hk hc hf (by rcases hx with rfl | rfl <;> rfl), zuf_up hl ht]
  simp only [zexec, zop, e]
theorem zx_pfr {c n f r q : Nat} (hk : zka N r 0 = some (c + 10, n)) (hc : c < 13) (hf : f < n) (hl : zlive r 0 f = true) (ht : zft (zcr r) f = 1) : zexec call rec ((.putfield ix, m, (c, f, 2)) :: k) ls (zr q 0 :: zr r 0 :: st) (zm N I A) = zexec call rec k ls st (zm N (zup I r f q) A) := by
  have e : zputf (c, f, 2) (zr q 0 :: zr r 0 :: st) ls (zm N I A) = some (ls, st, zm N (zup I r f q) A) := by
    unfold zm
    rw [zputf_ok hk hc hf rfl, zuf_upr hl ht]
  simp only [zexec, zop, e]
theorem zx_ai {r o n : Nat} (hk : zka N r o = some (0, n)) (h0 : 0 ≤ x) (h1 : x < (n : Int)) : zexec call rec ((.iaload, m, p) :: k) ls (zi x :: zr r o :: st) (zm N I A) = zexec call rec k ls (zi (A r o x.toNat) :: st) (zm N I A) := by
  have e : zaldN 0 false (zi x :: zr r o :: st) ls (zm N I A) = some (ls, zi (A r o x.toNat) :: st, zm N I A) := by
    unfold zaldN zm
    simp only [hk, h0, h1]
    simp
  simp only [zexec, zop, e]
theorem zx_as {n : Nat} (h0 : 0 ≤ x) (h1 : x < (N : Int)) : zexec call rec ((.iaload, m, p) :: k) ls (zi x :: zr 0 0 :: st) (zm N I A) = zexec call rec k ls (zi (A 0 0 x.toNat) :: st) (zm N I A) := by
  have e : zaldN 0 false (zi x :: zr 0 0 :: st) ls (zm N I A) = some (ls, zi (A 0 0 x.toNat) :: st, zm N I A) := by
    unfold zaldN zm
    simp only [zka_00, h0, h1]
    simp
  simp only [zexec, zop, e]
theorem zx_al {r o n : Nat} (hk : zka N r o = some (3, n)) (h0 : 0 ≤ x) (h1 : x < (n : Int)) : zexec call rec ((.laload, m, p) :: k) ls (zi x :: zr r o :: st) (zm N I A) = zexec call rec k ls (zl (A r o x.toNat) :: st) (zm N I A) := by
  have e : zaldN 3 true (zi x :: zr r o :: st) ls (zm N I A) = some (ls, zl (A r o x.toNat) :: st, zm N I A) := by
    unfold zaldN zm
    simp only [hk, h0, h1]
    simp
  simp only [zexec, zop, e]
theorem zx_ab {r o n kd : Nat} (hk : zka N r o = some (kd, n)) (hd : kd = 1 ∨ kd = 2) (h0 : 0 ≤ x) (h1 : x < (n : Int)) : zexec call rec ((.baload, m, p) :: k) ls (zi x :: zr r o :: st) (zm N I A) = zexec call rec k ls (zi (A r o x.toNat) :: st) (zm N I A) := by
  have e : zbald (zi x :: zr r o :: st) ls (zm N I A) = some (ls, zi (A r o x.toNat) :: st, zm N I A) := by
    unfold zbald zm
    simp only [hk, h0, h1, hd]
    simp
  simp only [zexec, zop, e]
theorem zx_si {r o n : Nat} (hk : zka N r o = some (0, n)) (h0 : 0 ≤ x) (h1 : x < (n : Int)) : zexec call rec ((.iastore, m, p) :: k) ls (zi y :: zi x :: zr r o :: st) (zm N I A) = zexec call rec k ls st (zm N I (zuA A r o (zset (A r o) x.toNat y))) := by
  have e : zastI (zi y :: zi x :: zr r o :: st) ls (zm N I A) = some (ls, st, zm N I (zuA A r o (zset (A r o) x.toNat y))) := by
    unfold zastI zm
    simp only [hk, h0, h1, zua_eq]
    simp
  simp only [zexec, zop, e]
theorem zx_sl {r o n : Nat} (hk : zka N r o = some (3, n)) (h0 : 0 ≤ x) (h1 : x < (n : Int)) : zexec call rec ((.lastore, m, p) :: k) ls (zl y :: zi x :: zr r o :: st) (zm N I A) = zexec call rec k ls st (zm N I (zuA A r o (zset (A r o) x.toNat y))) := by
  have e : zastL (zl y :: zi x :: zr r o :: st) ls (zm N I A) = some (ls, st, zm N I (zuA A r o (zset (A r o) x.toNat y))) := by
    unfold zastL zm
    simp only [hk, h0, h1, zua_eq]
    simp
  simp only [zexec, zop, e]
theorem zx_sb {r o n : Nat} (hk : zka N r o = some (1, n)) (h0 : 0 ≤ x) (h1 : x < (n : Int)) (hy : y = 0 ∨ y = 1) : zexec call rec ((.bastore, m, p) :: k) ls (zi y :: zi x :: zr r o :: st) (zm N I A) = zexec call rec k ls st (zm N I (zuA A r o (zset (A r o) x.toNat y))) := by
  have e : zastB (zi y :: zi x :: zr r o :: st) ls (zm N I A) = some (ls, st, zm N I (zuA A r o (zset (A r o) x.toNat y))) := by
    unfold zastB zm
    simp only [hk, h0, h1, zua_eq, hy]
    simp
  simp only [zexec, zop, e]
theorem zx_sy {r o n : Nat} (hk : zka N r o = some (2, n)) (h0 : 0 ≤ x) (h1 : x < (n : Int)) (hy : -128 ≤ y) (hz : y < 128) : zexec call rec ((.bastore, m, p) :: k) ls (zi y :: zi x :: zr r o :: st) (zm N I A) = zexec call rec k ls st (zm N I (zuA A r o (zset (A r o) x.toNat y))) := by
  have e : zastB (zi y :: zi x :: zr r o :: st) ls (zm N I A) = some (ls, st, zm N I (zuA A r o (zset (A r o) x.toNat y))) := by
    unfold zastB zm
    simp only [hk, h0, h1, zua_eq, hy, hz]
    simp
  simp only [zexec, zop, e]
theorem zx_ln {r o n kd : Nat} (hk : zka N r o = some (kd, n)) (hd : kd < 7) (hn : n < 2147483648) : zexec call rec ((.arraylength, m, p) :: k) ls (zr r o :: st) (zm N I A) = zexec call rec k ls (zi (n : Int) :: st) (zm N I A) := by
  have e : zalen (zr r o :: st) ls (zm N I A) = some (ls, zi (n : Int) :: st, zm N I A) := by
    unfold zalen zm
    simp only [hk, hd, hn]
    simp
  simp only [zexec, zop, e]
theorem zx_image (h0 : 0 ≤ x) (h1 : x < 2) : zexec call rec ((.aaload, m, p) :: k) ls (zi x :: zr 2 6 :: st) (zm N I A) = zexec call rec k ls (zr (12 + x.toNat) 0 :: st) (zm N I A) := by
  have hk : zka N 2 6 = some (4, 2) := kq_2_6
  have hf : zmf I 2 6 x.toNat = zr (12 + x.toNat) 0 := by
    rcases (show x = 0 ∨ x = 1 by omega) with rfl | rfl <;> rfl
  have e : zaald (zi x :: zr 2 6 :: st) ls (zm N I A) = some (ls, zr (12 + x.toNat) 0 :: st, zm N I A) := by
    unfold zaald zm
    have h1' : x < ((2 : Nat) : Int) := h1
    simp only [hk, h0, h1', hf]
    simp
  simp only [zexec, zop, e]
theorem zx_numrow (h0 : 0 ≤ x) (h1 : x < 4) : zexec call rec ((.aaload, m, p) :: k) ls (zi x :: zr 18 1 :: st) (zm N I A) = zexec call rec k ls (zr 18 (10 + x.toNat) :: st) (zm N I A) := by
  have hk : zka N 18 1 = some (5, 4) := kq_18_1
  have hf : zmf I 18 1 x.toNat = zr 18 (10 + x.toNat) := by
    rcases (show x = 0 ∨ x = 1 ∨ x = 2 ∨ x = 3 by omega) with rfl | rfl | rfl | rfl <;> rfl
  have e : zaald (zi x :: zr 18 1 :: st) ls (zm N I A) = some (ls, zr 18 (10 + x.toNat) :: st, zm N I A) := by
    unfold zaald zm
    have h1' : x < ((4 : Nat) : Int) := h1
    simp only [hk, h0, h1', hf]
    simp
  simp only [zexec, zop, e]
theorem g0_0  : zexec call rec ((.getfield ix, m, (0, 0, s)) :: k) ls (zr 10 0 :: st) (zm N I A) = zexec call rec k ls (zi (I 10 0) :: st) (zm N I A) := zx_gf (c := 0) (n := 11) kq_10_0 (by decide) (by decide) rfl
theorem p0_0  : zexec call rec ((.putfield ix, m, (0, 0, 0)) :: k) ls (zi x :: zr 10 0 :: st) (zm N I A) = zexec call rec k ls st (zm N (zup I 10 0 x) A) := zx_pf (c := 0) (n := 11) kq_10_0 (by decide) (by decide) rfl rfl
theorem g0_1  : zexec call rec ((.getfield ix, m, (0, 1, s)) :: k) ls (zr 10 0 :: st) (zm N I A) = zexec call rec k ls (zi (I 10 1) :: st) (zm N I A) := zx_gf (c := 0) (n := 11) kq_10_0 (by decide) (by decide) rfl
theorem p0_1  : zexec call rec ((.putfield ix, m, (0, 1, 0)) :: k) ls (zi x :: zr 10 0 :: st) (zm N I A) = zexec call rec k ls st (zm N (zup I 10 1 x) A) := zx_pf (c := 0) (n := 11) kq_10_0 (by decide) (by decide) rfl rfl
theorem g0_2  : zexec call rec ((.getfield ix, m, (0, 2, s)) :: k) ls (zr 10 0 :: st) (zm N I A) = zexec call rec k ls (zi (I 10 2) :: st) (zm N I A) := zx_gf (c := 0) (n := 11) kq_10_0 (by decide) (by decide) rfl
theorem p0_2  : zexec call rec ((.putfield ix, m, (0, 2, 0)) :: k) ls (zi x :: zr 10 0 :: st) (zm N I A) = zexec call rec k ls st (zm N (zup I 10 2 x) A) := zx_pf (c := 0) (n := 11) kq_10_0 (by decide) (by decide) rfl rfl
theorem g0_3  : zexec call rec ((.getfield ix, m, (0, 3, s)) :: k) ls (zr 10 0 :: st) (zm N I A) = zexec call rec k ls (zi (I 10 3) :: st) (zm N I A) := zx_gf (c := 0) (n := 11) kq_10_0 (by decide) (by decide) rfl
theorem p0_3  : zexec call rec ((.putfield ix, m, (0, 3, 0)) :: k) ls (zi x :: zr 10 0 :: st) (zm N I A) = zexec call rec k ls st (zm N (zup I 10 3 x) A) := zx_pf (c := 0) (n := 11) kq_10_0 (by decide) (by decide) rfl rfl
theorem g0_4  : zexec call rec ((.getfield ix, m, (0, 4, s)) :: k) ls (zr 10 0 :: st) (zm N I A) = zexec call rec k ls (zr 10 5 :: st) (zm N I A) := zx_gf (c := 0) (n := 11) kq_10_0 (by decide) (by decide) rfl
theorem l0_4 (h0 : 0 ≤ x) (h1 : x < 19) : zexec call rec ((.baload, m, p) :: k) ls (zi x :: zr 10 5 :: st) (zm N I A) = zexec call rec k ls (zi (A 10 5 x.toNat) :: st) (zm N I A) := zx_ab (n := 19) (kd := 1) kq_10_5 (by decide) h0 h1
theorem t0_4 (h0 : 0 ≤ x) (h1 : x < 19) (hy : y = 0 ∨ y = 1) : zexec call rec ((.bastore, m, p) :: k) ls (zi y :: zi x :: zr 10 5 :: st) (zm N I A) = zexec call rec k ls st (zm N I (zuA A 10 5 (zset (A 10 5) x.toNat y))) := zx_sb (n := 19) kq_10_5 h0 h1 hy
theorem n0_4  : zexec call rec ((.arraylength, m, p) :: k) ls (zr 10 5 :: st) (zm N I A) = zexec call rec k ls (zi 19 :: st) (zm N I A) := zx_ln (n := 19) (kd := 1) kq_10_5 (by decide) (by decide)
theorem g0_5  : zexec call rec ((.getfield ix, m, (0, 5, s)) :: k) ls (zr 10 0 :: st) (zm N I A) = zexec call rec k ls (zr 10 6 :: st) (zm N I A) := zx_gf (c := 0) (n := 11) kq_10_0 (by decide) (by decide) rfl
theorem l0_5 (h0 : 0 ≤ x) (h1 : x < 19) : zexec call rec ((.iaload, m, p) :: k) ls (zi x :: zr 10 6 :: st) (zm N I A) = zexec call rec k ls (zi (A 10 6 x.toNat) :: st) (zm N I A) := zx_ai (n := 19) kq_10_6 h0 h1
theorem t0_5 (h0 : 0 ≤ x) (h1 : x < 19) : zexec call rec ((.iastore, m, p) :: k) ls (zi y :: zi x :: zr 10 6 :: st) (zm N I A) = zexec call rec k ls st (zm N I (zuA A 10 6 (zset (A 10 6) x.toNat y))) := zx_si (n := 19) kq_10_6 h0 h1
theorem n0_5  : zexec call rec ((.arraylength, m, p) :: k) ls (zr 10 6 :: st) (zm N I A) = zexec call rec k ls (zi 19 :: st) (zm N I A) := zx_ln (n := 19) (kd := 0) kq_10_6 (by decide) (by decide)
theorem g0_6  : zexec call rec ((.getfield ix, m, (0, 6, s)) :: k) ls (zr 10 0 :: st) (zm N I A) = zexec call rec k ls (zr 10 7 :: st) (zm N I A) := zx_gf (c := 0) (n := 11) kq_10_0 (by decide) (by decide) rfl
theorem l0_6 (h0 : 0 ≤ x) (h1 : x < 19) : zexec call rec ((.iaload, m, p) :: k) ls (zi x :: zr 10 7 :: st) (zm N I A) = zexec call rec k ls (zi (A 10 7 x.toNat) :: st) (zm N I A) := zx_ai (n := 19) kq_10_7 h0 h1
theorem t0_6 (h0 : 0 ≤ x) (h1 : x < 19) : zexec call rec ((.iastore, m, p) :: k) ls (zi y :: zi x :: zr 10 7 :: st) (zm N I A) = zexec call rec k ls st (zm N I (zuA A 10 7 (zset (A 10 7) x.toNat y))) := zx_si (n := 19) kq_10_7 h0 h1
theorem n0_6  : zexec call rec ((.arraylength, m, p) :: k) ls (zr 10 7 :: st) (zm N I A) = zexec call rec k ls (zi 19 :: st) (zm N I A) := zx_ln (n := 19) (kd := 0) kq_10_7 (by decide) (by decide)
theorem g0_7  : zexec call rec ((.getfield ix, m, (0, 7, s)) :: k) ls (zr 10 0 :: st) (zm N I A) = zexec call rec k ls (zr 10 8 :: st) (zm N I A) := zx_gf (c := 0) (n := 11) kq_10_0 (by decide) (by decide) rfl
theorem l0_7 (h0 : 0 ≤ x) (h1 : x < 69) : zexec call rec ((.iaload, m, p) :: k) ls (zi x :: zr 10 8 :: st) (zm N I A) = zexec call rec k ls (zi (A 10 8 x.toNat) :: st) (zm N I A) := zx_ai (n := 69) kq_10_8 h0 h1
theorem t0_7 (h0 : 0 ≤ x) (h1 : x < 69) : zexec call rec ((.iastore, m, p) :: k) ls (zi y :: zi x :: zr 10 8 :: st) (zm N I A) = zexec call rec k ls st (zm N I (zuA A 10 8 (zset (A 10 8) x.toNat y))) := zx_si (n := 69) kq_10_8 h0 h1
theorem n0_7  : zexec call rec ((.arraylength, m, p) :: k) ls (zr 10 8 :: st) (zm N I A) = zexec call rec k ls (zi 69 :: st) (zm N I A) := zx_ln (n := 69) (kd := 0) kq_10_8 (by decide) (by decide)
theorem g0_8  : zexec call rec ((.getfield ix, m, (0, 8, s)) :: k) ls (zr 10 0 :: st) (zm N I A) = zexec call rec k ls (zr 8 0 :: st) (zm N I A) := zx_gf (c := 0) (n := 11) kq_10_0 (by decide) (by decide) rfl
theorem g0_9  : zexec call rec ((.getfield ix, m, (0, 9, s)) :: k) ls (zr 10 0 :: st) (zm N I A) = zexec call rec k ls (zr 5 0 :: st) (zm N I A) := zx_gf (c := 0) (n := 11) kq_10_0 (by decide) (by decide) rfl
theorem g0_10  : zexec call rec ((.getfield ix, m, (0, 10, s)) :: k) ls (zr 10 0 :: st) (zm N I A) = zexec call rec k ls (zi (I 10 10) :: st) (zm N I A) := zx_gf (c := 0) (n := 11) kq_10_0 (by decide) (by decide) rfl
theorem p0_10  : zexec call rec ((.putfield ix, m, (0, 10, 0)) :: k) ls (zi x :: zr 10 0 :: st) (zm N I A) = zexec call rec k ls st (zm N (zup I 10 10 x) A) := zx_pf (c := 0) (n := 11) kq_10_0 (by decide) (by decide) rfl rfl
theorem g1_0 {F : Nat} (hF : F = 4 ∨ F = 5)  : zexec call rec ((.getfield ix, m, (1, 0, s)) :: k) ls (zr F 0 :: st) (zm N I A) = zexec call rec k ls (zr F 1 :: st) (zm N I A) := by
  rcases hF with rfl | rfl
  · exact zx_gf (c := 1) (n := 4) kq_4_0 (by decide) (by decide) rfl
  · exact zx_gf (c := 1) (n := 4) kq_5_0 (by decide) (by decide) rfl
theorem l1_0 {F : Nat} (hF : F = 4 ∨ F = 5) (h0 : 0 ≤ x) (h1 : x < 10) : zexec call rec ((.iaload, m, p) :: k) ls (zi x :: zr F 1 :: st) (zm N I A) = zexec call rec k ls (zi (A F 1 x.toNat) :: st) (zm N I A) := by
  rcases hF with rfl | rfl
  · exact zx_ai (n := 10) kq_4_1 h0 h1
  · exact zx_ai (n := 10) kq_5_1 h0 h1
theorem t1_0 {F : Nat} (hF : F = 4 ∨ F = 5) (h0 : 0 ≤ x) (h1 : x < 10) : zexec call rec ((.iastore, m, p) :: k) ls (zi y :: zi x :: zr F 1 :: st) (zm N I A) = zexec call rec k ls st (zm N I (zuA A F 1 (zset (A F 1) x.toNat y))) := by
  rcases hF with rfl | rfl
  · exact zx_si (n := 10) kq_4_1 h0 h1
  · exact zx_si (n := 10) kq_5_1 h0 h1
theorem n1_0 {F : Nat} (hF : F = 4 ∨ F = 5)  : zexec call rec ((.arraylength, m, p) :: k) ls (zr F 1 :: st) (zm N I A) = zexec call rec k ls (zi 10 :: st) (zm N I A) := by
  rcases hF with rfl | rfl
  · exact zx_ln (n := 10) (kd := 0) kq_4_1 (by decide) (by decide)
  · exact zx_ln (n := 10) (kd := 0) kq_5_1 (by decide) (by decide)
theorem g1_1 {F : Nat} (hF : F = 4 ∨ F = 5)  : zexec call rec ((.getfield ix, m, (1, 1, s)) :: k) ls (zr F 0 :: st) (zm N I A) = zexec call rec k ls (zr F 2 :: st) (zm N I A) := by
  rcases hF with rfl | rfl
  · exact zx_gf (c := 1) (n := 4) kq_4_0 (by decide) (by decide) rfl
  · exact zx_gf (c := 1) (n := 4) kq_5_0 (by decide) (by decide) rfl
theorem l1_1 {F : Nat} (hF : F = 4 ∨ F = 5) (h0 : 0 ≤ x) (h1 : x < 10) : zexec call rec ((.iaload, m, p) :: k) ls (zi x :: zr F 2 :: st) (zm N I A) = zexec call rec k ls (zi (A F 2 x.toNat) :: st) (zm N I A) := by
  rcases hF with rfl | rfl
  · exact zx_ai (n := 10) kq_4_2 h0 h1
  · exact zx_ai (n := 10) kq_5_2 h0 h1
theorem t1_1 {F : Nat} (hF : F = 4 ∨ F = 5) (h0 : 0 ≤ x) (h1 : x < 10) : zexec call rec ((.iastore, m, p) :: k) ls (zi y :: zi x :: zr F 2 :: st) (zm N I A) = zexec call rec k ls st (zm N I (zuA A F 2 (zset (A F 2) x.toNat y))) := by
  rcases hF with rfl | rfl
  · exact zx_si (n := 10) kq_4_2 h0 h1
  · exact zx_si (n := 10) kq_5_2 h0 h1
theorem n1_1 {F : Nat} (hF : F = 4 ∨ F = 5)  : zexec call rec ((.arraylength, m, p) :: k) ls (zr F 2 :: st) (zm N I A) = zexec call rec k ls (zi 10 :: st) (zm N I A) := by
  rcases hF with rfl | rfl
  · exact zx_ln (n := 10) (kd := 0) kq_4_2 (by decide) (by decide)
  · exact zx_ln (n := 10) (kd := 0) kq_5_2 (by decide) (by decide)
theorem g1_2 {F : Nat} (hF : F = 4 ∨ F = 5)  : zexec call rec ((.getfield ix, m, (1, 2, s)) :: k) ls (zr F 0 :: st) (zm N I A) = zexec call rec k ls (zr F 3 :: st) (zm N I A) := by
  rcases hF with rfl | rfl
  · exact zx_gf (c := 1) (n := 4) kq_4_0 (by decide) (by decide) rfl
  · exact zx_gf (c := 1) (n := 4) kq_5_0 (by decide) (by decide) rfl
theorem l1_2 {F : Nat} (hF : F = 4 ∨ F = 5) (h0 : 0 ≤ x) (h1 : x < 3) : zexec call rec ((.iaload, m, p) :: k) ls (zi x :: zr F 3 :: st) (zm N I A) = zexec call rec k ls (zi (A F 3 x.toNat) :: st) (zm N I A) := by
  rcases hF with rfl | rfl
  · exact zx_ai (n := 3) kq_4_3 h0 h1
  · exact zx_ai (n := 3) kq_5_3 h0 h1
theorem t1_2 {F : Nat} (hF : F = 4 ∨ F = 5) (h0 : 0 ≤ x) (h1 : x < 3) : zexec call rec ((.iastore, m, p) :: k) ls (zi y :: zi x :: zr F 3 :: st) (zm N I A) = zexec call rec k ls st (zm N I (zuA A F 3 (zset (A F 3) x.toNat y))) := by
  rcases hF with rfl | rfl
  · exact zx_si (n := 3) kq_4_3 h0 h1
  · exact zx_si (n := 3) kq_5_3 h0 h1
theorem n1_2 {F : Nat} (hF : F = 4 ∨ F = 5)  : zexec call rec ((.arraylength, m, p) :: k) ls (zr F 3 :: st) (zm N I A) = zexec call rec k ls (zi 3 :: st) (zm N I A) := by
  rcases hF with rfl | rfl
  · exact zx_ln (n := 3) (kd := 0) kq_4_3 (by decide) (by decide)
  · exact zx_ln (n := 3) (kd := 0) kq_5_3 (by decide) (by decide)
theorem g1_3 {F : Nat} (hF : F = 4 ∨ F = 5)  : zexec call rec ((.getfield ix, m, (1, 3, s)) :: k) ls (zr F 0 :: st) (zm N I A) = zexec call rec k ls (zi (I F 3) :: st) (zm N I A) := by
  rcases hF with rfl | rfl
  · exact zx_gf (c := 1) (n := 4) kq_4_0 (by decide) (by decide) rfl
  · exact zx_gf (c := 1) (n := 4) kq_5_0 (by decide) (by decide) rfl
theorem p1_3 {F : Nat} (hF : F = 4 ∨ F = 5)  : zexec call rec ((.putfield ix, m, (1, 3, 0)) :: k) ls (zi x :: zr F 0 :: st) (zm N I A) = zexec call rec k ls st (zm N (zup I F 3 x) A) := by
  rcases hF with rfl | rfl
  · exact zx_pf (c := 1) (n := 4) kq_4_0 (by decide) (by decide) rfl rfl
  · exact zx_pf (c := 1) (n := 4) kq_5_0 (by decide) (by decide) rfl rfl
theorem g2_0 {J : Nat} (hJ : J = 11 ∨ J = 12 ∨ J = 13)  : zexec call rec ((.getfield ix, m, (2, 0, s)) :: k) ls (zr J 0 :: st) (zm N I A) = zexec call rec k ls (zi (I J 0) :: st) (zm N I A) := by
  rcases hJ with rfl | rfl | rfl
  · exact zx_gf (c := 2) (n := 18) kq_11_0 (by decide) (by decide) rfl
  · exact zx_gf (c := 2) (n := 18) kq_12_0 (by decide) (by decide) rfl
  · exact zx_gf (c := 2) (n := 18) kq_13_0 (by decide) (by decide) rfl
theorem p2_0 {J : Nat} (hJ : J = 11 ∨ J = 12 ∨ J = 13)  : zexec call rec ((.putfield ix, m, (2, 0, 0)) :: k) ls (zi x :: zr J 0 :: st) (zm N I A) = zexec call rec k ls st (zm N (zup I J 0 x) A) := by
  rcases hJ with rfl | rfl | rfl
  · exact zx_pf (c := 2) (n := 18) kq_11_0 (by decide) (by decide) rfl rfl
  · exact zx_pf (c := 2) (n := 18) kq_12_0 (by decide) (by decide) rfl rfl
  · exact zx_pf (c := 2) (n := 18) kq_13_0 (by decide) (by decide) rfl rfl
theorem g2_1 {J : Nat} (hJ : J = 11 ∨ J = 12 ∨ J = 13)  : zexec call rec ((.getfield ix, m, (2, 1, s)) :: k) ls (zr J 0 :: st) (zm N I A) = zexec call rec k ls (zr J 2 :: st) (zm N I A) := by
  rcases hJ with rfl | rfl | rfl
  · exact zx_gf (c := 2) (n := 18) kq_11_0 (by decide) (by decide) rfl
  · exact zx_gf (c := 2) (n := 18) kq_12_0 (by decide) (by decide) rfl
  · exact zx_gf (c := 2) (n := 18) kq_13_0 (by decide) (by decide) rfl
theorem l2_1 {J : Nat} (hJ : J = 11 ∨ J = 12 ∨ J = 13) (h0 : 0 ≤ x) (h1 : x < 8) : zexec call rec ((.iaload, m, p) :: k) ls (zi x :: zr J 2 :: st) (zm N I A) = zexec call rec k ls (zi (A J 2 x.toNat) :: st) (zm N I A) := by
  rcases hJ with rfl | rfl | rfl
  · exact zx_ai (n := 8) kq_11_2 h0 h1
  · exact zx_ai (n := 8) kq_12_2 h0 h1
  · exact zx_ai (n := 8) kq_13_2 h0 h1
theorem t2_1 {J : Nat} (hJ : J = 11 ∨ J = 12 ∨ J = 13) (h0 : 0 ≤ x) (h1 : x < 8) : zexec call rec ((.iastore, m, p) :: k) ls (zi y :: zi x :: zr J 2 :: st) (zm N I A) = zexec call rec k ls st (zm N I (zuA A J 2 (zset (A J 2) x.toNat y))) := by
  rcases hJ with rfl | rfl | rfl
  · exact zx_si (n := 8) kq_11_2 h0 h1
  · exact zx_si (n := 8) kq_12_2 h0 h1
  · exact zx_si (n := 8) kq_13_2 h0 h1
theorem n2_1 {J : Nat} (hJ : J = 11 ∨ J = 12 ∨ J = 13)  : zexec call rec ((.arraylength, m, p) :: k) ls (zr J 2 :: st) (zm N I A) = zexec call rec k ls (zi 8 :: st) (zm N I A) := by
  rcases hJ with rfl | rfl | rfl
  · exact zx_ln (n := 8) (kd := 0) kq_11_2 (by decide) (by decide)
  · exact zx_ln (n := 8) (kd := 0) kq_12_2 (by decide) (by decide)
  · exact zx_ln (n := 8) (kd := 0) kq_13_2 (by decide) (by decide)
theorem g2_2 {J : Nat} (hJ : J = 11 ∨ J = 12 ∨ J = 13)  : zexec call rec ((.getfield ix, m, (2, 2, s)) :: k) ls (zr J 0 :: st) (zm N I A) = zexec call rec k ls (zr J 3 :: st) (zm N I A) := by
  rcases hJ with rfl | rfl | rfl
  · exact zx_gf (c := 2) (n := 18) kq_11_0 (by decide) (by decide) rfl
  · exact zx_gf (c := 2) (n := 18) kq_12_0 (by decide) (by decide) rfl
  · exact zx_gf (c := 2) (n := 18) kq_13_0 (by decide) (by decide) rfl
theorem l2_2 {J : Nat} (hJ : J = 11 ∨ J = 12 ∨ J = 13) (h0 : 0 ≤ x) (h1 : x < 8) : zexec call rec ((.baload, m, p) :: k) ls (zi x :: zr J 3 :: st) (zm N I A) = zexec call rec k ls (zi (A J 3 x.toNat) :: st) (zm N I A) := by
  rcases hJ with rfl | rfl | rfl
  · exact zx_ab (n := 8) (kd := 1) kq_11_3 (by decide) h0 h1
  · exact zx_ab (n := 8) (kd := 1) kq_12_3 (by decide) h0 h1
  · exact zx_ab (n := 8) (kd := 1) kq_13_3 (by decide) h0 h1
theorem t2_2 {J : Nat} (hJ : J = 11 ∨ J = 12 ∨ J = 13) (h0 : 0 ≤ x) (h1 : x < 8) (hy : y = 0 ∨ y = 1) : zexec call rec ((.bastore, m, p) :: k) ls (zi y :: zi x :: zr J 3 :: st) (zm N I A) = zexec call rec k ls st (zm N I (zuA A J 3 (zset (A J 3) x.toNat y))) := by
  rcases hJ with rfl | rfl | rfl
  · exact zx_sb (n := 8) kq_11_3 h0 h1 hy
  · exact zx_sb (n := 8) kq_12_3 h0 h1 hy
  · exact zx_sb (n := 8) kq_13_3 h0 h1 hy
theorem n2_2 {J : Nat} (hJ : J = 11 ∨ J = 12 ∨ J = 13)  : zexec call rec ((.arraylength, m, p) :: k) ls (zr J 3 :: st) (zm N I A) = zexec call rec k ls (zi 8 :: st) (zm N I A) := by
  rcases hJ with rfl | rfl | rfl
  · exact zx_ln (n := 8) (kd := 1) kq_11_3 (by decide) (by decide)
  · exact zx_ln (n := 8) (kd := 1) kq_12_3 (by decide) (by decide)
  · exact zx_ln (n := 8) (kd := 1) kq_13_3 (by decide) (by decide)
theorem g2_3 {J : Nat} (hJ : J = 11 ∨ J = 12 ∨ J = 13)  : zexec call rec ((.getfield ix, m, (2, 3, s)) :: k) ls (zr J 0 :: st) (zm N I A) = zexec call rec k ls (zr J 4 :: st) (zm N I A) := by
  rcases hJ with rfl | rfl | rfl
  · exact zx_gf (c := 2) (n := 18) kq_11_0 (by decide) (by decide) rfl
  · exact zx_gf (c := 2) (n := 18) kq_12_0 (by decide) (by decide) rfl
  · exact zx_gf (c := 2) (n := 18) kq_13_0 (by decide) (by decide) rfl
theorem l2_3 {J : Nat} (hJ : J = 11 ∨ J = 12 ∨ J = 13) (h0 : 0 ≤ x) (h1 : x < 4) : zexec call rec ((.iaload, m, p) :: k) ls (zi x :: zr J 4 :: st) (zm N I A) = zexec call rec k ls (zi (A J 4 x.toNat) :: st) (zm N I A) := by
  rcases hJ with rfl | rfl | rfl
  · exact zx_ai (n := 4) kq_11_4 h0 h1
  · exact zx_ai (n := 4) kq_12_4 h0 h1
  · exact zx_ai (n := 4) kq_13_4 h0 h1
theorem t2_3 {J : Nat} (hJ : J = 11 ∨ J = 12 ∨ J = 13) (h0 : 0 ≤ x) (h1 : x < 4) : zexec call rec ((.iastore, m, p) :: k) ls (zi y :: zi x :: zr J 4 :: st) (zm N I A) = zexec call rec k ls st (zm N I (zuA A J 4 (zset (A J 4) x.toNat y))) := by
  rcases hJ with rfl | rfl | rfl
  · exact zx_si (n := 4) kq_11_4 h0 h1
  · exact zx_si (n := 4) kq_12_4 h0 h1
  · exact zx_si (n := 4) kq_13_4 h0 h1
theorem n2_3 {J : Nat} (hJ : J = 11 ∨ J = 12 ∨ J = 13)  : zexec call rec ((.arraylength, m, p) :: k) ls (zr J 4 :: st) (zm N I A) = zexec call rec k ls (zi 4 :: st) (zm N I A) := by
  rcases hJ with rfl | rfl | rfl
  · exact zx_ln (n := 4) (kd := 0) kq_11_4 (by decide) (by decide)
  · exact zx_ln (n := 4) (kd := 0) kq_12_4 (by decide) (by decide)
  · exact zx_ln (n := 4) (kd := 0) kq_13_4 (by decide) (by decide)
theorem g2_4 {J : Nat} (hJ : J = 11 ∨ J = 12 ∨ J = 13)  : zexec call rec ((.getfield ix, m, (2, 4, s)) :: k) ls (zr J 0 :: st) (zm N I A) = zexec call rec k ls (zr J 5 :: st) (zm N I A) := by
  rcases hJ with rfl | rfl | rfl
  · exact zx_gf (c := 2) (n := 18) kq_11_0 (by decide) (by decide) rfl
  · exact zx_gf (c := 2) (n := 18) kq_12_0 (by decide) (by decide) rfl
  · exact zx_gf (c := 2) (n := 18) kq_13_0 (by decide) (by decide) rfl
theorem l2_4 {J : Nat} (hJ : J = 11 ∨ J = 12 ∨ J = 13) (h0 : 0 ≤ x) (h1 : x < 4) : zexec call rec ((.baload, m, p) :: k) ls (zi x :: zr J 5 :: st) (zm N I A) = zexec call rec k ls (zi (A J 5 x.toNat) :: st) (zm N I A) := by
  rcases hJ with rfl | rfl | rfl
  · exact zx_ab (n := 4) (kd := 1) kq_11_5 (by decide) h0 h1
  · exact zx_ab (n := 4) (kd := 1) kq_12_5 (by decide) h0 h1
  · exact zx_ab (n := 4) (kd := 1) kq_13_5 (by decide) h0 h1
theorem t2_4 {J : Nat} (hJ : J = 11 ∨ J = 12 ∨ J = 13) (h0 : 0 ≤ x) (h1 : x < 4) (hy : y = 0 ∨ y = 1) : zexec call rec ((.bastore, m, p) :: k) ls (zi y :: zi x :: zr J 5 :: st) (zm N I A) = zexec call rec k ls st (zm N I (zuA A J 5 (zset (A J 5) x.toNat y))) := by
  rcases hJ with rfl | rfl | rfl
  · exact zx_sb (n := 4) kq_11_5 h0 h1 hy
  · exact zx_sb (n := 4) kq_12_5 h0 h1 hy
  · exact zx_sb (n := 4) kq_13_5 h0 h1 hy
theorem n2_4 {J : Nat} (hJ : J = 11 ∨ J = 12 ∨ J = 13)  : zexec call rec ((.arraylength, m, p) :: k) ls (zr J 5 :: st) (zm N I A) = zexec call rec k ls (zi 4 :: st) (zm N I A) := by
  rcases hJ with rfl | rfl | rfl
  · exact zx_ln (n := 4) (kd := 1) kq_11_5 (by decide) (by decide)
  · exact zx_ln (n := 4) (kd := 1) kq_12_5 (by decide) (by decide)
  · exact zx_ln (n := 4) (kd := 1) kq_13_5 (by decide) (by decide)
theorem g2_5 {J : Nat} (hJ : J = 11 ∨ J = 12 ∨ J = 13)  : zexec call rec ((.getfield ix, m, (2, 5, s)) :: k) ls (zr J 0 :: st) (zm N I A) = zexec call rec k ls (zi (I J 5) :: st) (zm N I A) := by
  rcases hJ with rfl | rfl | rfl
  · exact zx_gf (c := 2) (n := 18) kq_11_0 (by decide) (by decide) rfl
  · exact zx_gf (c := 2) (n := 18) kq_12_0 (by decide) (by decide) rfl
  · exact zx_gf (c := 2) (n := 18) kq_13_0 (by decide) (by decide) rfl
theorem p2_5 {J : Nat} (hJ : J = 11 ∨ J = 12 ∨ J = 13)  : zexec call rec ((.putfield ix, m, (2, 5, 0)) :: k) ls (zi x :: zr J 0 :: st) (zm N I A) = zexec call rec k ls st (zm N (zup I J 5 x) A) := by
  rcases hJ with rfl | rfl | rfl
  · exact zx_pf (c := 2) (n := 18) kq_11_0 (by decide) (by decide) rfl rfl
  · exact zx_pf (c := 2) (n := 18) kq_12_0 (by decide) (by decide) rfl rfl
  · exact zx_pf (c := 2) (n := 18) kq_13_0 (by decide) (by decide) rfl rfl
theorem g2_6 {J : Nat} (hJ : J = 11 ∨ J = 12 ∨ J = 13)  : zexec call rec ((.getfield ix, m, (2, 6, s)) :: k) ls (zr J 0 :: st) (zm N I A) = zexec call rec k ls (zi (I J 6) :: st) (zm N I A) := by
  rcases hJ with rfl | rfl | rfl
  · exact zx_gf (c := 2) (n := 18) kq_11_0 (by decide) (by decide) rfl
  · exact zx_gf (c := 2) (n := 18) kq_12_0 (by decide) (by decide) rfl
  · exact zx_gf (c := 2) (n := 18) kq_13_0 (by decide) (by decide) rfl
theorem p2_6 {J : Nat} (hJ : J = 11 ∨ J = 12 ∨ J = 13)  : zexec call rec ((.putfield ix, m, (2, 6, 0)) :: k) ls (zi x :: zr J 0 :: st) (zm N I A) = zexec call rec k ls st (zm N (zup I J 6 x) A) := by
  rcases hJ with rfl | rfl | rfl
  · exact zx_pf (c := 2) (n := 18) kq_11_0 (by decide) (by decide) rfl rfl
  · exact zx_pf (c := 2) (n := 18) kq_12_0 (by decide) (by decide) rfl rfl
  · exact zx_pf (c := 2) (n := 18) kq_13_0 (by decide) (by decide) rfl rfl
theorem g2_7 {J : Nat} (hJ : J = 11 ∨ J = 12 ∨ J = 13)  : zexec call rec ((.getfield ix, m, (2, 7, s)) :: k) ls (zr J 0 :: st) (zm N I A) = zexec call rec k ls (zi (I J 7) :: st) (zm N I A) := by
  rcases hJ with rfl | rfl | rfl
  · exact zx_gf (c := 2) (n := 18) kq_11_0 (by decide) (by decide) rfl
  · exact zx_gf (c := 2) (n := 18) kq_12_0 (by decide) (by decide) rfl
  · exact zx_gf (c := 2) (n := 18) kq_13_0 (by decide) (by decide) rfl
theorem p2_7 {J : Nat} (hJ : J = 11 ∨ J = 12 ∨ J = 13)  : zexec call rec ((.putfield ix, m, (2, 7, 0)) :: k) ls (zi x :: zr J 0 :: st) (zm N I A) = zexec call rec k ls st (zm N (zup I J 7 x) A) := by
  rcases hJ with rfl | rfl | rfl
  · exact zx_pf (c := 2) (n := 18) kq_11_0 (by decide) (by decide) rfl rfl
  · exact zx_pf (c := 2) (n := 18) kq_12_0 (by decide) (by decide) rfl rfl
  · exact zx_pf (c := 2) (n := 18) kq_13_0 (by decide) (by decide) rfl rfl
theorem g2_8 {J : Nat} (hJ : J = 11 ∨ J = 12 ∨ J = 13)  : zexec call rec ((.getfield ix, m, (2, 8, s)) :: k) ls (zr J 0 :: st) (zm N I A) = zexec call rec k ls (zi (I J 8) :: st) (zm N I A) := by
  rcases hJ with rfl | rfl | rfl
  · exact zx_gf (c := 2) (n := 18) kq_11_0 (by decide) (by decide) rfl
  · exact zx_gf (c := 2) (n := 18) kq_12_0 (by decide) (by decide) rfl
  · exact zx_gf (c := 2) (n := 18) kq_13_0 (by decide) (by decide) rfl
theorem p2_8 {J : Nat} (hJ : J = 11 ∨ J = 12 ∨ J = 13)  : zexec call rec ((.putfield ix, m, (2, 8, 0)) :: k) ls (zi x :: zr J 0 :: st) (zm N I A) = zexec call rec k ls st (zm N (zup I J 8 x) A) := by
  rcases hJ with rfl | rfl | rfl
  · exact zx_pf (c := 2) (n := 18) kq_11_0 (by decide) (by decide) rfl rfl
  · exact zx_pf (c := 2) (n := 18) kq_12_0 (by decide) (by decide) rfl rfl
  · exact zx_pf (c := 2) (n := 18) kq_13_0 (by decide) (by decide) rfl rfl
theorem g2_9 {J : Nat} (hJ : J = 11 ∨ J = 12 ∨ J = 13)  : zexec call rec ((.getfield ix, m, (2, 9, s)) :: k) ls (zr J 0 :: st) (zm N I A) = zexec call rec k ls (zi (I J 9) :: st) (zm N I A) := by
  rcases hJ with rfl | rfl | rfl
  · exact zx_gf (c := 2) (n := 18) kq_11_0 (by decide) (by decide) rfl
  · exact zx_gf (c := 2) (n := 18) kq_12_0 (by decide) (by decide) rfl
  · exact zx_gf (c := 2) (n := 18) kq_13_0 (by decide) (by decide) rfl
theorem p2_9 {J : Nat} (hJ : J = 11 ∨ J = 12 ∨ J = 13)  : zexec call rec ((.putfield ix, m, (2, 9, 0)) :: k) ls (zi x :: zr J 0 :: st) (zm N I A) = zexec call rec k ls st (zm N (zup I J 9 x) A) := by
  rcases hJ with rfl | rfl | rfl
  · exact zx_pf (c := 2) (n := 18) kq_11_0 (by decide) (by decide) rfl rfl
  · exact zx_pf (c := 2) (n := 18) kq_12_0 (by decide) (by decide) rfl rfl
  · exact zx_pf (c := 2) (n := 18) kq_13_0 (by decide) (by decide) rfl rfl
theorem g2_10 {J : Nat} (hJ : J = 11 ∨ J = 12 ∨ J = 13)  : zexec call rec ((.getfield ix, m, (2, 10, s)) :: k) ls (zr J 0 :: st) (zm N I A) = zexec call rec k ls (zi (I J 10) :: st) (zm N I A) := by
  rcases hJ with rfl | rfl | rfl
  · exact zx_gf (c := 2) (n := 18) kq_11_0 (by decide) (by decide) rfl
  · exact zx_gf (c := 2) (n := 18) kq_12_0 (by decide) (by decide) rfl
  · exact zx_gf (c := 2) (n := 18) kq_13_0 (by decide) (by decide) rfl
theorem p2_10 {J : Nat} (hJ : J = 11 ∨ J = 12 ∨ J = 13)  : zexec call rec ((.putfield ix, m, (2, 10, 0)) :: k) ls (zi x :: zr J 0 :: st) (zm N I A) = zexec call rec k ls st (zm N (zup I J 10 x) A) := by
  rcases hJ with rfl | rfl | rfl
  · exact zx_pf (c := 2) (n := 18) kq_11_0 (by decide) (by decide) rfl rfl
  · exact zx_pf (c := 2) (n := 18) kq_12_0 (by decide) (by decide) rfl rfl
  · exact zx_pf (c := 2) (n := 18) kq_13_0 (by decide) (by decide) rfl rfl
theorem g2_11 {J : Nat} (hJ : J = 11 ∨ J = 12 ∨ J = 13)  : zexec call rec ((.getfield ix, m, (2, 11, s)) :: k) ls (zr J 0 :: st) (zm N I A) = zexec call rec k ls (zi (I J 11) :: st) (zm N I A) := by
  rcases hJ with rfl | rfl | rfl
  · exact zx_gf (c := 2) (n := 18) kq_11_0 (by decide) (by decide) rfl
  · exact zx_gf (c := 2) (n := 18) kq_12_0 (by decide) (by decide) rfl
  · exact zx_gf (c := 2) (n := 18) kq_13_0 (by decide) (by decide) rfl
theorem p2_11 {J : Nat} (hJ : J = 11 ∨ J = 12 ∨ J = 13)  : zexec call rec ((.putfield ix, m, (2, 11, 0)) :: k) ls (zi x :: zr J 0 :: st) (zm N I A) = zexec call rec k ls st (zm N (zup I J 11 x) A) := by
  rcases hJ with rfl | rfl | rfl
  · exact zx_pf (c := 2) (n := 18) kq_11_0 (by decide) (by decide) rfl rfl
  · exact zx_pf (c := 2) (n := 18) kq_12_0 (by decide) (by decide) rfl rfl
  · exact zx_pf (c := 2) (n := 18) kq_13_0 (by decide) (by decide) rfl rfl
theorem g2_12 {J : Nat} (hJ : J = 11 ∨ J = 12 ∨ J = 13)  : zexec call rec ((.getfield ix, m, (2, 12, s)) :: k) ls (zr J 0 :: st) (zm N I A) = zexec call rec k ls (zi (I J 12) :: st) (zm N I A) := by
  rcases hJ with rfl | rfl | rfl
  · exact zx_gf (c := 2) (n := 18) kq_11_0 (by decide) (by decide) rfl
  · exact zx_gf (c := 2) (n := 18) kq_12_0 (by decide) (by decide) rfl
  · exact zx_gf (c := 2) (n := 18) kq_13_0 (by decide) (by decide) rfl
theorem p2_12 {J : Nat} (hJ : J = 11 ∨ J = 12 ∨ J = 13)  : zexec call rec ((.putfield ix, m, (2, 12, 0)) :: k) ls (zi x :: zr J 0 :: st) (zm N I A) = zexec call rec k ls st (zm N (zup I J 12 x) A) := by
  rcases hJ with rfl | rfl | rfl
  · exact zx_pf (c := 2) (n := 18) kq_11_0 (by decide) (by decide) rfl rfl
  · exact zx_pf (c := 2) (n := 18) kq_12_0 (by decide) (by decide) rfl rfl
  · exact zx_pf (c := 2) (n := 18) kq_13_0 (by decide) (by decide) rfl rfl
theorem g2_13 {J : Nat} (hJ : J = 11 ∨ J = 12 ∨ J = 13)  : zexec call rec ((.getfield ix, m, (2, 13, s)) :: k) ls (zr J 0 :: st) (zm N I A) = zexec call rec k ls (zr J 14 :: st) (zm N I A) := by
  rcases hJ with rfl | rfl | rfl
  · exact zx_gf (c := 2) (n := 18) kq_11_0 (by decide) (by decide) rfl
  · exact zx_gf (c := 2) (n := 18) kq_12_0 (by decide) (by decide) rfl
  · exact zx_gf (c := 2) (n := 18) kq_13_0 (by decide) (by decide) rfl
theorem l2_13 {J : Nat} (hJ : J = 11 ∨ J = 12 ∨ J = 13) (h0 : 0 ≤ x) (h1 : x < 60) : zexec call rec ((.iaload, m, p) :: k) ls (zi x :: zr J 14 :: st) (zm N I A) = zexec call rec k ls (zi (A J 14 x.toNat) :: st) (zm N I A) := by
  rcases hJ with rfl | rfl | rfl
  · exact zx_ai (n := 60) kq_11_14 h0 h1
  · exact zx_ai (n := 60) kq_12_14 h0 h1
  · exact zx_ai (n := 60) kq_13_14 h0 h1
theorem t2_13 {J : Nat} (hJ : J = 11 ∨ J = 12 ∨ J = 13) (h0 : 0 ≤ x) (h1 : x < 60) : zexec call rec ((.iastore, m, p) :: k) ls (zi y :: zi x :: zr J 14 :: st) (zm N I A) = zexec call rec k ls st (zm N I (zuA A J 14 (zset (A J 14) x.toNat y))) := by
  rcases hJ with rfl | rfl | rfl
  · exact zx_si (n := 60) kq_11_14 h0 h1
  · exact zx_si (n := 60) kq_12_14 h0 h1
  · exact zx_si (n := 60) kq_13_14 h0 h1
theorem n2_13 {J : Nat} (hJ : J = 11 ∨ J = 12 ∨ J = 13)  : zexec call rec ((.arraylength, m, p) :: k) ls (zr J 14 :: st) (zm N I A) = zexec call rec k ls (zi 60 :: st) (zm N I A) := by
  rcases hJ with rfl | rfl | rfl
  · exact zx_ln (n := 60) (kd := 0) kq_11_14 (by decide) (by decide)
  · exact zx_ln (n := 60) (kd := 0) kq_12_14 (by decide) (by decide)
  · exact zx_ln (n := 60) (kd := 0) kq_13_14 (by decide) (by decide)
theorem g2_14 {J : Nat} (hJ : J = 11 ∨ J = 12 ∨ J = 13)  : zexec call rec ((.getfield ix, m, (2, 14, s)) :: k) ls (zr J 0 :: st) (zm N I A) = zexec call rec k ls (zr J 15 :: st) (zm N I A) := by
  rcases hJ with rfl | rfl | rfl
  · exact zx_gf (c := 2) (n := 18) kq_11_0 (by decide) (by decide) rfl
  · exact zx_gf (c := 2) (n := 18) kq_12_0 (by decide) (by decide) rfl
  · exact zx_gf (c := 2) (n := 18) kq_13_0 (by decide) (by decide) rfl
theorem l2_14 {J : Nat} (hJ : J = 11 ∨ J = 12 ∨ J = 13) (h0 : 0 ≤ x) (h1 : x < 10) : zexec call rec ((.iaload, m, p) :: k) ls (zi x :: zr J 15 :: st) (zm N I A) = zexec call rec k ls (zi (A J 15 x.toNat) :: st) (zm N I A) := by
  rcases hJ with rfl | rfl | rfl
  · exact zx_ai (n := 10) kq_11_15 h0 h1
  · exact zx_ai (n := 10) kq_12_15 h0 h1
  · exact zx_ai (n := 10) kq_13_15 h0 h1
theorem t2_14 {J : Nat} (hJ : J = 11 ∨ J = 12 ∨ J = 13) (h0 : 0 ≤ x) (h1 : x < 10) : zexec call rec ((.iastore, m, p) :: k) ls (zi y :: zi x :: zr J 15 :: st) (zm N I A) = zexec call rec k ls st (zm N I (zuA A J 15 (zset (A J 15) x.toNat y))) := by
  rcases hJ with rfl | rfl | rfl
  · exact zx_si (n := 10) kq_11_15 h0 h1
  · exact zx_si (n := 10) kq_12_15 h0 h1
  · exact zx_si (n := 10) kq_13_15 h0 h1
theorem n2_14 {J : Nat} (hJ : J = 11 ∨ J = 12 ∨ J = 13)  : zexec call rec ((.arraylength, m, p) :: k) ls (zr J 15 :: st) (zm N I A) = zexec call rec k ls (zi 10 :: st) (zm N I A) := by
  rcases hJ with rfl | rfl | rfl
  · exact zx_ln (n := 10) (kd := 0) kq_11_15 (by decide) (by decide)
  · exact zx_ln (n := 10) (kd := 0) kq_12_15 (by decide) (by decide)
  · exact zx_ln (n := 10) (kd := 0) kq_13_15 (by decide) (by decide)
theorem g2_15 {J : Nat} (hJ : J = 11 ∨ J = 12 ∨ J = 13)  : zexec call rec ((.getfield ix, m, (2, 15, s)) :: k) ls (zr J 0 :: st) (zm N I A) = zexec call rec k ls (zr J 16 :: st) (zm N I A) := by
  rcases hJ with rfl | rfl | rfl
  · exact zx_gf (c := 2) (n := 18) kq_11_0 (by decide) (by decide) rfl
  · exact zx_gf (c := 2) (n := 18) kq_12_0 (by decide) (by decide) rfl
  · exact zx_gf (c := 2) (n := 18) kq_13_0 (by decide) (by decide) rfl
theorem l2_15 {J : Nat} (hJ : J = 11 ∨ J = 12 ∨ J = 13) (h0 : 0 ≤ x) (h1 : x < 10) : zexec call rec ((.iaload, m, p) :: k) ls (zi x :: zr J 16 :: st) (zm N I A) = zexec call rec k ls (zi (A J 16 x.toNat) :: st) (zm N I A) := by
  rcases hJ with rfl | rfl | rfl
  · exact zx_ai (n := 10) kq_11_16 h0 h1
  · exact zx_ai (n := 10) kq_12_16 h0 h1
  · exact zx_ai (n := 10) kq_13_16 h0 h1
theorem t2_15 {J : Nat} (hJ : J = 11 ∨ J = 12 ∨ J = 13) (h0 : 0 ≤ x) (h1 : x < 10) : zexec call rec ((.iastore, m, p) :: k) ls (zi y :: zi x :: zr J 16 :: st) (zm N I A) = zexec call rec k ls st (zm N I (zuA A J 16 (zset (A J 16) x.toNat y))) := by
  rcases hJ with rfl | rfl | rfl
  · exact zx_si (n := 10) kq_11_16 h0 h1
  · exact zx_si (n := 10) kq_12_16 h0 h1
  · exact zx_si (n := 10) kq_13_16 h0 h1
theorem n2_15 {J : Nat} (hJ : J = 11 ∨ J = 12 ∨ J = 13)  : zexec call rec ((.arraylength, m, p) :: k) ls (zr J 16 :: st) (zm N I A) = zexec call rec k ls (zi 10 :: st) (zm N I A) := by
  rcases hJ with rfl | rfl | rfl
  · exact zx_ln (n := 10) (kd := 0) kq_11_16 (by decide) (by decide)
  · exact zx_ln (n := 10) (kd := 0) kq_12_16 (by decide) (by decide)
  · exact zx_ln (n := 10) (kd := 0) kq_13_16 (by decide) (by decide)
theorem g2_16 {J : Nat} (hJ : J = 11 ∨ J = 12 ∨ J = 13)  : zexec call rec ((.getfield ix, m, (2, 16, s)) :: k) ls (zr J 0 :: st) (zm N I A) = zexec call rec k ls (zr J 17 :: st) (zm N I A) := by
  rcases hJ with rfl | rfl | rfl
  · exact zx_gf (c := 2) (n := 18) kq_11_0 (by decide) (by decide) rfl
  · exact zx_gf (c := 2) (n := 18) kq_12_0 (by decide) (by decide) rfl
  · exact zx_gf (c := 2) (n := 18) kq_13_0 (by decide) (by decide) rfl
theorem l2_16 {J : Nat} (hJ : J = 11 ∨ J = 12 ∨ J = 13) (h0 : 0 ≤ x) (h1 : x < 10) : zexec call rec ((.iaload, m, p) :: k) ls (zi x :: zr J 17 :: st) (zm N I A) = zexec call rec k ls (zi (A J 17 x.toNat) :: st) (zm N I A) := by
  rcases hJ with rfl | rfl | rfl
  · exact zx_ai (n := 10) kq_11_17 h0 h1
  · exact zx_ai (n := 10) kq_12_17 h0 h1
  · exact zx_ai (n := 10) kq_13_17 h0 h1
theorem t2_16 {J : Nat} (hJ : J = 11 ∨ J = 12 ∨ J = 13) (h0 : 0 ≤ x) (h1 : x < 10) : zexec call rec ((.iastore, m, p) :: k) ls (zi y :: zi x :: zr J 17 :: st) (zm N I A) = zexec call rec k ls st (zm N I (zuA A J 17 (zset (A J 17) x.toNat y))) := by
  rcases hJ with rfl | rfl | rfl
  · exact zx_si (n := 10) kq_11_17 h0 h1
  · exact zx_si (n := 10) kq_12_17 h0 h1
  · exact zx_si (n := 10) kq_13_17 h0 h1
theorem n2_16 {J : Nat} (hJ : J = 11 ∨ J = 12 ∨ J = 13)  : zexec call rec ((.arraylength, m, p) :: k) ls (zr J 17 :: st) (zm N I A) = zexec call rec k ls (zi 10 :: st) (zm N I A) := by
  rcases hJ with rfl | rfl | rfl
  · exact zx_ln (n := 10) (kd := 0) kq_11_17 (by decide) (by decide)
  · exact zx_ln (n := 10) (kd := 0) kq_12_17 (by decide) (by decide)
  · exact zx_ln (n := 10) (kd := 0) kq_13_17 (by decide) (by decide)
theorem g2_17 {J : Nat} (hJ : J = 11 ∨ J = 12 ∨ J = 13)  : zexec call rec ((.getfield ix, m, (2, 17, s)) :: k) ls (zr J 0 :: st) (zm N I A) = zexec call rec k ls (zr J 18 :: st) (zm N I A) := by
  rcases hJ with rfl | rfl | rfl
  · exact zx_gf (c := 2) (n := 18) kq_11_0 (by decide) (by decide) rfl
  · exact zx_gf (c := 2) (n := 18) kq_12_0 (by decide) (by decide) rfl
  · exact zx_gf (c := 2) (n := 18) kq_13_0 (by decide) (by decide) rfl
theorem l2_17 {J : Nat} (hJ : J = 11 ∨ J = 12 ∨ J = 13) (h0 : 0 ≤ x) (h1 : x < 10) : zexec call rec ((.baload, m, p) :: k) ls (zi x :: zr J 18 :: st) (zm N I A) = zexec call rec k ls (zi (A J 18 x.toNat) :: st) (zm N I A) := by
  rcases hJ with rfl | rfl | rfl
  · exact zx_ab (n := 10) (kd := 1) kq_11_18 (by decide) h0 h1
  · exact zx_ab (n := 10) (kd := 1) kq_12_18 (by decide) h0 h1
  · exact zx_ab (n := 10) (kd := 1) kq_13_18 (by decide) h0 h1
theorem t2_17 {J : Nat} (hJ : J = 11 ∨ J = 12 ∨ J = 13) (h0 : 0 ≤ x) (h1 : x < 10) (hy : y = 0 ∨ y = 1) : zexec call rec ((.bastore, m, p) :: k) ls (zi y :: zi x :: zr J 18 :: st) (zm N I A) = zexec call rec k ls st (zm N I (zuA A J 18 (zset (A J 18) x.toNat y))) := by
  rcases hJ with rfl | rfl | rfl
  · exact zx_sb (n := 10) kq_11_18 h0 h1 hy
  · exact zx_sb (n := 10) kq_12_18 h0 h1 hy
  · exact zx_sb (n := 10) kq_13_18 h0 h1 hy
theorem n2_17 {J : Nat} (hJ : J = 11 ∨ J = 12 ∨ J = 13)  : zexec call rec ((.arraylength, m, p) :: k) ls (zr J 18 :: st) (zm N I A) = zexec call rec k ls (zi 10 :: st) (zm N I A) := by
  rcases hJ with rfl | rfl | rfl
  · exact zx_ln (n := 10) (kd := 1) kq_11_18 (by decide) (by decide)
  · exact zx_ln (n := 10) (kd := 1) kq_12_18 (by decide) (by decide)
  · exact zx_ln (n := 10) (kd := 1) kq_13_18 (by decide) (by decide)
theorem g3_0  : zexec call rec ((.getfield ix, m, (3, 0, s)) :: k) ls (zr 16 0 :: st) (zm N I A) = zexec call rec k ls (zi (I 16 0) :: st) (zm N I A) := zx_gf (c := 3) (n := 5) kq_16_0 (by decide) (by decide) rfl
theorem p3_0 (hx : x = 0 ∨ x = 1) : zexec call rec ((.putfield ix, m, (3, 0, 1)) :: k) ls (zi x :: zr 16 0 :: st) (zm N I A) = zexec call rec k ls st (zm N (zup I 16 0 x) A) := zx_pfb (c := 3) (n := 5) kq_16_0 (by decide) (by decide) rfl rfl hx
theorem g3_1  : zexec call rec ((.getfield ix, m, (3, 1, s)) :: k) ls (zr 16 0 :: st) (zm N I A) = zexec call rec k ls (zi (I 16 1) :: st) (zm N I A) := zx_gf (c := 3) (n := 5) kq_16_0 (by decide) (by decide) rfl
theorem p3_1  : zexec call rec ((.putfield ix, m, (3, 1, 0)) :: k) ls (zi x :: zr 16 0 :: st) (zm N I A) = zexec call rec k ls st (zm N (zup I 16 1 x) A) := zx_pf (c := 3) (n := 5) kq_16_0 (by decide) (by decide) rfl rfl
theorem g3_2  : zexec call rec ((.getfield ix, m, (3, 2, s)) :: k) ls (zr 16 0 :: st) (zm N I A) = zexec call rec k ls (zi (I 16 2) :: st) (zm N I A) := zx_gf (c := 3) (n := 5) kq_16_0 (by decide) (by decide) rfl
theorem p3_2  : zexec call rec ((.putfield ix, m, (3, 2, 0)) :: k) ls (zi x :: zr 16 0 :: st) (zm N I A) = zexec call rec k ls st (zm N (zup I 16 2 x) A) := zx_pf (c := 3) (n := 5) kq_16_0 (by decide) (by decide) rfl rfl
theorem g3_3  : zexec call rec ((.getfield ix, m, (3, 3, s)) :: k) ls (zr 16 0 :: st) (zm N I A) = zexec call rec k ls (zr 16 4 :: st) (zm N I A) := zx_gf (c := 3) (n := 5) kq_16_0 (by decide) (by decide) rfl
theorem l3_3 (h0 : 0 ≤ x) (h1 : x < 320) : zexec call rec ((.iaload, m, p) :: k) ls (zi x :: zr 16 4 :: st) (zm N I A) = zexec call rec k ls (zi (A 16 4 x.toNat) :: st) (zm N I A) := zx_ai (n := 320) kq_16_4 h0 h1
theorem t3_3 (h0 : 0 ≤ x) (h1 : x < 320) : zexec call rec ((.iastore, m, p) :: k) ls (zi y :: zi x :: zr 16 4 :: st) (zm N I A) = zexec call rec k ls st (zm N I (zuA A 16 4 (zset (A 16 4) x.toNat y))) := zx_si (n := 320) kq_16_4 h0 h1
theorem n3_3  : zexec call rec ((.arraylength, m, p) :: k) ls (zr 16 4 :: st) (zm N I A) = zexec call rec k ls (zi 320 :: st) (zm N I A) := zx_ln (n := 320) (kd := 0) kq_16_4 (by decide) (by decide)
theorem g3_4  : zexec call rec ((.getfield ix, m, (3, 4, s)) :: k) ls (zr 16 0 :: st) (zm N I A) = zexec call rec k ls (zr 16 5 :: st) (zm N I A) := zx_gf (c := 3) (n := 5) kq_16_0 (by decide) (by decide) rfl
theorem l3_4 (h0 : 0 ≤ x) (h1 : x < 3721) : zexec call rec ((.iaload, m, p) :: k) ls (zi x :: zr 16 5 :: st) (zm N I A) = zexec call rec k ls (zi (A 16 5 x.toNat) :: st) (zm N I A) := zx_ai (n := 3721) kq_16_5 h0 h1
theorem t3_4 (h0 : 0 ≤ x) (h1 : x < 3721) : zexec call rec ((.iastore, m, p) :: k) ls (zi y :: zi x :: zr 16 5 :: st) (zm N I A) = zexec call rec k ls st (zm N I (zuA A 16 5 (zset (A 16 5) x.toNat y))) := zx_si (n := 3721) kq_16_5 h0 h1
theorem n3_4  : zexec call rec ((.arraylength, m, p) :: k) ls (zr 16 5 :: st) (zm N I A) = zexec call rec k ls (zi 3721 :: st) (zm N I A) := zx_ln (n := 3721) (kd := 0) kq_16_5 (by decide) (by decide)
theorem g4_0  : zexec call rec ((.getfield ix, m, (4, 0, s)) :: k) ls (zr 18 0 :: st) (zm N I A) = zexec call rec k ls (zr 18 1 :: st) (zm N I A) := zx_gf (c := 4) (n := 3) kq_18_0 (by decide) (by decide) rfl
theorem n4_0  : zexec call rec ((.arraylength, m, p) :: k) ls (zr 18 1 :: st) (zm N I A) = zexec call rec k ls (zi 4 :: st) (zm N I A) := zx_ln (n := 4) (kd := 5) kq_18_1 (by decide) (by decide)
theorem g4_1  : zexec call rec ((.getfield ix, m, (4, 1, s)) :: k) ls (zr 18 0 :: st) (zm N I A) = zexec call rec k ls (zr 18 2 :: st) (zm N I A) := zx_gf (c := 4) (n := 3) kq_18_0 (by decide) (by decide) rfl
theorem l4_1 (h0 : 0 ≤ x) (h1 : x < 4) : zexec call rec ((.iaload, m, p) :: k) ls (zi x :: zr 18 2 :: st) (zm N I A) = zexec call rec k ls (zi (A 18 2 x.toNat) :: st) (zm N I A) := zx_ai (n := 4) kq_18_2 h0 h1
theorem t4_1 (h0 : 0 ≤ x) (h1 : x < 4) : zexec call rec ((.iastore, m, p) :: k) ls (zi y :: zi x :: zr 18 2 :: st) (zm N I A) = zexec call rec k ls st (zm N I (zuA A 18 2 (zset (A 18 2) x.toNat y))) := zx_si (n := 4) kq_18_2 h0 h1
theorem n4_1  : zexec call rec ((.arraylength, m, p) :: k) ls (zr 18 2 :: st) (zm N I A) = zexec call rec k ls (zi 4 :: st) (zm N I A) := zx_ln (n := 4) (kd := 0) kq_18_2 (by decide) (by decide)
theorem g4_2  : zexec call rec ((.getfield ix, m, (4, 2, s)) :: k) ls (zr 18 0 :: st) (zm N I A) = zexec call rec k ls (zr 18 3 :: st) (zm N I A) := zx_gf (c := 4) (n := 3) kq_18_0 (by decide) (by decide) rfl
theorem l4_2 (h0 : 0 ≤ x) (h1 : x < 4) : zexec call rec ((.iaload, m, p) :: k) ls (zi x :: zr 18 3 :: st) (zm N I A) = zexec call rec k ls (zi (A 18 3 x.toNat) :: st) (zm N I A) := zx_ai (n := 4) kq_18_3 h0 h1
theorem t4_2 (h0 : 0 ≤ x) (h1 : x < 4) : zexec call rec ((.iastore, m, p) :: k) ls (zi y :: zi x :: zr 18 3 :: st) (zm N I A) = zexec call rec k ls st (zm N I (zuA A 18 3 (zset (A 18 3) x.toNat y))) := zx_si (n := 4) kq_18_3 h0 h1
theorem n4_2  : zexec call rec ((.arraylength, m, p) :: k) ls (zr 18 3 :: st) (zm N I A) = zexec call rec k ls (zi 4 :: st) (zm N I A) := zx_ln (n := 4) (kd := 0) kq_18_3 (by decide) (by decide)
theorem g5_0  : zexec call rec ((.getfield ix, m, (5, 0, s)) :: k) ls (zr 14 0 :: st) (zm N I A) = zexec call rec k ls (zi (I 14 0) :: st) (zm N I A) := zx_gf (c := 5) (n := 14) kq_14_0 (by decide) (by decide) rfl
theorem p5_0 (hx : x = 0 ∨ x = 1) : zexec call rec ((.putfield ix, m, (5, 0, 1)) :: k) ls (zi x :: zr 14 0 :: st) (zm N I A) = zexec call rec k ls st (zm N (zup I 14 0 x) A) := zx_pfb (c := 5) (n := 14) kq_14_0 (by decide) (by decide) rfl rfl hx
theorem g5_1  : zexec call rec ((.getfield ix, m, (5, 1, s)) :: k) ls (zr 14 0 :: st) (zm N I A) = zexec call rec k ls (zi (I 14 1) :: st) (zm N I A) := zx_gf (c := 5) (n := 14) kq_14_0 (by decide) (by decide) rfl
theorem p5_1  : zexec call rec ((.putfield ix, m, (5, 1, 0)) :: k) ls (zi x :: zr 14 0 :: st) (zm N I A) = zexec call rec k ls st (zm N (zup I 14 1 x) A) := zx_pf (c := 5) (n := 14) kq_14_0 (by decide) (by decide) rfl rfl
theorem g5_2  : zexec call rec ((.getfield ix, m, (5, 2, s)) :: k) ls (zr 14 0 :: st) (zm N I A) = zexec call rec k ls (zr 14 3 :: st) (zm N I A) := zx_gf (c := 5) (n := 14) kq_14_0 (by decide) (by decide) rfl
theorem l5_2 (h0 : 0 ≤ x) (h1 : x < 256) : zexec call rec ((.iaload, m, p) :: k) ls (zi x :: zr 14 3 :: st) (zm N I A) = zexec call rec k ls (zi (A 14 3 x.toNat) :: st) (zm N I A) := zx_ai (n := 256) kq_14_3 h0 h1
theorem t5_2 (h0 : 0 ≤ x) (h1 : x < 256) : zexec call rec ((.iastore, m, p) :: k) ls (zi y :: zi x :: zr 14 3 :: st) (zm N I A) = zexec call rec k ls st (zm N I (zuA A 14 3 (zset (A 14 3) x.toNat y))) := zx_si (n := 256) kq_14_3 h0 h1
theorem n5_2  : zexec call rec ((.arraylength, m, p) :: k) ls (zr 14 3 :: st) (zm N I A) = zexec call rec k ls (zi 256 :: st) (zm N I A) := zx_ln (n := 256) (kd := 0) kq_14_3 (by decide) (by decide)
theorem g5_3  : zexec call rec ((.getfield ix, m, (5, 3, s)) :: k) ls (zr 14 0 :: st) (zm N I A) = zexec call rec k ls (zr 14 4 :: st) (zm N I A) := zx_gf (c := 5) (n := 14) kq_14_0 (by decide) (by decide) rfl
theorem l5_3 (h0 : 0 ≤ x) (h1 : x < 65536) : zexec call rec ((.laload, m, p) :: k) ls (zi x :: zr 14 4 :: st) (zm N I A) = zexec call rec k ls (zl (A 14 4 x.toNat) :: st) (zm N I A) := zx_al (n := 65536) kq_14_4 h0 h1
theorem t5_3 (h0 : 0 ≤ x) (h1 : x < 65536) : zexec call rec ((.lastore, m, p) :: k) ls (zl y :: zi x :: zr 14 4 :: st) (zm N I A) = zexec call rec k ls st (zm N I (zuA A 14 4 (zset (A 14 4) x.toNat y))) := zx_sl (n := 65536) kq_14_4 h0 h1
theorem n5_3  : zexec call rec ((.arraylength, m, p) :: k) ls (zr 14 4 :: st) (zm N I A) = zexec call rec k ls (zi 65536 :: st) (zm N I A) := zx_ln (n := 65536) (kd := 3) kq_14_4 (by decide) (by decide)
theorem g5_4  : zexec call rec ((.getfield ix, m, (5, 4, s)) :: k) ls (zr 14 0 :: st) (zm N I A) = zexec call rec k ls (zr 14 5 :: st) (zm N I A) := zx_gf (c := 5) (n := 14) kq_14_0 (by decide) (by decide) rfl
theorem l5_4 (h0 : 0 ≤ x) (h1 : x < 2791) : zexec call rec ((.laload, m, p) :: k) ls (zi x :: zr 14 5 :: st) (zm N I A) = zexec call rec k ls (zl (A 14 5 x.toNat) :: st) (zm N I A) := zx_al (n := 2791) kq_14_5 h0 h1
theorem t5_4 (h0 : 0 ≤ x) (h1 : x < 2791) : zexec call rec ((.lastore, m, p) :: k) ls (zl y :: zi x :: zr 14 5 :: st) (zm N I A) = zexec call rec k ls st (zm N I (zuA A 14 5 (zset (A 14 5) x.toNat y))) := zx_sl (n := 2791) kq_14_5 h0 h1
theorem n5_4  : zexec call rec ((.arraylength, m, p) :: k) ls (zr 14 5 :: st) (zm N I A) = zexec call rec k ls (zi 2791 :: st) (zm N I A) := zx_ln (n := 2791) (kd := 3) kq_14_5 (by decide) (by decide)
theorem g5_5  : zexec call rec ((.getfield ix, m, (5, 5, s)) :: k) ls (zr 14 0 :: st) (zm N I A) = zexec call rec k ls (zi (I 14 5) :: st) (zm N I A) := zx_gf (c := 5) (n := 14) kq_14_0 (by decide) (by decide) rfl
theorem p5_5  : zexec call rec ((.putfield ix, m, (5, 5, 0)) :: k) ls (zi x :: zr 14 0 :: st) (zm N I A) = zexec call rec k ls st (zm N (zup I 14 5 x) A) := zx_pf (c := 5) (n := 14) kq_14_0 (by decide) (by decide) rfl rfl
theorem g5_6  : zexec call rec ((.getfield ix, m, (5, 6, s)) :: k) ls (zr 14 0 :: st) (zm N I A) = zexec call rec k ls (zi (I 14 6) :: st) (zm N I A) := zx_gf (c := 5) (n := 14) kq_14_0 (by decide) (by decide) rfl
theorem p5_6  : zexec call rec ((.putfield ix, m, (5, 6, 0)) :: k) ls (zi x :: zr 14 0 :: st) (zm N I A) = zexec call rec k ls st (zm N (zup I 14 6 x) A) := zx_pf (c := 5) (n := 14) kq_14_0 (by decide) (by decide) rfl rfl
theorem g5_7  : zexec call rec ((.getfield ix, m, (5, 7, s)) :: k) ls (zr 14 0 :: st) (zm N I A) = zexec call rec k ls (zr (I 14 7).toNat 0 :: st) (zm N I A) := zx_gf (c := 5) (n := 14) kq_14_0 (by decide) (by decide) rfl
theorem p5_7  : zexec call rec ((.putfield ix, m, (5, 7, 2)) :: k) ls (zr i9 0 :: zr 14 0 :: st) (zm N I A) = zexec call rec k ls st (zm N (zup I 14 7 i9) A) := zx_pfr (c := 5) (n := 14) kq_14_0 (by decide) (by decide) rfl rfl
theorem g5_8  : zexec call rec ((.getfield ix, m, (5, 8, s)) :: k) ls (zr 14 0 :: st) (zm N I A) = zexec call rec k ls (zi (I 14 8) :: st) (zm N I A) := zx_gf (c := 5) (n := 14) kq_14_0 (by decide) (by decide) rfl
theorem p5_8  : zexec call rec ((.putfield ix, m, (5, 8, 0)) :: k) ls (zi x :: zr 14 0 :: st) (zm N I A) = zexec call rec k ls st (zm N (zup I 14 8 x) A) := zx_pf (c := 5) (n := 14) kq_14_0 (by decide) (by decide) rfl rfl
theorem g5_9  : zexec call rec ((.getfield ix, m, (5, 9, s)) :: k) ls (zr 14 0 :: st) (zm N I A) = zexec call rec k ls (zi (I 14 9) :: st) (zm N I A) := zx_gf (c := 5) (n := 14) kq_14_0 (by decide) (by decide) rfl
theorem p5_9  : zexec call rec ((.putfield ix, m, (5, 9, 0)) :: k) ls (zi x :: zr 14 0 :: st) (zm N I A) = zexec call rec k ls st (zm N (zup I 14 9 x) A) := zx_pf (c := 5) (n := 14) kq_14_0 (by decide) (by decide) rfl rfl
theorem g5_10  : zexec call rec ((.getfield ix, m, (5, 10, s)) :: k) ls (zr 14 0 :: st) (zm N I A) = zexec call rec k ls (zi (I 14 10) :: st) (zm N I A) := zx_gf (c := 5) (n := 14) kq_14_0 (by decide) (by decide) rfl
theorem p5_10  : zexec call rec ((.putfield ix, m, (5, 10, 0)) :: k) ls (zi x :: zr 14 0 :: st) (zm N I A) = zexec call rec k ls st (zm N (zup I 14 10 x) A) := zx_pf (c := 5) (n := 14) kq_14_0 (by decide) (by decide) rfl rfl
theorem g5_11  : zexec call rec ((.getfield ix, m, (5, 11, s)) :: k) ls (zr 14 0 :: st) (zm N I A) = zexec call rec k ls (zi (I 14 11) :: st) (zm N I A) := zx_gf (c := 5) (n := 14) kq_14_0 (by decide) (by decide) rfl
theorem p5_11  : zexec call rec ((.putfield ix, m, (5, 11, 0)) :: k) ls (zi x :: zr 14 0 :: st) (zm N I A) = zexec call rec k ls st (zm N (zup I 14 11 x) A) := zx_pf (c := 5) (n := 14) kq_14_0 (by decide) (by decide) rfl rfl
theorem g5_12  : zexec call rec ((.getfield ix, m, (5, 12, s)) :: k) ls (zr 14 0 :: st) (zm N I A) = zexec call rec k ls (zi (I 14 12) :: st) (zm N I A) := zx_gf (c := 5) (n := 14) kq_14_0 (by decide) (by decide) rfl
theorem p5_12  : zexec call rec ((.putfield ix, m, (5, 12, 0)) :: k) ls (zi x :: zr 14 0 :: st) (zm N I A) = zexec call rec k ls st (zm N (zup I 14 12 x) A) := zx_pf (c := 5) (n := 14) kq_14_0 (by decide) (by decide) rfl rfl
theorem g5_13  : zexec call rec ((.getfield ix, m, (5, 13, s)) :: k) ls (zr 14 0 :: st) (zm N I A) = zexec call rec k ls (zi (I 14 13) :: st) (zm N I A) := zx_gf (c := 5) (n := 14) kq_14_0 (by decide) (by decide) rfl
theorem p5_13 (hx : x = 0 ∨ x = 1) : zexec call rec ((.putfield ix, m, (5, 13, 1)) :: k) ls (zi x :: zr 14 0 :: st) (zm N I A) = zexec call rec k ls st (zm N (zup I 14 13 x) A) := zx_pfb (c := 5) (n := 14) kq_14_0 (by decide) (by decide) rfl rfl hx
theorem g6_0  : zexec call rec ((.getfield ix, m, (6, 0, s)) :: k) ls (zr 3 0 :: st) (zm N I A) = zexec call rec k ls (zr 3 1 :: st) (zm N I A) := zx_gf (c := 6) (n := 11) kq_3_0 (by decide) (by decide) rfl
theorem l6_0 (h0 : 0 ≤ x) (h1 : x < 400) : zexec call rec ((.baload, m, p) :: k) ls (zi x :: zr 3 1 :: st) (zm N I A) = zexec call rec k ls (zi (A 3 1 x.toNat) :: st) (zm N I A) := zx_ab (n := 400) (kd := 2) kq_3_1 (by decide) h0 h1
theorem t6_0 (h0 : 0 ≤ x) (h1 : x < 400) (hy : -128 ≤ y) (hz : y < 128) : zexec call rec ((.bastore, m, p) :: k) ls (zi y :: zi x :: zr 3 1 :: st) (zm N I A) = zexec call rec k ls st (zm N I (zuA A 3 1 (zset (A 3 1) x.toNat y))) := zx_sy (n := 400) kq_3_1 h0 h1 hy hz
theorem n6_0  : zexec call rec ((.arraylength, m, p) :: k) ls (zr 3 1 :: st) (zm N I A) = zexec call rec k ls (zi 400 :: st) (zm N I A) := zx_ln (n := 400) (kd := 2) kq_3_1 (by decide) (by decide)
theorem g6_1  : zexec call rec ((.getfield ix, m, (6, 1, s)) :: k) ls (zr 3 0 :: st) (zm N I A) = zexec call rec k ls (zi (I 3 1) :: st) (zm N I A) := zx_gf (c := 6) (n := 11) kq_3_0 (by decide) (by decide) rfl
theorem p6_1  : zexec call rec ((.putfield ix, m, (6, 1, 0)) :: k) ls (zi x :: zr 3 0 :: st) (zm N I A) = zexec call rec k ls st (zm N (zup I 3 1 x) A) := zx_pf (c := 6) (n := 11) kq_3_0 (by decide) (by decide) rfl rfl
theorem g6_2  : zexec call rec ((.getfield ix, m, (6, 2, s)) :: k) ls (zr 3 0 :: st) (zm N I A) = zexec call rec k ls (zi (I 3 2) :: st) (zm N I A) := zx_gf (c := 6) (n := 11) kq_3_0 (by decide) (by decide) rfl
theorem p6_2  : zexec call rec ((.putfield ix, m, (6, 2, 0)) :: k) ls (zi x :: zr 3 0 :: st) (zm N I A) = zexec call rec k ls st (zm N (zup I 3 2 x) A) := zx_pf (c := 6) (n := 11) kq_3_0 (by decide) (by decide) rfl rfl
theorem g6_3  : zexec call rec ((.getfield ix, m, (6, 3, s)) :: k) ls (zr 3 0 :: st) (zm N I A) = zexec call rec k ls (zi (I 3 3) :: st) (zm N I A) := zx_gf (c := 6) (n := 11) kq_3_0 (by decide) (by decide) rfl
theorem p6_3  : zexec call rec ((.putfield ix, m, (6, 3, 0)) :: k) ls (zi x :: zr 3 0 :: st) (zm N I A) = zexec call rec k ls st (zm N (zup I 3 3 x) A) := zx_pf (c := 6) (n := 11) kq_3_0 (by decide) (by decide) rfl rfl
theorem g6_4  : zexec call rec ((.getfield ix, m, (6, 4, s)) :: k) ls (zr 3 0 :: st) (zm N I A) = zexec call rec k ls (zr 3 5 :: st) (zm N I A) := zx_gf (c := 6) (n := 11) kq_3_0 (by decide) (by decide) rfl
theorem l6_4 (h0 : 0 ≤ x) (h1 : x < 401) : zexec call rec ((.iaload, m, p) :: k) ls (zi x :: zr 3 5 :: st) (zm N I A) = zexec call rec k ls (zi (A 3 5 x.toNat) :: st) (zm N I A) := zx_ai (n := 401) kq_3_5 h0 h1
theorem t6_4 (h0 : 0 ≤ x) (h1 : x < 401) : zexec call rec ((.iastore, m, p) :: k) ls (zi y :: zi x :: zr 3 5 :: st) (zm N I A) = zexec call rec k ls st (zm N I (zuA A 3 5 (zset (A 3 5) x.toNat y))) := zx_si (n := 401) kq_3_5 h0 h1
theorem n6_4  : zexec call rec ((.arraylength, m, p) :: k) ls (zr 3 5 :: st) (zm N I A) = zexec call rec k ls (zi 401 :: st) (zm N I A) := zx_ln (n := 401) (kd := 0) kq_3_5 (by decide) (by decide)
theorem g6_5  : zexec call rec ((.getfield ix, m, (6, 5, s)) :: k) ls (zr 3 0 :: st) (zm N I A) = zexec call rec k ls (zr 3 6 :: st) (zm N I A) := zx_gf (c := 6) (n := 11) kq_3_0 (by decide) (by decide) rfl
theorem l6_5 (h0 : 0 ≤ x) (h1 : x < 401) : zexec call rec ((.iaload, m, p) :: k) ls (zi x :: zr 3 6 :: st) (zm N I A) = zexec call rec k ls (zi (A 3 6 x.toNat) :: st) (zm N I A) := zx_ai (n := 401) kq_3_6 h0 h1
theorem t6_5 (h0 : 0 ≤ x) (h1 : x < 401) : zexec call rec ((.iastore, m, p) :: k) ls (zi y :: zi x :: zr 3 6 :: st) (zm N I A) = zexec call rec k ls st (zm N I (zuA A 3 6 (zset (A 3 6) x.toNat y))) := zx_si (n := 401) kq_3_6 h0 h1
theorem n6_5  : zexec call rec ((.arraylength, m, p) :: k) ls (zr 3 6 :: st) (zm N I A) = zexec call rec k ls (zi 401 :: st) (zm N I A) := zx_ln (n := 401) (kd := 0) kq_3_6 (by decide) (by decide)
theorem g6_6  : zexec call rec ((.getfield ix, m, (6, 6, s)) :: k) ls (zr 3 0 :: st) (zm N I A) = zexec call rec k ls (zr 3 7 :: st) (zm N I A) := zx_gf (c := 6) (n := 11) kq_3_0 (by decide) (by decide) rfl
theorem l6_6 (h0 : 0 ≤ x) (h1 : x < 401) : zexec call rec ((.iaload, m, p) :: k) ls (zi x :: zr 3 7 :: st) (zm N I A) = zexec call rec k ls (zi (A 3 7 x.toNat) :: st) (zm N I A) := zx_ai (n := 401) kq_3_7 h0 h1
theorem t6_6 (h0 : 0 ≤ x) (h1 : x < 401) : zexec call rec ((.iastore, m, p) :: k) ls (zi y :: zi x :: zr 3 7 :: st) (zm N I A) = zexec call rec k ls st (zm N I (zuA A 3 7 (zset (A 3 7) x.toNat y))) := zx_si (n := 401) kq_3_7 h0 h1
theorem n6_6  : zexec call rec ((.arraylength, m, p) :: k) ls (zr 3 7 :: st) (zm N I A) = zexec call rec k ls (zi 401 :: st) (zm N I A) := zx_ln (n := 401) (kd := 0) kq_3_7 (by decide) (by decide)
theorem g6_7  : zexec call rec ((.getfield ix, m, (6, 7, s)) :: k) ls (zr 3 0 :: st) (zm N I A) = zexec call rec k ls (zi (I 3 7) :: st) (zm N I A) := zx_gf (c := 6) (n := 11) kq_3_0 (by decide) (by decide) rfl
theorem p6_7  : zexec call rec ((.putfield ix, m, (6, 7, 0)) :: k) ls (zi x :: zr 3 0 :: st) (zm N I A) = zexec call rec k ls st (zm N (zup I 3 7 x) A) := zx_pf (c := 6) (n := 11) kq_3_0 (by decide) (by decide) rfl rfl
theorem g6_8  : zexec call rec ((.getfield ix, m, (6, 8, s)) :: k) ls (zr 3 0 :: st) (zm N I A) = zexec call rec k ls (zi (I 3 8) :: st) (zm N I A) := zx_gf (c := 6) (n := 11) kq_3_0 (by decide) (by decide) rfl
theorem p6_8  : zexec call rec ((.putfield ix, m, (6, 8, 0)) :: k) ls (zi x :: zr 3 0 :: st) (zm N I A) = zexec call rec k ls st (zm N (zup I 3 8 x) A) := zx_pf (c := 6) (n := 11) kq_3_0 (by decide) (by decide) rfl rfl
theorem g6_9  : zexec call rec ((.getfield ix, m, (6, 9, s)) :: k) ls (zr 3 0 :: st) (zm N I A) = zexec call rec k ls (zi (I 3 9) :: st) (zm N I A) := zx_gf (c := 6) (n := 11) kq_3_0 (by decide) (by decide) rfl
theorem p6_9  : zexec call rec ((.putfield ix, m, (6, 9, 0)) :: k) ls (zi x :: zr 3 0 :: st) (zm N I A) = zexec call rec k ls st (zm N (zup I 3 9 x) A) := zx_pf (c := 6) (n := 11) kq_3_0 (by decide) (by decide) rfl rfl
theorem g6_10  : zexec call rec ((.getfield ix, m, (6, 10, s)) :: k) ls (zr 3 0 :: st) (zm N I A) = zexec call rec k ls (zi (I 3 10) :: st) (zm N I A) := zx_gf (c := 6) (n := 11) kq_3_0 (by decide) (by decide) rfl
theorem p6_10  : zexec call rec ((.putfield ix, m, (6, 10, 0)) :: k) ls (zi x :: zr 3 0 :: st) (zm N I A) = zexec call rec k ls st (zm N (zup I 3 10 x) A) := zx_pf (c := 6) (n := 11) kq_3_0 (by decide) (by decide) rfl rfl
theorem g7_0  : zexec call rec ((.getfield ix, m, (7, 0, s)) :: k) ls (zr 17 0 :: st) (zm N I A) = zexec call rec k ls (zi (I 17 0) :: st) (zm N I A) := zx_gf (c := 7) (n := 6) kq_17_0 (by decide) (by decide) rfl
theorem p7_0  : zexec call rec ((.putfield ix, m, (7, 0, 0)) :: k) ls (zi x :: zr 17 0 :: st) (zm N I A) = zexec call rec k ls st (zm N (zup I 17 0 x) A) := zx_pf (c := 7) (n := 6) kq_17_0 (by decide) (by decide) rfl rfl
theorem g7_1  : zexec call rec ((.getfield ix, m, (7, 1, s)) :: k) ls (zr 17 0 :: st) (zm N I A) = zexec call rec k ls (zi (I 17 1) :: st) (zm N I A) := zx_gf (c := 7) (n := 6) kq_17_0 (by decide) (by decide) rfl
theorem p7_1  : zexec call rec ((.putfield ix, m, (7, 1, 0)) :: k) ls (zi x :: zr 17 0 :: st) (zm N I A) = zexec call rec k ls st (zm N (zup I 17 1 x) A) := zx_pf (c := 7) (n := 6) kq_17_0 (by decide) (by decide) rfl rfl
theorem g7_2  : zexec call rec ((.getfield ix, m, (7, 2, s)) :: k) ls (zr 17 0 :: st) (zm N I A) = zexec call rec k ls (zi (I 17 2) :: st) (zm N I A) := zx_gf (c := 7) (n := 6) kq_17_0 (by decide) (by decide) rfl
theorem p7_2  : zexec call rec ((.putfield ix, m, (7, 2, 0)) :: k) ls (zi x :: zr 17 0 :: st) (zm N I A) = zexec call rec k ls st (zm N (zup I 17 2 x) A) := zx_pf (c := 7) (n := 6) kq_17_0 (by decide) (by decide) rfl rfl
theorem g7_3  : zexec call rec ((.getfield ix, m, (7, 3, s)) :: k) ls (zr 17 0 :: st) (zm N I A) = zexec call rec k ls (zi (I 17 3) :: st) (zm N I A) := zx_gf (c := 7) (n := 6) kq_17_0 (by decide) (by decide) rfl
theorem p7_3  : zexec call rec ((.putfield ix, m, (7, 3, 0)) :: k) ls (zi x :: zr 17 0 :: st) (zm N I A) = zexec call rec k ls st (zm N (zup I 17 3 x) A) := zx_pf (c := 7) (n := 6) kq_17_0 (by decide) (by decide) rfl rfl
theorem g7_4  : zexec call rec ((.getfield ix, m, (7, 4, s)) :: k) ls (zr 17 0 :: st) (zm N I A) = zexec call rec k ls (zi (I 17 4) :: st) (zm N I A) := zx_gf (c := 7) (n := 6) kq_17_0 (by decide) (by decide) rfl
theorem p7_4  : zexec call rec ((.putfield ix, m, (7, 4, 0)) :: k) ls (zi x :: zr 17 0 :: st) (zm N I A) = zexec call rec k ls st (zm N (zup I 17 4 x) A) := zx_pf (c := 7) (n := 6) kq_17_0 (by decide) (by decide) rfl rfl
theorem g7_5  : zexec call rec ((.getfield ix, m, (7, 5, s)) :: k) ls (zr 17 0 :: st) (zm N I A) = zexec call rec k ls (zi (I 17 5) :: st) (zm N I A) := zx_gf (c := 7) (n := 6) kq_17_0 (by decide) (by decide) rfl
theorem p7_5  : zexec call rec ((.putfield ix, m, (7, 5, 0)) :: k) ls (zi x :: zr 17 0 :: st) (zm N I A) = zexec call rec k ls st (zm N (zup I 17 5 x) A) := zx_pf (c := 7) (n := 6) kq_17_0 (by decide) (by decide) rfl rfl
theorem g8_0 {T : Nat} (hT : T = 6 ∨ T = 8)  : zexec call rec ((.getfield ix, m, (8, 0, s)) :: k) ls (zr T 0 :: st) (zm N I A) = zexec call rec k ls (zr (T + 1) 0 :: st) (zm N I A) := by
  rcases hT with rfl | rfl
  · exact zx_gf (c := 8) (n := 17) kq_6_0 (by decide) (by decide) rfl
  · exact zx_gf (c := 8) (n := 17) kq_8_0 (by decide) (by decide) rfl
theorem g8_1 {T : Nat} (hT : T = 6 ∨ T = 8)  : zexec call rec ((.getfield ix, m, (8, 1, s)) :: k) ls (zr T 0 :: st) (zm N I A) = zexec call rec k ls (zi (I T 1) :: st) (zm N I A) := by
  rcases hT with rfl | rfl
  · exact zx_gf (c := 8) (n := 17) kq_6_0 (by decide) (by decide) rfl
  · exact zx_gf (c := 8) (n := 17) kq_8_0 (by decide) (by decide) rfl
theorem p8_1 {T : Nat} (hT : T = 6 ∨ T = 8)  : zexec call rec ((.putfield ix, m, (8, 1, 0)) :: k) ls (zi x :: zr T 0 :: st) (zm N I A) = zexec call rec k ls st (zm N (zup I T 1 x) A) := by
  rcases hT with rfl | rfl
  · exact zx_pf (c := 8) (n := 17) kq_6_0 (by decide) (by decide) rfl rfl
  · exact zx_pf (c := 8) (n := 17) kq_8_0 (by decide) (by decide) rfl rfl
theorem g8_2 {T : Nat} (hT : T = 6 ∨ T = 8)  : zexec call rec ((.getfield ix, m, (8, 2, s)) :: k) ls (zr T 0 :: st) (zm N I A) = zexec call rec k ls (zi (I T 2) :: st) (zm N I A) := by
  rcases hT with rfl | rfl
  · exact zx_gf (c := 8) (n := 17) kq_6_0 (by decide) (by decide) rfl
  · exact zx_gf (c := 8) (n := 17) kq_8_0 (by decide) (by decide) rfl
theorem p8_2 {T : Nat} (hT : T = 6 ∨ T = 8)  : zexec call rec ((.putfield ix, m, (8, 2, 0)) :: k) ls (zi x :: zr T 0 :: st) (zm N I A) = zexec call rec k ls st (zm N (zup I T 2 x) A) := by
  rcases hT with rfl | rfl
  · exact zx_pf (c := 8) (n := 17) kq_6_0 (by decide) (by decide) rfl rfl
  · exact zx_pf (c := 8) (n := 17) kq_8_0 (by decide) (by decide) rfl rfl
theorem g8_3 {T : Nat} (hT : T = 6 ∨ T = 8)  : zexec call rec ((.getfield ix, m, (8, 3, s)) :: k) ls (zr T 0 :: st) (zm N I A) = zexec call rec k ls (zi (I T 3) :: st) (zm N I A) := by
  rcases hT with rfl | rfl
  · exact zx_gf (c := 8) (n := 17) kq_6_0 (by decide) (by decide) rfl
  · exact zx_gf (c := 8) (n := 17) kq_8_0 (by decide) (by decide) rfl
theorem p8_3 {T : Nat} (hT : T = 6 ∨ T = 8)  : zexec call rec ((.putfield ix, m, (8, 3, 0)) :: k) ls (zi x :: zr T 0 :: st) (zm N I A) = zexec call rec k ls st (zm N (zup I T 3 x) A) := by
  rcases hT with rfl | rfl
  · exact zx_pf (c := 8) (n := 17) kq_6_0 (by decide) (by decide) rfl rfl
  · exact zx_pf (c := 8) (n := 17) kq_8_0 (by decide) (by decide) rfl rfl
theorem g8_4 {T : Nat} (hT : T = 6 ∨ T = 8)  : zexec call rec ((.getfield ix, m, (8, 4, s)) :: k) ls (zr T 0 :: st) (zm N I A) = zexec call rec k ls (zi (I T 4) :: st) (zm N I A) := by
  rcases hT with rfl | rfl
  · exact zx_gf (c := 8) (n := 17) kq_6_0 (by decide) (by decide) rfl
  · exact zx_gf (c := 8) (n := 17) kq_8_0 (by decide) (by decide) rfl
theorem p8_4 {T : Nat} (hT : T = 6 ∨ T = 8)  : zexec call rec ((.putfield ix, m, (8, 4, 0)) :: k) ls (zi x :: zr T 0 :: st) (zm N I A) = zexec call rec k ls st (zm N (zup I T 4 x) A) := by
  rcases hT with rfl | rfl
  · exact zx_pf (c := 8) (n := 17) kq_6_0 (by decide) (by decide) rfl rfl
  · exact zx_pf (c := 8) (n := 17) kq_8_0 (by decide) (by decide) rfl rfl
theorem g8_5 {T : Nat} (hT : T = 6 ∨ T = 8)  : zexec call rec ((.getfield ix, m, (8, 5, s)) :: k) ls (zr T 0 :: st) (zm N I A) = zexec call rec k ls (zr T 6 :: st) (zm N I A) := by
  rcases hT with rfl | rfl
  · exact zx_gf (c := 8) (n := 17) kq_6_0 (by decide) (by decide) rfl
  · exact zx_gf (c := 8) (n := 17) kq_8_0 (by decide) (by decide) rfl
theorem l8_5 {T : Nat} (hT : T = 6 ∨ T = 8) (h0 : 0 ≤ x) (h1 : x < 40) : zexec call rec ((.iaload, m, p) :: k) ls (zi x :: zr T 6 :: st) (zm N I A) = zexec call rec k ls (zi (A T 6 x.toNat) :: st) (zm N I A) := by
  rcases hT with rfl | rfl
  · exact zx_ai (n := 40) kq_6_6 h0 h1
  · exact zx_ai (n := 40) kq_8_6 h0 h1
theorem t8_5 {T : Nat} (hT : T = 6 ∨ T = 8) (h0 : 0 ≤ x) (h1 : x < 40) : zexec call rec ((.iastore, m, p) :: k) ls (zi y :: zi x :: zr T 6 :: st) (zm N I A) = zexec call rec k ls st (zm N I (zuA A T 6 (zset (A T 6) x.toNat y))) := by
  rcases hT with rfl | rfl
  · exact zx_si (n := 40) kq_6_6 h0 h1
  · exact zx_si (n := 40) kq_8_6 h0 h1
theorem n8_5 {T : Nat} (hT : T = 6 ∨ T = 8)  : zexec call rec ((.arraylength, m, p) :: k) ls (zr T 6 :: st) (zm N I A) = zexec call rec k ls (zi 40 :: st) (zm N I A) := by
  rcases hT with rfl | rfl
  · exact zx_ln (n := 40) (kd := 0) kq_6_6 (by decide) (by decide)
  · exact zx_ln (n := 40) (kd := 0) kq_8_6 (by decide) (by decide)
theorem g8_6 {T : Nat} (hT : T = 6 ∨ T = 8)  : zexec call rec ((.getfield ix, m, (8, 6, s)) :: k) ls (zr T 0 :: st) (zm N I A) = zexec call rec k ls (zr T 7 :: st) (zm N I A) := by
  rcases hT with rfl | rfl
  · exact zx_gf (c := 8) (n := 17) kq_6_0 (by decide) (by decide) rfl
  · exact zx_gf (c := 8) (n := 17) kq_8_0 (by decide) (by decide) rfl
theorem l8_6 {T : Nat} (hT : T = 6 ∨ T = 8) (h0 : 0 ≤ x) (h1 : x < 40) : zexec call rec ((.iaload, m, p) :: k) ls (zi x :: zr T 7 :: st) (zm N I A) = zexec call rec k ls (zi (A T 7 x.toNat) :: st) (zm N I A) := by
  rcases hT with rfl | rfl
  · exact zx_ai (n := 40) kq_6_7 h0 h1
  · exact zx_ai (n := 40) kq_8_7 h0 h1
theorem t8_6 {T : Nat} (hT : T = 6 ∨ T = 8) (h0 : 0 ≤ x) (h1 : x < 40) : zexec call rec ((.iastore, m, p) :: k) ls (zi y :: zi x :: zr T 7 :: st) (zm N I A) = zexec call rec k ls st (zm N I (zuA A T 7 (zset (A T 7) x.toNat y))) := by
  rcases hT with rfl | rfl
  · exact zx_si (n := 40) kq_6_7 h0 h1
  · exact zx_si (n := 40) kq_8_7 h0 h1
theorem n8_6 {T : Nat} (hT : T = 6 ∨ T = 8)  : zexec call rec ((.arraylength, m, p) :: k) ls (zr T 7 :: st) (zm N I A) = zexec call rec k ls (zi 40 :: st) (zm N I A) := by
  rcases hT with rfl | rfl
  · exact zx_ln (n := 40) (kd := 0) kq_6_7 (by decide) (by decide)
  · exact zx_ln (n := 40) (kd := 0) kq_8_7 (by decide) (by decide)
theorem g8_7 {T : Nat} (hT : T = 6 ∨ T = 8)  : zexec call rec ((.getfield ix, m, (8, 7, s)) :: k) ls (zr T 0 :: st) (zm N I A) = zexec call rec k ls (zr T 8 :: st) (zm N I A) := by
  rcases hT with rfl | rfl
  · exact zx_gf (c := 8) (n := 17) kq_6_0 (by decide) (by decide) rfl
  · exact zx_gf (c := 8) (n := 17) kq_8_0 (by decide) (by decide) rfl
theorem l8_7 {T : Nat} (hT : T = 6 ∨ T = 8) (h0 : 0 ≤ x) (h1 : x < 40) : zexec call rec ((.iaload, m, p) :: k) ls (zi x :: zr T 8 :: st) (zm N I A) = zexec call rec k ls (zi (A T 8 x.toNat) :: st) (zm N I A) := by
  rcases hT with rfl | rfl
  · exact zx_ai (n := 40) kq_6_8 h0 h1
  · exact zx_ai (n := 40) kq_8_8 h0 h1
theorem t8_7 {T : Nat} (hT : T = 6 ∨ T = 8) (h0 : 0 ≤ x) (h1 : x < 40) : zexec call rec ((.iastore, m, p) :: k) ls (zi y :: zi x :: zr T 8 :: st) (zm N I A) = zexec call rec k ls st (zm N I (zuA A T 8 (zset (A T 8) x.toNat y))) := by
  rcases hT with rfl | rfl
  · exact zx_si (n := 40) kq_6_8 h0 h1
  · exact zx_si (n := 40) kq_8_8 h0 h1
theorem n8_7 {T : Nat} (hT : T = 6 ∨ T = 8)  : zexec call rec ((.arraylength, m, p) :: k) ls (zr T 8 :: st) (zm N I A) = zexec call rec k ls (zi 40 :: st) (zm N I A) := by
  rcases hT with rfl | rfl
  · exact zx_ln (n := 40) (kd := 0) kq_6_8 (by decide) (by decide)
  · exact zx_ln (n := 40) (kd := 0) kq_8_8 (by decide) (by decide)
theorem g8_8 {T : Nat} (hT : T = 6 ∨ T = 8)  : zexec call rec ((.getfield ix, m, (8, 8, s)) :: k) ls (zr T 0 :: st) (zm N I A) = zexec call rec k ls (zr T 9 :: st) (zm N I A) := by
  rcases hT with rfl | rfl
  · exact zx_gf (c := 8) (n := 17) kq_6_0 (by decide) (by decide) rfl
  · exact zx_gf (c := 8) (n := 17) kq_8_0 (by decide) (by decide) rfl
theorem l8_8 {T : Nat} (hT : T = 6 ∨ T = 8) (h0 : 0 ≤ x) (h1 : x < 40) : zexec call rec ((.iaload, m, p) :: k) ls (zi x :: zr T 9 :: st) (zm N I A) = zexec call rec k ls (zi (A T 9 x.toNat) :: st) (zm N I A) := by
  rcases hT with rfl | rfl
  · exact zx_ai (n := 40) kq_6_9 h0 h1
  · exact zx_ai (n := 40) kq_8_9 h0 h1
theorem t8_8 {T : Nat} (hT : T = 6 ∨ T = 8) (h0 : 0 ≤ x) (h1 : x < 40) : zexec call rec ((.iastore, m, p) :: k) ls (zi y :: zi x :: zr T 9 :: st) (zm N I A) = zexec call rec k ls st (zm N I (zuA A T 9 (zset (A T 9) x.toNat y))) := by
  rcases hT with rfl | rfl
  · exact zx_si (n := 40) kq_6_9 h0 h1
  · exact zx_si (n := 40) kq_8_9 h0 h1
theorem n8_8 {T : Nat} (hT : T = 6 ∨ T = 8)  : zexec call rec ((.arraylength, m, p) :: k) ls (zr T 9 :: st) (zm N I A) = zexec call rec k ls (zi 40 :: st) (zm N I A) := by
  rcases hT with rfl | rfl
  · exact zx_ln (n := 40) (kd := 0) kq_6_9 (by decide) (by decide)
  · exact zx_ln (n := 40) (kd := 0) kq_8_9 (by decide) (by decide)
theorem g8_9 {T : Nat} (hT : T = 6 ∨ T = 8)  : zexec call rec ((.getfield ix, m, (8, 9, s)) :: k) ls (zr T 0 :: st) (zm N I A) = zexec call rec k ls (zr T 10 :: st) (zm N I A) := by
  rcases hT with rfl | rfl
  · exact zx_gf (c := 8) (n := 17) kq_6_0 (by decide) (by decide) rfl
  · exact zx_gf (c := 8) (n := 17) kq_8_0 (by decide) (by decide) rfl
theorem l8_9 {T : Nat} (hT : T = 6 ∨ T = 8) (h0 : 0 ≤ x) (h1 : x < 40) : zexec call rec ((.iaload, m, p) :: k) ls (zi x :: zr T 10 :: st) (zm N I A) = zexec call rec k ls (zi (A T 10 x.toNat) :: st) (zm N I A) := by
  rcases hT with rfl | rfl
  · exact zx_ai (n := 40) kq_6_10 h0 h1
  · exact zx_ai (n := 40) kq_8_10 h0 h1
theorem t8_9 {T : Nat} (hT : T = 6 ∨ T = 8) (h0 : 0 ≤ x) (h1 : x < 40) : zexec call rec ((.iastore, m, p) :: k) ls (zi y :: zi x :: zr T 10 :: st) (zm N I A) = zexec call rec k ls st (zm N I (zuA A T 10 (zset (A T 10) x.toNat y))) := by
  rcases hT with rfl | rfl
  · exact zx_si (n := 40) kq_6_10 h0 h1
  · exact zx_si (n := 40) kq_8_10 h0 h1
theorem n8_9 {T : Nat} (hT : T = 6 ∨ T = 8)  : zexec call rec ((.arraylength, m, p) :: k) ls (zr T 10 :: st) (zm N I A) = zexec call rec k ls (zi 40 :: st) (zm N I A) := by
  rcases hT with rfl | rfl
  · exact zx_ln (n := 40) (kd := 0) kq_6_10 (by decide) (by decide)
  · exact zx_ln (n := 40) (kd := 0) kq_8_10 (by decide) (by decide)
theorem g8_10 {T : Nat} (hT : T = 6 ∨ T = 8)  : zexec call rec ((.getfield ix, m, (8, 10, s)) :: k) ls (zr T 0 :: st) (zm N I A) = zexec call rec k ls (zr T 11 :: st) (zm N I A) := by
  rcases hT with rfl | rfl
  · exact zx_gf (c := 8) (n := 17) kq_6_0 (by decide) (by decide) rfl
  · exact zx_gf (c := 8) (n := 17) kq_8_0 (by decide) (by decide) rfl
theorem l8_10 {T : Nat} (hT : T = 6 ∨ T = 8) (h0 : 0 ≤ x) (h1 : x < 40) : zexec call rec ((.iaload, m, p) :: k) ls (zi x :: zr T 11 :: st) (zm N I A) = zexec call rec k ls (zi (A T 11 x.toNat) :: st) (zm N I A) := by
  rcases hT with rfl | rfl
  · exact zx_ai (n := 40) kq_6_11 h0 h1
  · exact zx_ai (n := 40) kq_8_11 h0 h1
theorem t8_10 {T : Nat} (hT : T = 6 ∨ T = 8) (h0 : 0 ≤ x) (h1 : x < 40) : zexec call rec ((.iastore, m, p) :: k) ls (zi y :: zi x :: zr T 11 :: st) (zm N I A) = zexec call rec k ls st (zm N I (zuA A T 11 (zset (A T 11) x.toNat y))) := by
  rcases hT with rfl | rfl
  · exact zx_si (n := 40) kq_6_11 h0 h1
  · exact zx_si (n := 40) kq_8_11 h0 h1
theorem n8_10 {T : Nat} (hT : T = 6 ∨ T = 8)  : zexec call rec ((.arraylength, m, p) :: k) ls (zr T 11 :: st) (zm N I A) = zexec call rec k ls (zi 40 :: st) (zm N I A) := by
  rcases hT with rfl | rfl
  · exact zx_ln (n := 40) (kd := 0) kq_6_11 (by decide) (by decide)
  · exact zx_ln (n := 40) (kd := 0) kq_8_11 (by decide) (by decide)
theorem g8_11 {T : Nat} (hT : T = 6 ∨ T = 8)  : zexec call rec ((.getfield ix, m, (8, 11, s)) :: k) ls (zr T 0 :: st) (zm N I A) = zexec call rec k ls (zr T 12 :: st) (zm N I A) := by
  rcases hT with rfl | rfl
  · exact zx_gf (c := 8) (n := 17) kq_6_0 (by decide) (by decide) rfl
  · exact zx_gf (c := 8) (n := 17) kq_8_0 (by decide) (by decide) rfl
theorem l8_11 {T : Nat} (hT : T = 6 ∨ T = 8) (h0 : 0 ≤ x) (h1 : x < 40) : zexec call rec ((.baload, m, p) :: k) ls (zi x :: zr T 12 :: st) (zm N I A) = zexec call rec k ls (zi (A T 12 x.toNat) :: st) (zm N I A) := by
  rcases hT with rfl | rfl
  · exact zx_ab (n := 40) (kd := 1) kq_6_12 (by decide) h0 h1
  · exact zx_ab (n := 40) (kd := 1) kq_8_12 (by decide) h0 h1
theorem t8_11 {T : Nat} (hT : T = 6 ∨ T = 8) (h0 : 0 ≤ x) (h1 : x < 40) (hy : y = 0 ∨ y = 1) : zexec call rec ((.bastore, m, p) :: k) ls (zi y :: zi x :: zr T 12 :: st) (zm N I A) = zexec call rec k ls st (zm N I (zuA A T 12 (zset (A T 12) x.toNat y))) := by
  rcases hT with rfl | rfl
  · exact zx_sb (n := 40) kq_6_12 h0 h1 hy
  · exact zx_sb (n := 40) kq_8_12 h0 h1 hy
theorem n8_11 {T : Nat} (hT : T = 6 ∨ T = 8)  : zexec call rec ((.arraylength, m, p) :: k) ls (zr T 12 :: st) (zm N I A) = zexec call rec k ls (zi 40 :: st) (zm N I A) := by
  rcases hT with rfl | rfl
  · exact zx_ln (n := 40) (kd := 1) kq_6_12 (by decide) (by decide)
  · exact zx_ln (n := 40) (kd := 1) kq_8_12 (by decide) (by decide)
theorem g8_12 {T : Nat} (hT : T = 6 ∨ T = 8)  : zexec call rec ((.getfield ix, m, (8, 12, s)) :: k) ls (zr T 0 :: st) (zm N I A) = zexec call rec k ls (zr T 13 :: st) (zm N I A) := by
  rcases hT with rfl | rfl
  · exact zx_gf (c := 8) (n := 17) kq_6_0 (by decide) (by decide) rfl
  · exact zx_gf (c := 8) (n := 17) kq_8_0 (by decide) (by decide) rfl
theorem l8_12 {T : Nat} (hT : T = 6 ∨ T = 8) (h0 : 0 ≤ x) (h1 : x < 40) : zexec call rec ((.iaload, m, p) :: k) ls (zi x :: zr T 13 :: st) (zm N I A) = zexec call rec k ls (zi (A T 13 x.toNat) :: st) (zm N I A) := by
  rcases hT with rfl | rfl
  · exact zx_ai (n := 40) kq_6_13 h0 h1
  · exact zx_ai (n := 40) kq_8_13 h0 h1
theorem t8_12 {T : Nat} (hT : T = 6 ∨ T = 8) (h0 : 0 ≤ x) (h1 : x < 40) : zexec call rec ((.iastore, m, p) :: k) ls (zi y :: zi x :: zr T 13 :: st) (zm N I A) = zexec call rec k ls st (zm N I (zuA A T 13 (zset (A T 13) x.toNat y))) := by
  rcases hT with rfl | rfl
  · exact zx_si (n := 40) kq_6_13 h0 h1
  · exact zx_si (n := 40) kq_8_13 h0 h1
theorem n8_12 {T : Nat} (hT : T = 6 ∨ T = 8)  : zexec call rec ((.arraylength, m, p) :: k) ls (zr T 13 :: st) (zm N I A) = zexec call rec k ls (zi 40 :: st) (zm N I A) := by
  rcases hT with rfl | rfl
  · exact zx_ln (n := 40) (kd := 0) kq_6_13 (by decide) (by decide)
  · exact zx_ln (n := 40) (kd := 0) kq_8_13 (by decide) (by decide)
theorem g8_13 {T : Nat} (hT : T = 6 ∨ T = 8)  : zexec call rec ((.getfield ix, m, (8, 13, s)) :: k) ls (zr T 0 :: st) (zm N I A) = zexec call rec k ls (zi (I T 13) :: st) (zm N I A) := by
  rcases hT with rfl | rfl
  · exact zx_gf (c := 8) (n := 17) kq_6_0 (by decide) (by decide) rfl
  · exact zx_gf (c := 8) (n := 17) kq_8_0 (by decide) (by decide) rfl
theorem p8_13 {T : Nat} (hT : T = 6 ∨ T = 8)  : zexec call rec ((.putfield ix, m, (8, 13, 0)) :: k) ls (zi x :: zr T 0 :: st) (zm N I A) = zexec call rec k ls st (zm N (zup I T 13 x) A) := by
  rcases hT with rfl | rfl
  · exact zx_pf (c := 8) (n := 17) kq_6_0 (by decide) (by decide) rfl rfl
  · exact zx_pf (c := 8) (n := 17) kq_8_0 (by decide) (by decide) rfl rfl
theorem g8_14 {T : Nat} (hT : T = 6 ∨ T = 8)  : zexec call rec ((.getfield ix, m, (8, 14, s)) :: k) ls (zr T 0 :: st) (zm N I A) = zexec call rec k ls (zr T 15 :: st) (zm N I A) := by
  rcases hT with rfl | rfl
  · exact zx_gf (c := 8) (n := 17) kq_6_0 (by decide) (by decide) rfl
  · exact zx_gf (c := 8) (n := 17) kq_8_0 (by decide) (by decide) rfl
theorem l8_14 {T : Nat} (hT : T = 6 ∨ T = 8) (h0 : 0 ≤ x) (h1 : x < 3) : zexec call rec ((.iaload, m, p) :: k) ls (zi x :: zr T 15 :: st) (zm N I A) = zexec call rec k ls (zi (A T 15 x.toNat) :: st) (zm N I A) := by
  rcases hT with rfl | rfl
  · exact zx_ai (n := 3) kq_6_15 h0 h1
  · exact zx_ai (n := 3) kq_8_15 h0 h1
theorem t8_14 {T : Nat} (hT : T = 6 ∨ T = 8) (h0 : 0 ≤ x) (h1 : x < 3) : zexec call rec ((.iastore, m, p) :: k) ls (zi y :: zi x :: zr T 15 :: st) (zm N I A) = zexec call rec k ls st (zm N I (zuA A T 15 (zset (A T 15) x.toNat y))) := by
  rcases hT with rfl | rfl
  · exact zx_si (n := 3) kq_6_15 h0 h1
  · exact zx_si (n := 3) kq_8_15 h0 h1
theorem n8_14 {T : Nat} (hT : T = 6 ∨ T = 8)  : zexec call rec ((.arraylength, m, p) :: k) ls (zr T 15 :: st) (zm N I A) = zexec call rec k ls (zi 3 :: st) (zm N I A) := by
  rcases hT with rfl | rfl
  · exact zx_ln (n := 3) (kd := 0) kq_6_15 (by decide) (by decide)
  · exact zx_ln (n := 3) (kd := 0) kq_8_15 (by decide) (by decide)
theorem g8_15 {T : Nat} (hT : T = 6 ∨ T = 8)  : zexec call rec ((.getfield ix, m, (8, 15, s)) :: k) ls (zr T 0 :: st) (zm N I A) = zexec call rec k ls (zr (I T 15).toNat 0 :: st) (zm N I A) := by
  rcases hT with rfl | rfl
  · exact zx_gf (c := 8) (n := 17) kq_6_0 (by decide) (by decide) rfl
  · exact zx_gf (c := 8) (n := 17) kq_8_0 (by decide) (by decide) rfl
theorem p8_15 {T : Nat} (hT : T = 6 ∨ T = 8)  : zexec call rec ((.putfield ix, m, (8, 15, 2)) :: k) ls (zr i9 0 :: zr T 0 :: st) (zm N I A) = zexec call rec k ls st (zm N (zup I T 15 i9) A) := by
  rcases hT with rfl | rfl
  · exact zx_pfr (c := 8) (n := 17) kq_6_0 (by decide) (by decide) rfl rfl
  · exact zx_pfr (c := 8) (n := 17) kq_8_0 (by decide) (by decide) rfl rfl
theorem g8_16 {T : Nat} (hT : T = 6 ∨ T = 8)  : zexec call rec ((.getfield ix, m, (8, 16, s)) :: k) ls (zr T 0 :: st) (zm N I A) = zexec call rec k ls (zr (I T 16).toNat 0 :: st) (zm N I A) := by
  rcases hT with rfl | rfl
  · exact zx_gf (c := 8) (n := 17) kq_6_0 (by decide) (by decide) rfl
  · exact zx_gf (c := 8) (n := 17) kq_8_0 (by decide) (by decide) rfl
theorem p8_16 {T : Nat} (hT : T = 6 ∨ T = 8)  : zexec call rec ((.putfield ix, m, (8, 16, 2)) :: k) ls (zr i9 0 :: zr T 0 :: st) (zm N I A) = zexec call rec k ls st (zm N (zup I T 16 i9) A) := by
  rcases hT with rfl | rfl
  · exact zx_pfr (c := 8) (n := 17) kq_6_0 (by decide) (by decide) rfl rfl
  · exact zx_pfr (c := 8) (n := 17) kq_8_0 (by decide) (by decide) rfl rfl
theorem g9_0 {U : Nat} (hU : U = 7 ∨ U = 9)  : zexec call rec ((.getfield ix, m, (9, 0, s)) :: k) ls (zr U 0 :: st) (zm N I A) = zexec call rec k ls (zr U 1 :: st) (zm N I A) := by
  rcases hU with rfl | rfl
  · exact zx_gf (c := 9) (n := 5) kq_7_0 (by decide) (by decide) rfl
  · exact zx_gf (c := 9) (n := 5) kq_9_0 (by decide) (by decide) rfl
theorem l9_0 {U : Nat} (hU : U = 7 ∨ U = 9) (h0 : 0 ≤ x) (h1 : x < 19) : zexec call rec ((.baload, m, p) :: k) ls (zi x :: zr U 1 :: st) (zm N I A) = zexec call rec k ls (zi (A U 1 x.toNat) :: st) (zm N I A) := by
  rcases hU with rfl | rfl
  · exact zx_ab (n := 19) (kd := 1) kq_7_1 (by decide) h0 h1
  · exact zx_ab (n := 19) (kd := 1) kq_9_1 (by decide) h0 h1
theorem t9_0 {U : Nat} (hU : U = 7 ∨ U = 9) (h0 : 0 ≤ x) (h1 : x < 19) (hy : y = 0 ∨ y = 1) : zexec call rec ((.bastore, m, p) :: k) ls (zi y :: zi x :: zr U 1 :: st) (zm N I A) = zexec call rec k ls st (zm N I (zuA A U 1 (zset (A U 1) x.toNat y))) := by
  rcases hU with rfl | rfl
  · exact zx_sb (n := 19) kq_7_1 h0 h1 hy
  · exact zx_sb (n := 19) kq_9_1 h0 h1 hy
theorem n9_0 {U : Nat} (hU : U = 7 ∨ U = 9)  : zexec call rec ((.arraylength, m, p) :: k) ls (zr U 1 :: st) (zm N I A) = zexec call rec k ls (zi 19 :: st) (zm N I A) := by
  rcases hU with rfl | rfl
  · exact zx_ln (n := 19) (kd := 1) kq_7_1 (by decide) (by decide)
  · exact zx_ln (n := 19) (kd := 1) kq_9_1 (by decide) (by decide)
theorem g9_1 {U : Nat} (hU : U = 7 ∨ U = 9)  : zexec call rec ((.getfield ix, m, (9, 1, s)) :: k) ls (zr U 0 :: st) (zm N I A) = zexec call rec k ls (zr U 2 :: st) (zm N I A) := by
  rcases hU with rfl | rfl
  · exact zx_gf (c := 9) (n := 5) kq_7_0 (by decide) (by decide) rfl
  · exact zx_gf (c := 9) (n := 5) kq_9_0 (by decide) (by decide) rfl
theorem l9_1 {U : Nat} (hU : U = 7 ∨ U = 9) (h0 : 0 ≤ x) (h1 : x < 19) : zexec call rec ((.iaload, m, p) :: k) ls (zi x :: zr U 2 :: st) (zm N I A) = zexec call rec k ls (zi (A U 2 x.toNat) :: st) (zm N I A) := by
  rcases hU with rfl | rfl
  · exact zx_ai (n := 19) kq_7_2 h0 h1
  · exact zx_ai (n := 19) kq_9_2 h0 h1
theorem t9_1 {U : Nat} (hU : U = 7 ∨ U = 9) (h0 : 0 ≤ x) (h1 : x < 19) : zexec call rec ((.iastore, m, p) :: k) ls (zi y :: zi x :: zr U 2 :: st) (zm N I A) = zexec call rec k ls st (zm N I (zuA A U 2 (zset (A U 2) x.toNat y))) := by
  rcases hU with rfl | rfl
  · exact zx_si (n := 19) kq_7_2 h0 h1
  · exact zx_si (n := 19) kq_9_2 h0 h1
theorem n9_1 {U : Nat} (hU : U = 7 ∨ U = 9)  : zexec call rec ((.arraylength, m, p) :: k) ls (zr U 2 :: st) (zm N I A) = zexec call rec k ls (zi 19 :: st) (zm N I A) := by
  rcases hU with rfl | rfl
  · exact zx_ln (n := 19) (kd := 0) kq_7_2 (by decide) (by decide)
  · exact zx_ln (n := 19) (kd := 0) kq_9_2 (by decide) (by decide)
theorem g9_2 {U : Nat} (hU : U = 7 ∨ U = 9)  : zexec call rec ((.getfield ix, m, (9, 2, s)) :: k) ls (zr U 0 :: st) (zm N I A) = zexec call rec k ls (zr U 3 :: st) (zm N I A) := by
  rcases hU with rfl | rfl
  · exact zx_gf (c := 9) (n := 5) kq_7_0 (by decide) (by decide) rfl
  · exact zx_gf (c := 9) (n := 5) kq_9_0 (by decide) (by decide) rfl
theorem l9_2 {U : Nat} (hU : U = 7 ∨ U = 9) (h0 : 0 ≤ x) (h1 : x < 228) : zexec call rec ((.iaload, m, p) :: k) ls (zi x :: zr U 3 :: st) (zm N I A) = zexec call rec k ls (zi (A U 3 x.toNat) :: st) (zm N I A) := by
  rcases hU with rfl | rfl
  · exact zx_ai (n := 228) kq_7_3 h0 h1
  · exact zx_ai (n := 228) kq_9_3 h0 h1
theorem t9_2 {U : Nat} (hU : U = 7 ∨ U = 9) (h0 : 0 ≤ x) (h1 : x < 228) : zexec call rec ((.iastore, m, p) :: k) ls (zi y :: zi x :: zr U 3 :: st) (zm N I A) = zexec call rec k ls st (zm N I (zuA A U 3 (zset (A U 3) x.toNat y))) := by
  rcases hU with rfl | rfl
  · exact zx_si (n := 228) kq_7_3 h0 h1
  · exact zx_si (n := 228) kq_9_3 h0 h1
theorem n9_2 {U : Nat} (hU : U = 7 ∨ U = 9)  : zexec call rec ((.arraylength, m, p) :: k) ls (zr U 3 :: st) (zm N I A) = zexec call rec k ls (zi 228 :: st) (zm N I A) := by
  rcases hU with rfl | rfl
  · exact zx_ln (n := 228) (kd := 0) kq_7_3 (by decide) (by decide)
  · exact zx_ln (n := 228) (kd := 0) kq_9_3 (by decide) (by decide)
theorem g9_3 {U : Nat} (hU : U = 7 ∨ U = 9)  : zexec call rec ((.getfield ix, m, (9, 3, s)) :: k) ls (zr U 0 :: st) (zm N I A) = zexec call rec k ls (zr U 4 :: st) (zm N I A) := by
  rcases hU with rfl | rfl
  · exact zx_gf (c := 9) (n := 5) kq_7_0 (by decide) (by decide) rfl
  · exact zx_gf (c := 9) (n := 5) kq_9_0 (by decide) (by decide) rfl
theorem l9_3 {U : Nat} (hU : U = 7 ∨ U = 9) (h0 : 0 ≤ x) (h1 : x < 228) : zexec call rec ((.iaload, m, p) :: k) ls (zi x :: zr U 4 :: st) (zm N I A) = zexec call rec k ls (zi (A U 4 x.toNat) :: st) (zm N I A) := by
  rcases hU with rfl | rfl
  · exact zx_ai (n := 228) kq_7_4 h0 h1
  · exact zx_ai (n := 228) kq_9_4 h0 h1
theorem t9_3 {U : Nat} (hU : U = 7 ∨ U = 9) (h0 : 0 ≤ x) (h1 : x < 228) : zexec call rec ((.iastore, m, p) :: k) ls (zi y :: zi x :: zr U 4 :: st) (zm N I A) = zexec call rec k ls st (zm N I (zuA A U 4 (zset (A U 4) x.toNat y))) := by
  rcases hU with rfl | rfl
  · exact zx_si (n := 228) kq_7_4 h0 h1
  · exact zx_si (n := 228) kq_9_4 h0 h1
theorem n9_3 {U : Nat} (hU : U = 7 ∨ U = 9)  : zexec call rec ((.arraylength, m, p) :: k) ls (zr U 4 :: st) (zm N I A) = zexec call rec k ls (zi 228 :: st) (zm N I A) := by
  rcases hU with rfl | rfl
  · exact zx_ln (n := 228) (kd := 0) kq_7_4 (by decide) (by decide)
  · exact zx_ln (n := 228) (kd := 0) kq_9_4 (by decide) (by decide)
theorem g9_4 {U : Nat} (hU : U = 7 ∨ U = 9)  : zexec call rec ((.getfield ix, m, (9, 4, s)) :: k) ls (zr U 0 :: st) (zm N I A) = zexec call rec k ls (zr U 5 :: st) (zm N I A) := by
  rcases hU with rfl | rfl
  · exact zx_gf (c := 9) (n := 5) kq_7_0 (by decide) (by decide) rfl
  · exact zx_gf (c := 9) (n := 5) kq_9_0 (by decide) (by decide) rfl
theorem l9_4 {U : Nat} (hU : U = 7 ∨ U = 9) (h0 : 0 ≤ x) (h1 : x < 19) : zexec call rec ((.iaload, m, p) :: k) ls (zi x :: zr U 5 :: st) (zm N I A) = zexec call rec k ls (zi (A U 5 x.toNat) :: st) (zm N I A) := by
  rcases hU with rfl | rfl
  · exact zx_ai (n := 19) kq_7_5 h0 h1
  · exact zx_ai (n := 19) kq_9_5 h0 h1
theorem t9_4 {U : Nat} (hU : U = 7 ∨ U = 9) (h0 : 0 ≤ x) (h1 : x < 19) : zexec call rec ((.iastore, m, p) :: k) ls (zi y :: zi x :: zr U 5 :: st) (zm N I A) = zexec call rec k ls st (zm N I (zuA A U 5 (zset (A U 5) x.toNat y))) := by
  rcases hU with rfl | rfl
  · exact zx_si (n := 19) kq_7_5 h0 h1
  · exact zx_si (n := 19) kq_9_5 h0 h1
theorem n9_4 {U : Nat} (hU : U = 7 ∨ U = 9)  : zexec call rec ((.arraylength, m, p) :: k) ls (zr U 5 :: st) (zm N I A) = zexec call rec k ls (zi 19 :: st) (zm N I A) := by
  rcases hU with rfl | rfl
  · exact zx_ln (n := 19) (kd := 0) kq_7_5 (by decide) (by decide)
  · exact zx_ln (n := 19) (kd := 0) kq_9_5 (by decide) (by decide)
theorem g10_0 {W : Nat} (hW : W = 19 ∨ W = 20)  : zexec call rec ((.getfield ix, m, (10, 0, s)) :: k) ls (zr W 0 :: st) (zm N I A) = zexec call rec k ls (zi (I W 0) :: st) (zm N I A) := by
  rcases hW with rfl | rfl
  · exact zx_gf (c := 10) (n := 12) kq_19_0 (by decide) (by decide) rfl
  · exact zx_gf (c := 10) (n := 12) kq_20_0 (by decide) (by decide) rfl
theorem p10_0 {W : Nat} (hW : W = 19 ∨ W = 20)  : zexec call rec ((.putfield ix, m, (10, 0, 0)) :: k) ls (zi x :: zr W 0 :: st) (zm N I A) = zexec call rec k ls st (zm N (zup I W 0 x) A) := by
  rcases hW with rfl | rfl
  · exact zx_pf (c := 10) (n := 12) kq_19_0 (by decide) (by decide) rfl rfl
  · exact zx_pf (c := 10) (n := 12) kq_20_0 (by decide) (by decide) rfl rfl
theorem g10_1 {W : Nat} (hW : W = 19 ∨ W = 20)  : zexec call rec ((.getfield ix, m, (10, 1, s)) :: k) ls (zr W 0 :: st) (zm N I A) = zexec call rec k ls (zi (I W 1) :: st) (zm N I A) := by
  rcases hW with rfl | rfl
  · exact zx_gf (c := 10) (n := 12) kq_19_0 (by decide) (by decide) rfl
  · exact zx_gf (c := 10) (n := 12) kq_20_0 (by decide) (by decide) rfl
theorem p10_1 {W : Nat} (hW : W = 19 ∨ W = 20)  : zexec call rec ((.putfield ix, m, (10, 1, 0)) :: k) ls (zi x :: zr W 0 :: st) (zm N I A) = zexec call rec k ls st (zm N (zup I W 1 x) A) := by
  rcases hW with rfl | rfl
  · exact zx_pf (c := 10) (n := 12) kq_19_0 (by decide) (by decide) rfl rfl
  · exact zx_pf (c := 10) (n := 12) kq_20_0 (by decide) (by decide) rfl rfl
theorem g10_2 {W : Nat} (hW : W = 19 ∨ W = 20)  : zexec call rec ((.getfield ix, m, (10, 2, s)) :: k) ls (zr W 0 :: st) (zm N I A) = zexec call rec k ls (zr W 3 :: st) (zm N I A) := by
  rcases hW with rfl | rfl
  · exact zx_gf (c := 10) (n := 12) kq_19_0 (by decide) (by decide) rfl
  · exact zx_gf (c := 10) (n := 12) kq_20_0 (by decide) (by decide) rfl
theorem l10_2 {W : Nat} (hW : W = 19 ∨ W = 20) (h0 : 0 ≤ x) (h1 : x < 10) : zexec call rec ((.iaload, m, p) :: k) ls (zi x :: zr W 3 :: st) (zm N I A) = zexec call rec k ls (zi (A W 3 x.toNat) :: st) (zm N I A) := by
  rcases hW with rfl | rfl
  · exact zx_ai (n := 10) kq_19_3 h0 h1
  · exact zx_ai (n := 10) kq_20_3 h0 h1
theorem t10_2 {W : Nat} (hW : W = 19 ∨ W = 20) (h0 : 0 ≤ x) (h1 : x < 10) : zexec call rec ((.iastore, m, p) :: k) ls (zi y :: zi x :: zr W 3 :: st) (zm N I A) = zexec call rec k ls st (zm N I (zuA A W 3 (zset (A W 3) x.toNat y))) := by
  rcases hW with rfl | rfl
  · exact zx_si (n := 10) kq_19_3 h0 h1
  · exact zx_si (n := 10) kq_20_3 h0 h1
theorem n10_2 {W : Nat} (hW : W = 19 ∨ W = 20)  : zexec call rec ((.arraylength, m, p) :: k) ls (zr W 3 :: st) (zm N I A) = zexec call rec k ls (zi 10 :: st) (zm N I A) := by
  rcases hW with rfl | rfl
  · exact zx_ln (n := 10) (kd := 0) kq_19_3 (by decide) (by decide)
  · exact zx_ln (n := 10) (kd := 0) kq_20_3 (by decide) (by decide)
theorem g10_3 {W : Nat} (hW : W = 19 ∨ W = 20)  : zexec call rec ((.getfield ix, m, (10, 3, s)) :: k) ls (zr W 0 :: st) (zm N I A) = zexec call rec k ls (zr W 4 :: st) (zm N I A) := by
  rcases hW with rfl | rfl
  · exact zx_gf (c := 10) (n := 12) kq_19_0 (by decide) (by decide) rfl
  · exact zx_gf (c := 10) (n := 12) kq_20_0 (by decide) (by decide) rfl
theorem l10_3 {W : Nat} (hW : W = 19 ∨ W = 20) (h0 : 0 ≤ x) (h1 : x < 10) : zexec call rec ((.iaload, m, p) :: k) ls (zi x :: zr W 4 :: st) (zm N I A) = zexec call rec k ls (zi (A W 4 x.toNat) :: st) (zm N I A) := by
  rcases hW with rfl | rfl
  · exact zx_ai (n := 10) kq_19_4 h0 h1
  · exact zx_ai (n := 10) kq_20_4 h0 h1
theorem t10_3 {W : Nat} (hW : W = 19 ∨ W = 20) (h0 : 0 ≤ x) (h1 : x < 10) : zexec call rec ((.iastore, m, p) :: k) ls (zi y :: zi x :: zr W 4 :: st) (zm N I A) = zexec call rec k ls st (zm N I (zuA A W 4 (zset (A W 4) x.toNat y))) := by
  rcases hW with rfl | rfl
  · exact zx_si (n := 10) kq_19_4 h0 h1
  · exact zx_si (n := 10) kq_20_4 h0 h1
theorem n10_3 {W : Nat} (hW : W = 19 ∨ W = 20)  : zexec call rec ((.arraylength, m, p) :: k) ls (zr W 4 :: st) (zm N I A) = zexec call rec k ls (zi 10 :: st) (zm N I A) := by
  rcases hW with rfl | rfl
  · exact zx_ln (n := 10) (kd := 0) kq_19_4 (by decide) (by decide)
  · exact zx_ln (n := 10) (kd := 0) kq_20_4 (by decide) (by decide)
theorem g10_4 {W : Nat} (hW : W = 19 ∨ W = 20)  : zexec call rec ((.getfield ix, m, (10, 4, s)) :: k) ls (zr W 0 :: st) (zm N I A) = zexec call rec k ls (zi (I W 4) :: st) (zm N I A) := by
  rcases hW with rfl | rfl
  · exact zx_gf (c := 10) (n := 12) kq_19_0 (by decide) (by decide) rfl
  · exact zx_gf (c := 10) (n := 12) kq_20_0 (by decide) (by decide) rfl
theorem p10_4 {W : Nat} (hW : W = 19 ∨ W = 20)  : zexec call rec ((.putfield ix, m, (10, 4, 0)) :: k) ls (zi x :: zr W 0 :: st) (zm N I A) = zexec call rec k ls st (zm N (zup I W 4 x) A) := by
  rcases hW with rfl | rfl
  · exact zx_pf (c := 10) (n := 12) kq_19_0 (by decide) (by decide) rfl rfl
  · exact zx_pf (c := 10) (n := 12) kq_20_0 (by decide) (by decide) rfl rfl
theorem g10_5 {W : Nat} (hW : W = 19 ∨ W = 20)  : zexec call rec ((.getfield ix, m, (10, 5, s)) :: k) ls (zr W 0 :: st) (zm N I A) = zexec call rec k ls (zr W 6 :: st) (zm N I A) := by
  rcases hW with rfl | rfl
  · exact zx_gf (c := 10) (n := 12) kq_19_0 (by decide) (by decide) rfl
  · exact zx_gf (c := 10) (n := 12) kq_20_0 (by decide) (by decide) rfl
theorem l10_5 {W : Nat} (hW : W = 19 ∨ W = 20) (h0 : 0 ≤ x) (h1 : x < 19) : zexec call rec ((.iaload, m, p) :: k) ls (zi x :: zr W 6 :: st) (zm N I A) = zexec call rec k ls (zi (A W 6 x.toNat) :: st) (zm N I A) := by
  rcases hW with rfl | rfl
  · exact zx_ai (n := 19) kq_19_6 h0 h1
  · exact zx_ai (n := 19) kq_20_6 h0 h1
theorem t10_5 {W : Nat} (hW : W = 19 ∨ W = 20) (h0 : 0 ≤ x) (h1 : x < 19) : zexec call rec ((.iastore, m, p) :: k) ls (zi y :: zi x :: zr W 6 :: st) (zm N I A) = zexec call rec k ls st (zm N I (zuA A W 6 (zset (A W 6) x.toNat y))) := by
  rcases hW with rfl | rfl
  · exact zx_si (n := 19) kq_19_6 h0 h1
  · exact zx_si (n := 19) kq_20_6 h0 h1
theorem n10_5 {W : Nat} (hW : W = 19 ∨ W = 20)  : zexec call rec ((.arraylength, m, p) :: k) ls (zr W 6 :: st) (zm N I A) = zexec call rec k ls (zi 19 :: st) (zm N I A) := by
  rcases hW with rfl | rfl
  · exact zx_ln (n := 19) (kd := 0) kq_19_6 (by decide) (by decide)
  · exact zx_ln (n := 19) (kd := 0) kq_20_6 (by decide) (by decide)
theorem g10_6 {W : Nat} (hW : W = 19 ∨ W = 20)  : zexec call rec ((.getfield ix, m, (10, 6, s)) :: k) ls (zr W 0 :: st) (zm N I A) = zexec call rec k ls (zi (I W 6) :: st) (zm N I A) := by
  rcases hW with rfl | rfl
  · exact zx_gf (c := 10) (n := 12) kq_19_0 (by decide) (by decide) rfl
  · exact zx_gf (c := 10) (n := 12) kq_20_0 (by decide) (by decide) rfl
theorem p10_6 {W : Nat} (hW : W = 19 ∨ W = 20)  : zexec call rec ((.putfield ix, m, (10, 6, 0)) :: k) ls (zi x :: zr W 0 :: st) (zm N I A) = zexec call rec k ls st (zm N (zup I W 6 x) A) := by
  rcases hW with rfl | rfl
  · exact zx_pf (c := 10) (n := 12) kq_19_0 (by decide) (by decide) rfl rfl
  · exact zx_pf (c := 10) (n := 12) kq_20_0 (by decide) (by decide) rfl rfl
theorem g10_7 {W : Nat} (hW : W = 19 ∨ W = 20)  : zexec call rec ((.getfield ix, m, (10, 7, s)) :: k) ls (zr W 0 :: st) (zm N I A) = zexec call rec k ls (zi (I W 7) :: st) (zm N I A) := by
  rcases hW with rfl | rfl
  · exact zx_gf (c := 10) (n := 12) kq_19_0 (by decide) (by decide) rfl
  · exact zx_gf (c := 10) (n := 12) kq_20_0 (by decide) (by decide) rfl
theorem p10_7 {W : Nat} (hW : W = 19 ∨ W = 20)  : zexec call rec ((.putfield ix, m, (10, 7, 0)) :: k) ls (zi x :: zr W 0 :: st) (zm N I A) = zexec call rec k ls st (zm N (zup I W 7 x) A) := by
  rcases hW with rfl | rfl
  · exact zx_pf (c := 10) (n := 12) kq_19_0 (by decide) (by decide) rfl rfl
  · exact zx_pf (c := 10) (n := 12) kq_20_0 (by decide) (by decide) rfl rfl
theorem g10_8 {W : Nat} (hW : W = 19 ∨ W = 20)  : zexec call rec ((.getfield ix, m, (10, 8, s)) :: k) ls (zr W 0 :: st) (zm N I A) = zexec call rec k ls (zi (I W 8) :: st) (zm N I A) := by
  rcases hW with rfl | rfl
  · exact zx_gf (c := 10) (n := 12) kq_19_0 (by decide) (by decide) rfl
  · exact zx_gf (c := 10) (n := 12) kq_20_0 (by decide) (by decide) rfl
theorem p10_8 {W : Nat} (hW : W = 19 ∨ W = 20)  : zexec call rec ((.putfield ix, m, (10, 8, 0)) :: k) ls (zi x :: zr W 0 :: st) (zm N I A) = zexec call rec k ls st (zm N (zup I W 8 x) A) := by
  rcases hW with rfl | rfl
  · exact zx_pf (c := 10) (n := 12) kq_19_0 (by decide) (by decide) rfl rfl
  · exact zx_pf (c := 10) (n := 12) kq_20_0 (by decide) (by decide) rfl rfl
theorem g10_9 {W : Nat} (hW : W = 19 ∨ W = 20)  : zexec call rec ((.getfield ix, m, (10, 9, s)) :: k) ls (zr W 0 :: st) (zm N I A) = zexec call rec k ls (zi (I W 9) :: st) (zm N I A) := by
  rcases hW with rfl | rfl
  · exact zx_gf (c := 10) (n := 12) kq_19_0 (by decide) (by decide) rfl
  · exact zx_gf (c := 10) (n := 12) kq_20_0 (by decide) (by decide) rfl
theorem p10_9 {W : Nat} (hW : W = 19 ∨ W = 20)  : zexec call rec ((.putfield ix, m, (10, 9, 0)) :: k) ls (zi x :: zr W 0 :: st) (zm N I A) = zexec call rec k ls st (zm N (zup I W 9 x) A) := by
  rcases hW with rfl | rfl
  · exact zx_pf (c := 10) (n := 12) kq_19_0 (by decide) (by decide) rfl rfl
  · exact zx_pf (c := 10) (n := 12) kq_20_0 (by decide) (by decide) rfl rfl
theorem g10_10 {W : Nat} (hW : W = 19 ∨ W = 20)  : zexec call rec ((.getfield ix, m, (10, 10, s)) :: k) ls (zr W 0 :: st) (zm N I A) = zexec call rec k ls (zi (I W 10) :: st) (zm N I A) := by
  rcases hW with rfl | rfl
  · exact zx_gf (c := 10) (n := 12) kq_19_0 (by decide) (by decide) rfl
  · exact zx_gf (c := 10) (n := 12) kq_20_0 (by decide) (by decide) rfl
theorem p10_10 {W : Nat} (hW : W = 19 ∨ W = 20)  : zexec call rec ((.putfield ix, m, (10, 10, 0)) :: k) ls (zi x :: zr W 0 :: st) (zm N I A) = zexec call rec k ls st (zm N (zup I W 10 x) A) := by
  rcases hW with rfl | rfl
  · exact zx_pf (c := 10) (n := 12) kq_19_0 (by decide) (by decide) rfl rfl
  · exact zx_pf (c := 10) (n := 12) kq_20_0 (by decide) (by decide) rfl rfl
theorem g10_11 {W : Nat} (hW : W = 19 ∨ W = 20)  : zexec call rec ((.getfield ix, m, (10, 11, s)) :: k) ls (zr W 0 :: st) (zm N I A) = zexec call rec k ls (zi (I W 11) :: st) (zm N I A) := by
  rcases hW with rfl | rfl
  · exact zx_gf (c := 10) (n := 12) kq_19_0 (by decide) (by decide) rfl
  · exact zx_gf (c := 10) (n := 12) kq_20_0 (by decide) (by decide) rfl
theorem p10_11 {W : Nat} (hW : W = 19 ∨ W = 20) (hx : x = 0 ∨ x = 1) : zexec call rec ((.putfield ix, m, (10, 11, 1)) :: k) ls (zi x :: zr W 0 :: st) (zm N I A) = zexec call rec k ls st (zm N (zup I W 11 x) A) := by
  rcases hW with rfl | rfl
  · exact zx_pfb (c := 10) (n := 12) kq_19_0 (by decide) (by decide) rfl rfl hx
  · exact zx_pfb (c := 10) (n := 12) kq_20_0 (by decide) (by decide) rfl rfl hx
theorem g11_0  : zexec call rec ((.getfield ix, m, (11, 0, s)) :: k) ls (zr 2 0 :: st) (zm N I A) = zexec call rec k ls (zr 3 0 :: st) (zm N I A) := zx_gf (c := 11) (n := 13) kq_2_0 (by decide) (by decide) rfl
theorem g11_1  : zexec call rec ((.getfield ix, m, (11, 1, s)) :: k) ls (zr 2 0 :: st) (zm N I A) = zexec call rec k ls (zr 4 0 :: st) (zm N I A) := zx_gf (c := 11) (n := 13) kq_2_0 (by decide) (by decide) rfl
theorem g11_2  : zexec call rec ((.getfield ix, m, (11, 2, s)) :: k) ls (zr 2 0 :: st) (zm N I A) = zexec call rec k ls (zr 6 0 :: st) (zm N I A) := zx_gf (c := 11) (n := 13) kq_2_0 (by decide) (by decide) rfl
theorem g11_3  : zexec call rec ((.getfield ix, m, (11, 3, s)) :: k) ls (zr 2 0 :: st) (zm N I A) = zexec call rec k ls (zr 10 0 :: st) (zm N I A) := zx_gf (c := 11) (n := 13) kq_2_0 (by decide) (by decide) rfl
theorem g11_4  : zexec call rec ((.getfield ix, m, (11, 4, s)) :: k) ls (zr 2 0 :: st) (zm N I A) = zexec call rec k ls (zr 11 0 :: st) (zm N I A) := zx_gf (c := 11) (n := 13) kq_2_0 (by decide) (by decide) rfl
theorem g11_5  : zexec call rec ((.getfield ix, m, (11, 5, s)) :: k) ls (zr 2 0 :: st) (zm N I A) = zexec call rec k ls (zr 2 6 :: st) (zm N I A) := zx_gf (c := 11) (n := 13) kq_2_0 (by decide) (by decide) rfl
theorem n11_5  : zexec call rec ((.arraylength, m, p) :: k) ls (zr 2 6 :: st) (zm N I A) = zexec call rec k ls (zi 2 :: st) (zm N I A) := zx_ln (n := 2) (kd := 4) kq_2_6 (by decide) (by decide)
theorem g11_6  : zexec call rec ((.getfield ix, m, (11, 6, s)) :: k) ls (zr 2 0 :: st) (zm N I A) = zexec call rec k ls (zr 2 7 :: st) (zm N I A) := zx_gf (c := 11) (n := 13) kq_2_0 (by decide) (by decide) rfl
theorem l11_6 (h0 : 0 ≤ x) (h1 : x < 2) : zexec call rec ((.baload, m, p) :: k) ls (zi x :: zr 2 7 :: st) (zm N I A) = zexec call rec k ls (zi (A 2 7 x.toNat) :: st) (zm N I A) := zx_ab (n := 2) (kd := 1) kq_2_7 (by decide) h0 h1
theorem t11_6 (h0 : 0 ≤ x) (h1 : x < 2) (hy : y = 0 ∨ y = 1) : zexec call rec ((.bastore, m, p) :: k) ls (zi y :: zi x :: zr 2 7 :: st) (zm N I A) = zexec call rec k ls st (zm N I (zuA A 2 7 (zset (A 2 7) x.toNat y))) := zx_sb (n := 2) kq_2_7 h0 h1 hy
theorem n11_6  : zexec call rec ((.arraylength, m, p) :: k) ls (zr 2 7 :: st) (zm N I A) = zexec call rec k ls (zi 2 :: st) (zm N I A) := zx_ln (n := 2) (kd := 1) kq_2_7 (by decide) (by decide)
theorem g11_7  : zexec call rec ((.getfield ix, m, (11, 7, s)) :: k) ls (zr 2 0 :: st) (zm N I A) = zexec call rec k ls (zr 14 0 :: st) (zm N I A) := zx_gf (c := 11) (n := 13) kq_2_0 (by decide) (by decide) rfl
theorem g11_8  : zexec call rec ((.getfield ix, m, (11, 8, s)) :: k) ls (zr 2 0 :: st) (zm N I A) = zexec call rec k ls (zr 16 0 :: st) (zm N I A) := zx_gf (c := 11) (n := 13) kq_2_0 (by decide) (by decide) rfl
theorem g11_9  : zexec call rec ((.getfield ix, m, (11, 9, s)) :: k) ls (zr 2 0 :: st) (zm N I A) = zexec call rec k ls (zr 17 0 :: st) (zm N I A) := zx_gf (c := 11) (n := 13) kq_2_0 (by decide) (by decide) rfl
theorem g11_10  : zexec call rec ((.getfield ix, m, (11, 10, s)) :: k) ls (zr 2 0 :: st) (zm N I A) = zexec call rec k ls (zr 18 0 :: st) (zm N I A) := zx_gf (c := 11) (n := 13) kq_2_0 (by decide) (by decide) rfl
theorem g11_11  : zexec call rec ((.getfield ix, m, (11, 11, s)) :: k) ls (zr 2 0 :: st) (zm N I A) = zexec call rec k ls (zr (I 2 11).toNat 0 :: st) (zm N I A) := zx_gf (c := 11) (n := 13) kq_2_0 (by decide) (by decide) rfl
theorem p11_11  : zexec call rec ((.putfield ix, m, (11, 11, 2)) :: k) ls (zr i9 0 :: zr 2 0 :: st) (zm N I A) = zexec call rec k ls st (zm N (zup I 2 11 i9) A) := zx_pfr (c := 11) (n := 13) kq_2_0 (by decide) (by decide) rfl rfl
theorem g11_12  : zexec call rec ((.getfield ix, m, (11, 12, s)) :: k) ls (zr 2 0 :: st) (zm N I A) = zexec call rec k ls (zr (I 2 12).toNat 0 :: st) (zm N I A) := zx_gf (c := 11) (n := 13) kq_2_0 (by decide) (by decide) rfl
theorem p11_12  : zexec call rec ((.putfield ix, m, (11, 12, 2)) :: k) ls (zr i9 0 :: zr 2 0 :: st) (zm N I A) = zexec call rec k ls st (zm N (zup I 2 12 i9) A) := zx_pfr (c := 11) (n := 13) kq_2_0 (by decide) (by decide) rfl rfl
theorem g12_0  : zexec call rec ((.getfield ix, m, (12, 0, s)) :: k) ls (zr 1 0 :: st) (zm N I A) = zexec call rec k ls (zi (I 1 0) :: st) (zm N I A) := zx_gf (c := 12) (n := 69) kq_1_0 (by decide) (by decide) rfl
theorem p12_0  : zexec call rec ((.putfield ix, m, (12, 0, 0)) :: k) ls (zi x :: zr 1 0 :: st) (zm N I A) = zexec call rec k ls st (zm N (zup I 1 0 x) A) := zx_pf (c := 12) (n := 69) kq_1_0 (by decide) (by decide) rfl rfl
theorem g12_1  : zexec call rec ((.getfield ix, m, (12, 1, s)) :: k) ls (zr 1 0 :: st) (zm N I A) = zexec call rec k ls (zr 1 2 :: st) (zm N I A) := zx_gf (c := 12) (n := 69) kq_1_0 (by decide) (by decide) rfl
theorem l12_1 (h0 : 0 ≤ x) (h1 : x < 400) : zexec call rec ((.iaload, m, p) :: k) ls (zi x :: zr 1 2 :: st) (zm N I A) = zexec call rec k ls (zi (A 1 2 x.toNat) :: st) (zm N I A) := zx_ai (n := 400) kq_1_2 h0 h1
theorem t12_1 (h0 : 0 ≤ x) (h1 : x < 400) : zexec call rec ((.iastore, m, p) :: k) ls (zi y :: zi x :: zr 1 2 :: st) (zm N I A) = zexec call rec k ls st (zm N I (zuA A 1 2 (zset (A 1 2) x.toNat y))) := zx_si (n := 400) kq_1_2 h0 h1
theorem n12_1  : zexec call rec ((.arraylength, m, p) :: k) ls (zr 1 2 :: st) (zm N I A) = zexec call rec k ls (zi 400 :: st) (zm N I A) := zx_ln (n := 400) (kd := 0) kq_1_2 (by decide) (by decide)
theorem g12_2  : zexec call rec ((.getfield ix, m, (12, 2, s)) :: k) ls (zr 1 0 :: st) (zm N I A) = zexec call rec k ls (zi (I 1 2) :: st) (zm N I A) := zx_gf (c := 12) (n := 69) kq_1_0 (by decide) (by decide) rfl
theorem p12_2  : zexec call rec ((.putfield ix, m, (12, 2, 0)) :: k) ls (zi x :: zr 1 0 :: st) (zm N I A) = zexec call rec k ls st (zm N (zup I 1 2 x) A) := zx_pf (c := 12) (n := 69) kq_1_0 (by decide) (by decide) rfl rfl
theorem g12_3  : zexec call rec ((.getfield ix, m, (12, 3, s)) :: k) ls (zr 1 0 :: st) (zm N I A) = zexec call rec k ls (zr 1 4 :: st) (zm N I A) := zx_gf (c := 12) (n := 69) kq_1_0 (by decide) (by decide) rfl
theorem l12_3 (h0 : 0 ≤ x) (h1 : x < 8) : zexec call rec ((.iaload, m, p) :: k) ls (zi x :: zr 1 4 :: st) (zm N I A) = zexec call rec k ls (zi (A 1 4 x.toNat) :: st) (zm N I A) := zx_ai (n := 8) kq_1_4 h0 h1
theorem t12_3 (h0 : 0 ≤ x) (h1 : x < 8) : zexec call rec ((.iastore, m, p) :: k) ls (zi y :: zi x :: zr 1 4 :: st) (zm N I A) = zexec call rec k ls st (zm N I (zuA A 1 4 (zset (A 1 4) x.toNat y))) := zx_si (n := 8) kq_1_4 h0 h1
theorem n12_3  : zexec call rec ((.arraylength, m, p) :: k) ls (zr 1 4 :: st) (zm N I A) = zexec call rec k ls (zi 8 :: st) (zm N I A) := zx_ln (n := 8) (kd := 0) kq_1_4 (by decide) (by decide)
theorem g12_4  : zexec call rec ((.getfield ix, m, (12, 4, s)) :: k) ls (zr 1 0 :: st) (zm N I A) = zexec call rec k ls (zr 1 5 :: st) (zm N I A) := zx_gf (c := 12) (n := 69) kq_1_0 (by decide) (by decide) rfl
theorem l12_4 (h0 : 0 ≤ x) (h1 : x < 8) : zexec call rec ((.iaload, m, p) :: k) ls (zi x :: zr 1 5 :: st) (zm N I A) = zexec call rec k ls (zi (A 1 5 x.toNat) :: st) (zm N I A) := zx_ai (n := 8) kq_1_5 h0 h1
theorem t12_4 (h0 : 0 ≤ x) (h1 : x < 8) : zexec call rec ((.iastore, m, p) :: k) ls (zi y :: zi x :: zr 1 5 :: st) (zm N I A) = zexec call rec k ls st (zm N I (zuA A 1 5 (zset (A 1 5) x.toNat y))) := zx_si (n := 8) kq_1_5 h0 h1
theorem n12_4  : zexec call rec ((.arraylength, m, p) :: k) ls (zr 1 5 :: st) (zm N I A) = zexec call rec k ls (zi 8 :: st) (zm N I A) := zx_ln (n := 8) (kd := 0) kq_1_5 (by decide) (by decide)
theorem g12_5  : zexec call rec ((.getfield ix, m, (12, 5, s)) :: k) ls (zr 1 0 :: st) (zm N I A) = zexec call rec k ls (zr 1 6 :: st) (zm N I A) := zx_gf (c := 12) (n := 69) kq_1_0 (by decide) (by decide) rfl
theorem l12_5 (h0 : 0 ≤ x) (h1 : x < 10) : zexec call rec ((.iaload, m, p) :: k) ls (zi x :: zr 1 6 :: st) (zm N I A) = zexec call rec k ls (zi (A 1 6 x.toNat) :: st) (zm N I A) := zx_ai (n := 10) kq_1_6 h0 h1
theorem t12_5 (h0 : 0 ≤ x) (h1 : x < 10) : zexec call rec ((.iastore, m, p) :: k) ls (zi y :: zi x :: zr 1 6 :: st) (zm N I A) = zexec call rec k ls st (zm N I (zuA A 1 6 (zset (A 1 6) x.toNat y))) := zx_si (n := 10) kq_1_6 h0 h1
theorem n12_5  : zexec call rec ((.arraylength, m, p) :: k) ls (zr 1 6 :: st) (zm N I A) = zexec call rec k ls (zi 10 :: st) (zm N I A) := zx_ln (n := 10) (kd := 0) kq_1_6 (by decide) (by decide)
theorem g12_6  : zexec call rec ((.getfield ix, m, (12, 6, s)) :: k) ls (zr 1 0 :: st) (zm N I A) = zexec call rec k ls (zr 1 7 :: st) (zm N I A) := zx_gf (c := 12) (n := 69) kq_1_0 (by decide) (by decide) rfl
theorem l12_6 (h0 : 0 ≤ x) (h1 : x < 10) : zexec call rec ((.iaload, m, p) :: k) ls (zi x :: zr 1 7 :: st) (zm N I A) = zexec call rec k ls (zi (A 1 7 x.toNat) :: st) (zm N I A) := zx_ai (n := 10) kq_1_7 h0 h1
theorem t12_6 (h0 : 0 ≤ x) (h1 : x < 10) : zexec call rec ((.iastore, m, p) :: k) ls (zi y :: zi x :: zr 1 7 :: st) (zm N I A) = zexec call rec k ls st (zm N I (zuA A 1 7 (zset (A 1 7) x.toNat y))) := zx_si (n := 10) kq_1_7 h0 h1
theorem n12_6  : zexec call rec ((.arraylength, m, p) :: k) ls (zr 1 7 :: st) (zm N I A) = zexec call rec k ls (zi 10 :: st) (zm N I A) := zx_ln (n := 10) (kd := 0) kq_1_7 (by decide) (by decide)
theorem g12_7  : zexec call rec ((.getfield ix, m, (12, 7, s)) :: k) ls (zr 1 0 :: st) (zm N I A) = zexec call rec k ls (zr 1 8 :: st) (zm N I A) := zx_gf (c := 12) (n := 69) kq_1_0 (by decide) (by decide) rfl
theorem l12_7 (h0 : 0 ≤ x) (h1 : x < 10) : zexec call rec ((.iaload, m, p) :: k) ls (zi x :: zr 1 8 :: st) (zm N I A) = zexec call rec k ls (zi (A 1 8 x.toNat) :: st) (zm N I A) := zx_ai (n := 10) kq_1_8 h0 h1
theorem t12_7 (h0 : 0 ≤ x) (h1 : x < 10) : zexec call rec ((.iastore, m, p) :: k) ls (zi y :: zi x :: zr 1 8 :: st) (zm N I A) = zexec call rec k ls st (zm N I (zuA A 1 8 (zset (A 1 8) x.toNat y))) := zx_si (n := 10) kq_1_8 h0 h1
theorem n12_7  : zexec call rec ((.arraylength, m, p) :: k) ls (zr 1 8 :: st) (zm N I A) = zexec call rec k ls (zi 10 :: st) (zm N I A) := zx_ln (n := 10) (kd := 0) kq_1_8 (by decide) (by decide)
theorem g12_8  : zexec call rec ((.getfield ix, m, (12, 8, s)) :: k) ls (zr 1 0 :: st) (zm N I A) = zexec call rec k ls (zr 1 9 :: st) (zm N I A) := zx_gf (c := 12) (n := 69) kq_1_0 (by decide) (by decide) rfl
theorem l12_8 (h0 : 0 ≤ x) (h1 : x < 10) : zexec call rec ((.iaload, m, p) :: k) ls (zi x :: zr 1 9 :: st) (zm N I A) = zexec call rec k ls (zi (A 1 9 x.toNat) :: st) (zm N I A) := zx_ai (n := 10) kq_1_9 h0 h1
theorem t12_8 (h0 : 0 ≤ x) (h1 : x < 10) : zexec call rec ((.iastore, m, p) :: k) ls (zi y :: zi x :: zr 1 9 :: st) (zm N I A) = zexec call rec k ls st (zm N I (zuA A 1 9 (zset (A 1 9) x.toNat y))) := zx_si (n := 10) kq_1_9 h0 h1
theorem n12_8  : zexec call rec ((.arraylength, m, p) :: k) ls (zr 1 9 :: st) (zm N I A) = zexec call rec k ls (zi 10 :: st) (zm N I A) := zx_ln (n := 10) (kd := 0) kq_1_9 (by decide) (by decide)
theorem g12_9  : zexec call rec ((.getfield ix, m, (12, 9, s)) :: k) ls (zr 1 0 :: st) (zm N I A) = zexec call rec k ls (zr 1 10 :: st) (zm N I A) := zx_gf (c := 12) (n := 69) kq_1_0 (by decide) (by decide) rfl
theorem l12_9 (h0 : 0 ≤ x) (h1 : x < 19) : zexec call rec ((.iaload, m, p) :: k) ls (zi x :: zr 1 10 :: st) (zm N I A) = zexec call rec k ls (zi (A 1 10 x.toNat) :: st) (zm N I A) := zx_ai (n := 19) kq_1_10 h0 h1
theorem t12_9 (h0 : 0 ≤ x) (h1 : x < 19) : zexec call rec ((.iastore, m, p) :: k) ls (zi y :: zi x :: zr 1 10 :: st) (zm N I A) = zexec call rec k ls st (zm N I (zuA A 1 10 (zset (A 1 10) x.toNat y))) := zx_si (n := 19) kq_1_10 h0 h1
theorem n12_9  : zexec call rec ((.arraylength, m, p) :: k) ls (zr 1 10 :: st) (zm N I A) = zexec call rec k ls (zi 19 :: st) (zm N I A) := zx_ln (n := 19) (kd := 0) kq_1_10 (by decide) (by decide)
theorem g12_10  : zexec call rec ((.getfield ix, m, (12, 10, s)) :: k) ls (zr 1 0 :: st) (zm N I A) = zexec call rec k ls (zr 1 11 :: st) (zm N I A) := zx_gf (c := 12) (n := 69) kq_1_0 (by decide) (by decide) rfl
theorem l12_10 (h0 : 0 ≤ x) (h1 : x < 19) : zexec call rec ((.iaload, m, p) :: k) ls (zi x :: zr 1 11 :: st) (zm N I A) = zexec call rec k ls (zi (A 1 11 x.toNat) :: st) (zm N I A) := zx_ai (n := 19) kq_1_11 h0 h1
theorem t12_10 (h0 : 0 ≤ x) (h1 : x < 19) : zexec call rec ((.iastore, m, p) :: k) ls (zi y :: zi x :: zr 1 11 :: st) (zm N I A) = zexec call rec k ls st (zm N I (zuA A 1 11 (zset (A 1 11) x.toNat y))) := zx_si (n := 19) kq_1_11 h0 h1
theorem n12_10  : zexec call rec ((.arraylength, m, p) :: k) ls (zr 1 11 :: st) (zm N I A) = zexec call rec k ls (zi 19 :: st) (zm N I A) := zx_ln (n := 19) (kd := 0) kq_1_11 (by decide) (by decide)
theorem g12_11  : zexec call rec ((.getfield ix, m, (12, 11, s)) :: k) ls (zr 1 0 :: st) (zm N I A) = zexec call rec k ls (zi (I 1 11) :: st) (zm N I A) := zx_gf (c := 12) (n := 69) kq_1_0 (by decide) (by decide) rfl
theorem p12_11  : zexec call rec ((.putfield ix, m, (12, 11, 0)) :: k) ls (zi x :: zr 1 0 :: st) (zm N I A) = zexec call rec k ls st (zm N (zup I 1 11 x) A) := zx_pf (c := 12) (n := 69) kq_1_0 (by decide) (by decide) rfl rfl
theorem g12_12  : zexec call rec ((.getfield ix, m, (12, 12, s)) :: k) ls (zr 1 0 :: st) (zm N I A) = zexec call rec k ls (zi (I 1 12) :: st) (zm N I A) := zx_gf (c := 12) (n := 69) kq_1_0 (by decide) (by decide) rfl
theorem p12_12  : zexec call rec ((.putfield ix, m, (12, 12, 0)) :: k) ls (zi x :: zr 1 0 :: st) (zm N I A) = zexec call rec k ls st (zm N (zup I 1 12 x) A) := zx_pf (c := 12) (n := 69) kq_1_0 (by decide) (by decide) rfl rfl
theorem g12_13  : zexec call rec ((.getfield ix, m, (12, 13, s)) :: k) ls (zr 1 0 :: st) (zm N I A) = zexec call rec k ls (zi (I 1 13) :: st) (zm N I A) := zx_gf (c := 12) (n := 69) kq_1_0 (by decide) (by decide) rfl
theorem p12_13  : zexec call rec ((.putfield ix, m, (12, 13, 0)) :: k) ls (zi x :: zr 1 0 :: st) (zm N I A) = zexec call rec k ls st (zm N (zup I 1 13 x) A) := zx_pf (c := 12) (n := 69) kq_1_0 (by decide) (by decide) rfl rfl
theorem g12_14  : zexec call rec ((.getfield ix, m, (12, 14, s)) :: k) ls (zr 1 0 :: st) (zm N I A) = zexec call rec k ls (zi (I 1 14) :: st) (zm N I A) := zx_gf (c := 12) (n := 69) kq_1_0 (by decide) (by decide) rfl
theorem p12_14  : zexec call rec ((.putfield ix, m, (12, 14, 0)) :: k) ls (zi x :: zr 1 0 :: st) (zm N I A) = zexec call rec k ls st (zm N (zup I 1 14 x) A) := zx_pf (c := 12) (n := 69) kq_1_0 (by decide) (by decide) rfl rfl
theorem g12_15  : zexec call rec ((.getfield ix, m, (12, 15, s)) :: k) ls (zr 1 0 :: st) (zm N I A) = zexec call rec k ls (zi (I 1 15) :: st) (zm N I A) := zx_gf (c := 12) (n := 69) kq_1_0 (by decide) (by decide) rfl
theorem p12_15  : zexec call rec ((.putfield ix, m, (12, 15, 0)) :: k) ls (zi x :: zr 1 0 :: st) (zm N I A) = zexec call rec k ls st (zm N (zup I 1 15 x) A) := zx_pf (c := 12) (n := 69) kq_1_0 (by decide) (by decide) rfl rfl
theorem g12_16  : zexec call rec ((.getfield ix, m, (12, 16, s)) :: k) ls (zr 1 0 :: st) (zm N I A) = zexec call rec k ls (zi (I 1 16) :: st) (zm N I A) := zx_gf (c := 12) (n := 69) kq_1_0 (by decide) (by decide) rfl
theorem p12_16  : zexec call rec ((.putfield ix, m, (12, 16, 0)) :: k) ls (zi x :: zr 1 0 :: st) (zm N I A) = zexec call rec k ls st (zm N (zup I 1 16 x) A) := zx_pf (c := 12) (n := 69) kq_1_0 (by decide) (by decide) rfl rfl
theorem g12_17  : zexec call rec ((.getfield ix, m, (12, 17, s)) :: k) ls (zr 1 0 :: st) (zm N I A) = zexec call rec k ls (zi (I 1 17) :: st) (zm N I A) := zx_gf (c := 12) (n := 69) kq_1_0 (by decide) (by decide) rfl
theorem p12_17  : zexec call rec ((.putfield ix, m, (12, 17, 0)) :: k) ls (zi x :: zr 1 0 :: st) (zm N I A) = zexec call rec k ls st (zm N (zup I 1 17 x) A) := zx_pf (c := 12) (n := 69) kq_1_0 (by decide) (by decide) rfl rfl
theorem g12_18  : zexec call rec ((.getfield ix, m, (12, 18, s)) :: k) ls (zr 1 0 :: st) (zm N I A) = zexec call rec k ls (zi (I 1 18) :: st) (zm N I A) := zx_gf (c := 12) (n := 69) kq_1_0 (by decide) (by decide) rfl
theorem p12_18  : zexec call rec ((.putfield ix, m, (12, 18, 0)) :: k) ls (zi x :: zr 1 0 :: st) (zm N I A) = zexec call rec k ls st (zm N (zup I 1 18 x) A) := zx_pf (c := 12) (n := 69) kq_1_0 (by decide) (by decide) rfl rfl
theorem g12_19  : zexec call rec ((.getfield ix, m, (12, 19, s)) :: k) ls (zr 1 0 :: st) (zm N I A) = zexec call rec k ls (zi (I 1 19) :: st) (zm N I A) := zx_gf (c := 12) (n := 69) kq_1_0 (by decide) (by decide) rfl
theorem p12_19 (hx : x = 0 ∨ x = 1) : zexec call rec ((.putfield ix, m, (12, 19, 1)) :: k) ls (zi x :: zr 1 0 :: st) (zm N I A) = zexec call rec k ls st (zm N (zup I 1 19 x) A) := zx_pfb (c := 12) (n := 69) kq_1_0 (by decide) (by decide) rfl rfl hx
theorem g12_20  : zexec call rec ((.getfield ix, m, (12, 20, s)) :: k) ls (zr 1 0 :: st) (zm N I A) = zexec call rec k ls (zi (I 1 20) :: st) (zm N I A) := zx_gf (c := 12) (n := 69) kq_1_0 (by decide) (by decide) rfl
theorem p12_20 (hx : x = 0 ∨ x = 1) : zexec call rec ((.putfield ix, m, (12, 20, 1)) :: k) ls (zi x :: zr 1 0 :: st) (zm N I A) = zexec call rec k ls st (zm N (zup I 1 20 x) A) := zx_pfb (c := 12) (n := 69) kq_1_0 (by decide) (by decide) rfl rfl hx
theorem g12_21  : zexec call rec ((.getfield ix, m, (12, 21, s)) :: k) ls (zr 1 0 :: st) (zm N I A) = zexec call rec k ls (zi (I 1 21) :: st) (zm N I A) := zx_gf (c := 12) (n := 69) kq_1_0 (by decide) (by decide) rfl
theorem p12_21  : zexec call rec ((.putfield ix, m, (12, 21, 0)) :: k) ls (zi x :: zr 1 0 :: st) (zm N I A) = zexec call rec k ls st (zm N (zup I 1 21 x) A) := zx_pf (c := 12) (n := 69) kq_1_0 (by decide) (by decide) rfl rfl
theorem g12_22  : zexec call rec ((.getfield ix, m, (12, 22, s)) :: k) ls (zr 1 0 :: st) (zm N I A) = zexec call rec k ls (zi (I 1 22) :: st) (zm N I A) := zx_gf (c := 12) (n := 69) kq_1_0 (by decide) (by decide) rfl
theorem p12_22  : zexec call rec ((.putfield ix, m, (12, 22, 0)) :: k) ls (zi x :: zr 1 0 :: st) (zm N I A) = zexec call rec k ls st (zm N (zup I 1 22 x) A) := zx_pf (c := 12) (n := 69) kq_1_0 (by decide) (by decide) rfl rfl
theorem g12_23  : zexec call rec ((.getfield ix, m, (12, 23, s)) :: k) ls (zr 1 0 :: st) (zm N I A) = zexec call rec k ls (zr 1 24 :: st) (zm N I A) := zx_gf (c := 12) (n := 69) kq_1_0 (by decide) (by decide) rfl
theorem l12_23 (h0 : 0 ≤ x) (h1 : x < 10) : zexec call rec ((.iaload, m, p) :: k) ls (zi x :: zr 1 24 :: st) (zm N I A) = zexec call rec k ls (zi (A 1 24 x.toNat) :: st) (zm N I A) := zx_ai (n := 10) kq_1_24 h0 h1
theorem t12_23 (h0 : 0 ≤ x) (h1 : x < 10) : zexec call rec ((.iastore, m, p) :: k) ls (zi y :: zi x :: zr 1 24 :: st) (zm N I A) = zexec call rec k ls st (zm N I (zuA A 1 24 (zset (A 1 24) x.toNat y))) := zx_si (n := 10) kq_1_24 h0 h1
theorem n12_23  : zexec call rec ((.arraylength, m, p) :: k) ls (zr 1 24 :: st) (zm N I A) = zexec call rec k ls (zi 10 :: st) (zm N I A) := zx_ln (n := 10) (kd := 0) kq_1_24 (by decide) (by decide)
theorem g12_24  : zexec call rec ((.getfield ix, m, (12, 24, s)) :: k) ls (zr 1 0 :: st) (zm N I A) = zexec call rec k ls (zr 1 25 :: st) (zm N I A) := zx_gf (c := 12) (n := 69) kq_1_0 (by decide) (by decide) rfl
theorem l12_24 (h0 : 0 ≤ x) (h1 : x < 10) : zexec call rec ((.iaload, m, p) :: k) ls (zi x :: zr 1 25 :: st) (zm N I A) = zexec call rec k ls (zi (A 1 25 x.toNat) :: st) (zm N I A) := zx_ai (n := 10) kq_1_25 h0 h1
theorem t12_24 (h0 : 0 ≤ x) (h1 : x < 10) : zexec call rec ((.iastore, m, p) :: k) ls (zi y :: zi x :: zr 1 25 :: st) (zm N I A) = zexec call rec k ls st (zm N I (zuA A 1 25 (zset (A 1 25) x.toNat y))) := zx_si (n := 10) kq_1_25 h0 h1
theorem n12_24  : zexec call rec ((.arraylength, m, p) :: k) ls (zr 1 25 :: st) (zm N I A) = zexec call rec k ls (zi 10 :: st) (zm N I A) := zx_ln (n := 10) (kd := 0) kq_1_25 (by decide) (by decide)
theorem g12_25  : zexec call rec ((.getfield ix, m, (12, 25, s)) :: k) ls (zr 1 0 :: st) (zm N I A) = zexec call rec k ls (zr 1 26 :: st) (zm N I A) := zx_gf (c := 12) (n := 69) kq_1_0 (by decide) (by decide) rfl
theorem l12_25 (h0 : 0 ≤ x) (h1 : x < 4) : zexec call rec ((.iaload, m, p) :: k) ls (zi x :: zr 1 26 :: st) (zm N I A) = zexec call rec k ls (zi (A 1 26 x.toNat) :: st) (zm N I A) := zx_ai (n := 4) kq_1_26 h0 h1
theorem t12_25 (h0 : 0 ≤ x) (h1 : x < 4) : zexec call rec ((.iastore, m, p) :: k) ls (zi y :: zi x :: zr 1 26 :: st) (zm N I A) = zexec call rec k ls st (zm N I (zuA A 1 26 (zset (A 1 26) x.toNat y))) := zx_si (n := 4) kq_1_26 h0 h1
theorem n12_25  : zexec call rec ((.arraylength, m, p) :: k) ls (zr 1 26 :: st) (zm N I A) = zexec call rec k ls (zi 4 :: st) (zm N I A) := zx_ln (n := 4) (kd := 0) kq_1_26 (by decide) (by decide)
theorem g12_26  : zexec call rec ((.getfield ix, m, (12, 26, s)) :: k) ls (zr 1 0 :: st) (zm N I A) = zexec call rec k ls (zi (I 1 26) :: st) (zm N I A) := zx_gf (c := 12) (n := 69) kq_1_0 (by decide) (by decide) rfl
theorem p12_26  : zexec call rec ((.putfield ix, m, (12, 26, 0)) :: k) ls (zi x :: zr 1 0 :: st) (zm N I A) = zexec call rec k ls st (zm N (zup I 1 26 x) A) := zx_pf (c := 12) (n := 69) kq_1_0 (by decide) (by decide) rfl rfl
theorem g12_27  : zexec call rec ((.getfield ix, m, (12, 27, s)) :: k) ls (zr 1 0 :: st) (zm N I A) = zexec call rec k ls (zi (I 1 27) :: st) (zm N I A) := zx_gf (c := 12) (n := 69) kq_1_0 (by decide) (by decide) rfl
theorem p12_27  : zexec call rec ((.putfield ix, m, (12, 27, 0)) :: k) ls (zi x :: zr 1 0 :: st) (zm N I A) = zexec call rec k ls st (zm N (zup I 1 27 x) A) := zx_pf (c := 12) (n := 69) kq_1_0 (by decide) (by decide) rfl rfl
theorem g12_28  : zexec call rec ((.getfield ix, m, (12, 28, s)) :: k) ls (zr 1 0 :: st) (zm N I A) = zexec call rec k ls (zi (I 1 28) :: st) (zm N I A) := zx_gf (c := 12) (n := 69) kq_1_0 (by decide) (by decide) rfl
theorem p12_28  : zexec call rec ((.putfield ix, m, (12, 28, 0)) :: k) ls (zi x :: zr 1 0 :: st) (zm N I A) = zexec call rec k ls st (zm N (zup I 1 28 x) A) := zx_pf (c := 12) (n := 69) kq_1_0 (by decide) (by decide) rfl rfl
theorem g12_29  : zexec call rec ((.getfield ix, m, (12, 29, s)) :: k) ls (zr 1 0 :: st) (zm N I A) = zexec call rec k ls (zi (I 1 29) :: st) (zm N I A) := zx_gf (c := 12) (n := 69) kq_1_0 (by decide) (by decide) rfl
theorem p12_29  : zexec call rec ((.putfield ix, m, (12, 29, 0)) :: k) ls (zi x :: zr 1 0 :: st) (zm N I A) = zexec call rec k ls st (zm N (zup I 1 29 x) A) := zx_pf (c := 12) (n := 69) kq_1_0 (by decide) (by decide) rfl rfl
theorem g12_30  : zexec call rec ((.getfield ix, m, (12, 30, s)) :: k) ls (zr 1 0 :: st) (zm N I A) = zexec call rec k ls (zr 1 31 :: st) (zm N I A) := zx_gf (c := 12) (n := 69) kq_1_0 (by decide) (by decide) rfl
theorem l12_30 (h0 : 0 ≤ x) (h1 : x < 40) : zexec call rec ((.iaload, m, p) :: k) ls (zi x :: zr 1 31 :: st) (zm N I A) = zexec call rec k ls (zi (A 1 31 x.toNat) :: st) (zm N I A) := zx_ai (n := 40) kq_1_31 h0 h1
theorem t12_30 (h0 : 0 ≤ x) (h1 : x < 40) : zexec call rec ((.iastore, m, p) :: k) ls (zi y :: zi x :: zr 1 31 :: st) (zm N I A) = zexec call rec k ls st (zm N I (zuA A 1 31 (zset (A 1 31) x.toNat y))) := zx_si (n := 40) kq_1_31 h0 h1
theorem n12_30  : zexec call rec ((.arraylength, m, p) :: k) ls (zr 1 31 :: st) (zm N I A) = zexec call rec k ls (zi 40 :: st) (zm N I A) := zx_ln (n := 40) (kd := 0) kq_1_31 (by decide) (by decide)
theorem g12_31  : zexec call rec ((.getfield ix, m, (12, 31, s)) :: k) ls (zr 1 0 :: st) (zm N I A) = zexec call rec k ls (zr 1 32 :: st) (zm N I A) := zx_gf (c := 12) (n := 69) kq_1_0 (by decide) (by decide) rfl
theorem l12_31 (h0 : 0 ≤ x) (h1 : x < 40) : zexec call rec ((.iaload, m, p) :: k) ls (zi x :: zr 1 32 :: st) (zm N I A) = zexec call rec k ls (zi (A 1 32 x.toNat) :: st) (zm N I A) := zx_ai (n := 40) kq_1_32 h0 h1
theorem t12_31 (h0 : 0 ≤ x) (h1 : x < 40) : zexec call rec ((.iastore, m, p) :: k) ls (zi y :: zi x :: zr 1 32 :: st) (zm N I A) = zexec call rec k ls st (zm N I (zuA A 1 32 (zset (A 1 32) x.toNat y))) := zx_si (n := 40) kq_1_32 h0 h1
theorem n12_31  : zexec call rec ((.arraylength, m, p) :: k) ls (zr 1 32 :: st) (zm N I A) = zexec call rec k ls (zi 40 :: st) (zm N I A) := zx_ln (n := 40) (kd := 0) kq_1_32 (by decide) (by decide)
theorem g12_32  : zexec call rec ((.getfield ix, m, (12, 32, s)) :: k) ls (zr 1 0 :: st) (zm N I A) = zexec call rec k ls (zr 1 33 :: st) (zm N I A) := zx_gf (c := 12) (n := 69) kq_1_0 (by decide) (by decide) rfl
theorem l12_32 (h0 : 0 ≤ x) (h1 : x < 40) : zexec call rec ((.iaload, m, p) :: k) ls (zi x :: zr 1 33 :: st) (zm N I A) = zexec call rec k ls (zi (A 1 33 x.toNat) :: st) (zm N I A) := zx_ai (n := 40) kq_1_33 h0 h1
theorem t12_32 (h0 : 0 ≤ x) (h1 : x < 40) : zexec call rec ((.iastore, m, p) :: k) ls (zi y :: zi x :: zr 1 33 :: st) (zm N I A) = zexec call rec k ls st (zm N I (zuA A 1 33 (zset (A 1 33) x.toNat y))) := zx_si (n := 40) kq_1_33 h0 h1
theorem n12_32  : zexec call rec ((.arraylength, m, p) :: k) ls (zr 1 33 :: st) (zm N I A) = zexec call rec k ls (zi 40 :: st) (zm N I A) := zx_ln (n := 40) (kd := 0) kq_1_33 (by decide) (by decide)
theorem g12_33  : zexec call rec ((.getfield ix, m, (12, 33, s)) :: k) ls (zr 1 0 :: st) (zm N I A) = zexec call rec k ls (zr 1 34 :: st) (zm N I A) := zx_gf (c := 12) (n := 69) kq_1_0 (by decide) (by decide) rfl
theorem l12_33 (h0 : 0 ≤ x) (h1 : x < 40) : zexec call rec ((.iaload, m, p) :: k) ls (zi x :: zr 1 34 :: st) (zm N I A) = zexec call rec k ls (zi (A 1 34 x.toNat) :: st) (zm N I A) := zx_ai (n := 40) kq_1_34 h0 h1
theorem t12_33 (h0 : 0 ≤ x) (h1 : x < 40) : zexec call rec ((.iastore, m, p) :: k) ls (zi y :: zi x :: zr 1 34 :: st) (zm N I A) = zexec call rec k ls st (zm N I (zuA A 1 34 (zset (A 1 34) x.toNat y))) := zx_si (n := 40) kq_1_34 h0 h1
theorem n12_33  : zexec call rec ((.arraylength, m, p) :: k) ls (zr 1 34 :: st) (zm N I A) = zexec call rec k ls (zi 40 :: st) (zm N I A) := zx_ln (n := 40) (kd := 0) kq_1_34 (by decide) (by decide)
theorem g12_34  : zexec call rec ((.getfield ix, m, (12, 34, s)) :: k) ls (zr 1 0 :: st) (zm N I A) = zexec call rec k ls (zr 1 35 :: st) (zm N I A) := zx_gf (c := 12) (n := 69) kq_1_0 (by decide) (by decide) rfl
theorem l12_34 (h0 : 0 ≤ x) (h1 : x < 40) : zexec call rec ((.iaload, m, p) :: k) ls (zi x :: zr 1 35 :: st) (zm N I A) = zexec call rec k ls (zi (A 1 35 x.toNat) :: st) (zm N I A) := zx_ai (n := 40) kq_1_35 h0 h1
theorem t12_34 (h0 : 0 ≤ x) (h1 : x < 40) : zexec call rec ((.iastore, m, p) :: k) ls (zi y :: zi x :: zr 1 35 :: st) (zm N I A) = zexec call rec k ls st (zm N I (zuA A 1 35 (zset (A 1 35) x.toNat y))) := zx_si (n := 40) kq_1_35 h0 h1
theorem n12_34  : zexec call rec ((.arraylength, m, p) :: k) ls (zr 1 35 :: st) (zm N I A) = zexec call rec k ls (zi 40 :: st) (zm N I A) := zx_ln (n := 40) (kd := 0) kq_1_35 (by decide) (by decide)
theorem g12_35  : zexec call rec ((.getfield ix, m, (12, 35, s)) :: k) ls (zr 1 0 :: st) (zm N I A) = zexec call rec k ls (zr 1 36 :: st) (zm N I A) := zx_gf (c := 12) (n := 69) kq_1_0 (by decide) (by decide) rfl
theorem l12_35 (h0 : 0 ≤ x) (h1 : x < 40) : zexec call rec ((.iaload, m, p) :: k) ls (zi x :: zr 1 36 :: st) (zm N I A) = zexec call rec k ls (zi (A 1 36 x.toNat) :: st) (zm N I A) := zx_ai (n := 40) kq_1_36 h0 h1
theorem t12_35 (h0 : 0 ≤ x) (h1 : x < 40) : zexec call rec ((.iastore, m, p) :: k) ls (zi y :: zi x :: zr 1 36 :: st) (zm N I A) = zexec call rec k ls st (zm N I (zuA A 1 36 (zset (A 1 36) x.toNat y))) := zx_si (n := 40) kq_1_36 h0 h1
theorem n12_35  : zexec call rec ((.arraylength, m, p) :: k) ls (zr 1 36 :: st) (zm N I A) = zexec call rec k ls (zi 40 :: st) (zm N I A) := zx_ln (n := 40) (kd := 0) kq_1_36 (by decide) (by decide)
theorem g12_36  : zexec call rec ((.getfield ix, m, (12, 36, s)) :: k) ls (zr 1 0 :: st) (zm N I A) = zexec call rec k ls (zr 1 37 :: st) (zm N I A) := zx_gf (c := 12) (n := 69) kq_1_0 (by decide) (by decide) rfl
theorem l12_36 (h0 : 0 ≤ x) (h1 : x < 40) : zexec call rec ((.baload, m, p) :: k) ls (zi x :: zr 1 37 :: st) (zm N I A) = zexec call rec k ls (zi (A 1 37 x.toNat) :: st) (zm N I A) := zx_ab (n := 40) (kd := 1) kq_1_37 (by decide) h0 h1
theorem t12_36 (h0 : 0 ≤ x) (h1 : x < 40) (hy : y = 0 ∨ y = 1) : zexec call rec ((.bastore, m, p) :: k) ls (zi y :: zi x :: zr 1 37 :: st) (zm N I A) = zexec call rec k ls st (zm N I (zuA A 1 37 (zset (A 1 37) x.toNat y))) := zx_sb (n := 40) kq_1_37 h0 h1 hy
theorem n12_36  : zexec call rec ((.arraylength, m, p) :: k) ls (zr 1 37 :: st) (zm N I A) = zexec call rec k ls (zi 40 :: st) (zm N I A) := zx_ln (n := 40) (kd := 1) kq_1_37 (by decide) (by decide)
theorem g12_37  : zexec call rec ((.getfield ix, m, (12, 37, s)) :: k) ls (zr 1 0 :: st) (zm N I A) = zexec call rec k ls (zr 1 38 :: st) (zm N I A) := zx_gf (c := 12) (n := 69) kq_1_0 (by decide) (by decide) rfl
theorem l12_37 (h0 : 0 ≤ x) (h1 : x < 19) : zexec call rec ((.baload, m, p) :: k) ls (zi x :: zr 1 38 :: st) (zm N I A) = zexec call rec k ls (zi (A 1 38 x.toNat) :: st) (zm N I A) := zx_ab (n := 19) (kd := 1) kq_1_38 (by decide) h0 h1
theorem t12_37 (h0 : 0 ≤ x) (h1 : x < 19) (hy : y = 0 ∨ y = 1) : zexec call rec ((.bastore, m, p) :: k) ls (zi y :: zi x :: zr 1 38 :: st) (zm N I A) = zexec call rec k ls st (zm N I (zuA A 1 38 (zset (A 1 38) x.toNat y))) := zx_sb (n := 19) kq_1_38 h0 h1 hy
theorem n12_37  : zexec call rec ((.arraylength, m, p) :: k) ls (zr 1 38 :: st) (zm N I A) = zexec call rec k ls (zi 19 :: st) (zm N I A) := zx_ln (n := 19) (kd := 1) kq_1_38 (by decide) (by decide)
theorem g12_38  : zexec call rec ((.getfield ix, m, (12, 38, s)) :: k) ls (zr 1 0 :: st) (zm N I A) = zexec call rec k ls (zr 1 39 :: st) (zm N I A) := zx_gf (c := 12) (n := 69) kq_1_0 (by decide) (by decide) rfl
theorem l12_38 (h0 : 0 ≤ x) (h1 : x < 19) : zexec call rec ((.baload, m, p) :: k) ls (zi x :: zr 1 39 :: st) (zm N I A) = zexec call rec k ls (zi (A 1 39 x.toNat) :: st) (zm N I A) := zx_ab (n := 19) (kd := 1) kq_1_39 (by decide) h0 h1
theorem t12_38 (h0 : 0 ≤ x) (h1 : x < 19) (hy : y = 0 ∨ y = 1) : zexec call rec ((.bastore, m, p) :: k) ls (zi y :: zi x :: zr 1 39 :: st) (zm N I A) = zexec call rec k ls st (zm N I (zuA A 1 39 (zset (A 1 39) x.toNat y))) := zx_sb (n := 19) kq_1_39 h0 h1 hy
theorem n12_38  : zexec call rec ((.arraylength, m, p) :: k) ls (zr 1 39 :: st) (zm N I A) = zexec call rec k ls (zi 19 :: st) (zm N I A) := zx_ln (n := 19) (kd := 1) kq_1_39 (by decide) (by decide)
theorem g12_39  : zexec call rec ((.getfield ix, m, (12, 39, s)) :: k) ls (zr 1 0 :: st) (zm N I A) = zexec call rec k ls (zr 1 40 :: st) (zm N I A) := zx_gf (c := 12) (n := 69) kq_1_0 (by decide) (by decide) rfl
theorem l12_39 (h0 : 0 ≤ x) (h1 : x < 19) : zexec call rec ((.baload, m, p) :: k) ls (zi x :: zr 1 40 :: st) (zm N I A) = zexec call rec k ls (zi (A 1 40 x.toNat) :: st) (zm N I A) := zx_ab (n := 19) (kd := 1) kq_1_40 (by decide) h0 h1
theorem t12_39 (h0 : 0 ≤ x) (h1 : x < 19) (hy : y = 0 ∨ y = 1) : zexec call rec ((.bastore, m, p) :: k) ls (zi y :: zi x :: zr 1 40 :: st) (zm N I A) = zexec call rec k ls st (zm N I (zuA A 1 40 (zset (A 1 40) x.toNat y))) := zx_sb (n := 19) kq_1_40 h0 h1 hy
theorem n12_39  : zexec call rec ((.arraylength, m, p) :: k) ls (zr 1 40 :: st) (zm N I A) = zexec call rec k ls (zi 19 :: st) (zm N I A) := zx_ln (n := 19) (kd := 1) kq_1_40 (by decide) (by decide)
theorem g12_40  : zexec call rec ((.getfield ix, m, (12, 40, s)) :: k) ls (zr 1 0 :: st) (zm N I A) = zexec call rec k ls (zr 1 41 :: st) (zm N I A) := zx_gf (c := 12) (n := 69) kq_1_0 (by decide) (by decide) rfl
theorem l12_40 (h0 : 0 ≤ x) (h1 : x < 19) : zexec call rec ((.iaload, m, p) :: k) ls (zi x :: zr 1 41 :: st) (zm N I A) = zexec call rec k ls (zi (A 1 41 x.toNat) :: st) (zm N I A) := zx_ai (n := 19) kq_1_41 h0 h1
theorem t12_40 (h0 : 0 ≤ x) (h1 : x < 19) : zexec call rec ((.iastore, m, p) :: k) ls (zi y :: zi x :: zr 1 41 :: st) (zm N I A) = zexec call rec k ls st (zm N I (zuA A 1 41 (zset (A 1 41) x.toNat y))) := zx_si (n := 19) kq_1_41 h0 h1
theorem n12_40  : zexec call rec ((.arraylength, m, p) :: k) ls (zr 1 41 :: st) (zm N I A) = zexec call rec k ls (zi 19 :: st) (zm N I A) := zx_ln (n := 19) (kd := 0) kq_1_41 (by decide) (by decide)
theorem g12_41  : zexec call rec ((.getfield ix, m, (12, 41, s)) :: k) ls (zr 1 0 :: st) (zm N I A) = zexec call rec k ls (zr 1 42 :: st) (zm N I A) := zx_gf (c := 12) (n := 69) kq_1_0 (by decide) (by decide) rfl
theorem l12_41 (h0 : 0 ≤ x) (h1 : x < 228) : zexec call rec ((.iaload, m, p) :: k) ls (zi x :: zr 1 42 :: st) (zm N I A) = zexec call rec k ls (zi (A 1 42 x.toNat) :: st) (zm N I A) := zx_ai (n := 228) kq_1_42 h0 h1
theorem t12_41 (h0 : 0 ≤ x) (h1 : x < 228) : zexec call rec ((.iastore, m, p) :: k) ls (zi y :: zi x :: zr 1 42 :: st) (zm N I A) = zexec call rec k ls st (zm N I (zuA A 1 42 (zset (A 1 42) x.toNat y))) := zx_si (n := 228) kq_1_42 h0 h1
theorem n12_41  : zexec call rec ((.arraylength, m, p) :: k) ls (zr 1 42 :: st) (zm N I A) = zexec call rec k ls (zi 228 :: st) (zm N I A) := zx_ln (n := 228) (kd := 0) kq_1_42 (by decide) (by decide)
theorem g12_42  : zexec call rec ((.getfield ix, m, (12, 42, s)) :: k) ls (zr 1 0 :: st) (zm N I A) = zexec call rec k ls (zr 1 43 :: st) (zm N I A) := zx_gf (c := 12) (n := 69) kq_1_0 (by decide) (by decide) rfl
theorem l12_42 (h0 : 0 ≤ x) (h1 : x < 228) : zexec call rec ((.iaload, m, p) :: k) ls (zi x :: zr 1 43 :: st) (zm N I A) = zexec call rec k ls (zi (A 1 43 x.toNat) :: st) (zm N I A) := zx_ai (n := 228) kq_1_43 h0 h1
theorem t12_42 (h0 : 0 ≤ x) (h1 : x < 228) : zexec call rec ((.iastore, m, p) :: k) ls (zi y :: zi x :: zr 1 43 :: st) (zm N I A) = zexec call rec k ls st (zm N I (zuA A 1 43 (zset (A 1 43) x.toNat y))) := zx_si (n := 228) kq_1_43 h0 h1
theorem n12_42  : zexec call rec ((.arraylength, m, p) :: k) ls (zr 1 43 :: st) (zm N I A) = zexec call rec k ls (zi 228 :: st) (zm N I A) := zx_ln (n := 228) (kd := 0) kq_1_43 (by decide) (by decide)
theorem g12_43  : zexec call rec ((.getfield ix, m, (12, 43, s)) :: k) ls (zr 1 0 :: st) (zm N I A) = zexec call rec k ls (zr 1 44 :: st) (zm N I A) := zx_gf (c := 12) (n := 69) kq_1_0 (by decide) (by decide) rfl
theorem l12_43 (h0 : 0 ≤ x) (h1 : x < 19) : zexec call rec ((.iaload, m, p) :: k) ls (zi x :: zr 1 44 :: st) (zm N I A) = zexec call rec k ls (zi (A 1 44 x.toNat) :: st) (zm N I A) := zx_ai (n := 19) kq_1_44 h0 h1
theorem t12_43 (h0 : 0 ≤ x) (h1 : x < 19) : zexec call rec ((.iastore, m, p) :: k) ls (zi y :: zi x :: zr 1 44 :: st) (zm N I A) = zexec call rec k ls st (zm N I (zuA A 1 44 (zset (A 1 44) x.toNat y))) := zx_si (n := 19) kq_1_44 h0 h1
theorem n12_43  : zexec call rec ((.arraylength, m, p) :: k) ls (zr 1 44 :: st) (zm N I A) = zexec call rec k ls (zi 19 :: st) (zm N I A) := zx_ln (n := 19) (kd := 0) kq_1_44 (by decide) (by decide)
theorem g12_44  : zexec call rec ((.getfield ix, m, (12, 44, s)) :: k) ls (zr 1 0 :: st) (zm N I A) = zexec call rec k ls (zr 1 45 :: st) (zm N I A) := zx_gf (c := 12) (n := 69) kq_1_0 (by decide) (by decide) rfl
theorem l12_44 (h0 : 0 ≤ x) (h1 : x < 19) : zexec call rec ((.iaload, m, p) :: k) ls (zi x :: zr 1 45 :: st) (zm N I A) = zexec call rec k ls (zi (A 1 45 x.toNat) :: st) (zm N I A) := zx_ai (n := 19) kq_1_45 h0 h1
theorem t12_44 (h0 : 0 ≤ x) (h1 : x < 19) : zexec call rec ((.iastore, m, p) :: k) ls (zi y :: zi x :: zr 1 45 :: st) (zm N I A) = zexec call rec k ls st (zm N I (zuA A 1 45 (zset (A 1 45) x.toNat y))) := zx_si (n := 19) kq_1_45 h0 h1
theorem n12_44  : zexec call rec ((.arraylength, m, p) :: k) ls (zr 1 45 :: st) (zm N I A) = zexec call rec k ls (zi 19 :: st) (zm N I A) := zx_ln (n := 19) (kd := 0) kq_1_45 (by decide) (by decide)
theorem g12_45  : zexec call rec ((.getfield ix, m, (12, 45, s)) :: k) ls (zr 1 0 :: st) (zm N I A) = zexec call rec k ls (zr 1 46 :: st) (zm N I A) := zx_gf (c := 12) (n := 69) kq_1_0 (by decide) (by decide) rfl
theorem l12_45 (h0 : 0 ≤ x) (h1 : x < 40) : zexec call rec ((.baload, m, p) :: k) ls (zi x :: zr 1 46 :: st) (zm N I A) = zexec call rec k ls (zi (A 1 46 x.toNat) :: st) (zm N I A) := zx_ab (n := 40) (kd := 1) kq_1_46 (by decide) h0 h1
theorem t12_45 (h0 : 0 ≤ x) (h1 : x < 40) (hy : y = 0 ∨ y = 1) : zexec call rec ((.bastore, m, p) :: k) ls (zi y :: zi x :: zr 1 46 :: st) (zm N I A) = zexec call rec k ls st (zm N I (zuA A 1 46 (zset (A 1 46) x.toNat y))) := zx_sb (n := 40) kq_1_46 h0 h1 hy
theorem n12_45  : zexec call rec ((.arraylength, m, p) :: k) ls (zr 1 46 :: st) (zm N I A) = zexec call rec k ls (zi 40 :: st) (zm N I A) := zx_ln (n := 40) (kd := 1) kq_1_46 (by decide) (by decide)
theorem g12_46  : zexec call rec ((.getfield ix, m, (12, 46, s)) :: k) ls (zr 1 0 :: st) (zm N I A) = zexec call rec k ls (zr 1 47 :: st) (zm N I A) := zx_gf (c := 12) (n := 69) kq_1_0 (by decide) (by decide) rfl
theorem l12_46 (h0 : 0 ≤ x) (h1 : x < 10) : zexec call rec ((.iaload, m, p) :: k) ls (zi x :: zr 1 47 :: st) (zm N I A) = zexec call rec k ls (zi (A 1 47 x.toNat) :: st) (zm N I A) := zx_ai (n := 10) kq_1_47 h0 h1
theorem t12_46 (h0 : 0 ≤ x) (h1 : x < 10) : zexec call rec ((.iastore, m, p) :: k) ls (zi y :: zi x :: zr 1 47 :: st) (zm N I A) = zexec call rec k ls st (zm N I (zuA A 1 47 (zset (A 1 47) x.toNat y))) := zx_si (n := 10) kq_1_47 h0 h1
theorem n12_46  : zexec call rec ((.arraylength, m, p) :: k) ls (zr 1 47 :: st) (zm N I A) = zexec call rec k ls (zi 10 :: st) (zm N I A) := zx_ln (n := 10) (kd := 0) kq_1_47 (by decide) (by decide)
theorem g12_47  : zexec call rec ((.getfield ix, m, (12, 47, s)) :: k) ls (zr 1 0 :: st) (zm N I A) = zexec call rec k ls (zr 1 48 :: st) (zm N I A) := zx_gf (c := 12) (n := 69) kq_1_0 (by decide) (by decide) rfl
theorem l12_47 (h0 : 0 ≤ x) (h1 : x < 10) : zexec call rec ((.iaload, m, p) :: k) ls (zi x :: zr 1 48 :: st) (zm N I A) = zexec call rec k ls (zi (A 1 48 x.toNat) :: st) (zm N I A) := zx_ai (n := 10) kq_1_48 h0 h1
theorem t12_47 (h0 : 0 ≤ x) (h1 : x < 10) : zexec call rec ((.iastore, m, p) :: k) ls (zi y :: zi x :: zr 1 48 :: st) (zm N I A) = zexec call rec k ls st (zm N I (zuA A 1 48 (zset (A 1 48) x.toNat y))) := zx_si (n := 10) kq_1_48 h0 h1
theorem n12_47  : zexec call rec ((.arraylength, m, p) :: k) ls (zr 1 48 :: st) (zm N I A) = zexec call rec k ls (zi 10 :: st) (zm N I A) := zx_ln (n := 10) (kd := 0) kq_1_48 (by decide) (by decide)
theorem g12_48  : zexec call rec ((.getfield ix, m, (12, 48, s)) :: k) ls (zr 1 0 :: st) (zm N I A) = zexec call rec k ls (zr 1 49 :: st) (zm N I A) := zx_gf (c := 12) (n := 69) kq_1_0 (by decide) (by decide) rfl
theorem l12_48 (h0 : 0 ≤ x) (h1 : x < 4) : zexec call rec ((.iaload, m, p) :: k) ls (zi x :: zr 1 49 :: st) (zm N I A) = zexec call rec k ls (zi (A 1 49 x.toNat) :: st) (zm N I A) := zx_ai (n := 4) kq_1_49 h0 h1
theorem t12_48 (h0 : 0 ≤ x) (h1 : x < 4) : zexec call rec ((.iastore, m, p) :: k) ls (zi y :: zi x :: zr 1 49 :: st) (zm N I A) = zexec call rec k ls st (zm N I (zuA A 1 49 (zset (A 1 49) x.toNat y))) := zx_si (n := 4) kq_1_49 h0 h1
theorem n12_48  : zexec call rec ((.arraylength, m, p) :: k) ls (zr 1 49 :: st) (zm N I A) = zexec call rec k ls (zi 4 :: st) (zm N I A) := zx_ln (n := 4) (kd := 0) kq_1_49 (by decide) (by decide)
theorem g12_49  : zexec call rec ((.getfield ix, m, (12, 49, s)) :: k) ls (zr 1 0 :: st) (zm N I A) = zexec call rec k ls (zr 1 50 :: st) (zm N I A) := zx_gf (c := 12) (n := 69) kq_1_0 (by decide) (by decide) rfl
theorem l12_49 (h0 : 0 ≤ x) (h1 : x < 19) : zexec call rec ((.iaload, m, p) :: k) ls (zi x :: zr 1 50 :: st) (zm N I A) = zexec call rec k ls (zi (A 1 50 x.toNat) :: st) (zm N I A) := zx_ai (n := 19) kq_1_50 h0 h1
theorem t12_49 (h0 : 0 ≤ x) (h1 : x < 19) : zexec call rec ((.iastore, m, p) :: k) ls (zi y :: zi x :: zr 1 50 :: st) (zm N I A) = zexec call rec k ls st (zm N I (zuA A 1 50 (zset (A 1 50) x.toNat y))) := zx_si (n := 19) kq_1_50 h0 h1
theorem n12_49  : zexec call rec ((.arraylength, m, p) :: k) ls (zr 1 50 :: st) (zm N I A) = zexec call rec k ls (zi 19 :: st) (zm N I A) := zx_ln (n := 19) (kd := 0) kq_1_50 (by decide) (by decide)
theorem g12_50  : zexec call rec ((.getfield ix, m, (12, 50, s)) :: k) ls (zr 1 0 :: st) (zm N I A) = zexec call rec k ls (zr 1 51 :: st) (zm N I A) := zx_gf (c := 12) (n := 69) kq_1_0 (by decide) (by decide) rfl
theorem l12_50 (h0 : 0 ≤ x) (h1 : x < 19) : zexec call rec ((.iaload, m, p) :: k) ls (zi x :: zr 1 51 :: st) (zm N I A) = zexec call rec k ls (zi (A 1 51 x.toNat) :: st) (zm N I A) := zx_ai (n := 19) kq_1_51 h0 h1
theorem t12_50 (h0 : 0 ≤ x) (h1 : x < 19) : zexec call rec ((.iastore, m, p) :: k) ls (zi y :: zi x :: zr 1 51 :: st) (zm N I A) = zexec call rec k ls st (zm N I (zuA A 1 51 (zset (A 1 51) x.toNat y))) := zx_si (n := 19) kq_1_51 h0 h1
theorem n12_50  : zexec call rec ((.arraylength, m, p) :: k) ls (zr 1 51 :: st) (zm N I A) = zexec call rec k ls (zi 19 :: st) (zm N I A) := zx_ln (n := 19) (kd := 0) kq_1_51 (by decide) (by decide)
theorem g12_51  : zexec call rec ((.getfield ix, m, (12, 51, s)) :: k) ls (zr 1 0 :: st) (zm N I A) = zexec call rec k ls (zi (I 1 51) :: st) (zm N I A) := zx_gf (c := 12) (n := 69) kq_1_0 (by decide) (by decide) rfl
theorem p12_51  : zexec call rec ((.putfield ix, m, (12, 51, 0)) :: k) ls (zi x :: zr 1 0 :: st) (zm N I A) = zexec call rec k ls st (zm N (zup I 1 51 x) A) := zx_pf (c := 12) (n := 69) kq_1_0 (by decide) (by decide) rfl rfl
theorem g12_52  : zexec call rec ((.getfield ix, m, (12, 52, s)) :: k) ls (zr 1 0 :: st) (zm N I A) = zexec call rec k ls (zi (I 1 52) :: st) (zm N I A) := zx_gf (c := 12) (n := 69) kq_1_0 (by decide) (by decide) rfl
theorem p12_52  : zexec call rec ((.putfield ix, m, (12, 52, 0)) :: k) ls (zi x :: zr 1 0 :: st) (zm N I A) = zexec call rec k ls st (zm N (zup I 1 52 x) A) := zx_pf (c := 12) (n := 69) kq_1_0 (by decide) (by decide) rfl rfl
theorem g12_53  : zexec call rec ((.getfield ix, m, (12, 53, s)) :: k) ls (zr 1 0 :: st) (zm N I A) = zexec call rec k ls (zi (I 1 53) :: st) (zm N I A) := zx_gf (c := 12) (n := 69) kq_1_0 (by decide) (by decide) rfl
theorem p12_53  : zexec call rec ((.putfield ix, m, (12, 53, 0)) :: k) ls (zi x :: zr 1 0 :: st) (zm N I A) = zexec call rec k ls st (zm N (zup I 1 53 x) A) := zx_pf (c := 12) (n := 69) kq_1_0 (by decide) (by decide) rfl rfl
theorem g12_54  : zexec call rec ((.getfield ix, m, (12, 54, s)) :: k) ls (zr 1 0 :: st) (zm N I A) = zexec call rec k ls (zr 1 55 :: st) (zm N I A) := zx_gf (c := 12) (n := 69) kq_1_0 (by decide) (by decide) rfl
theorem l12_54 (h0 : 0 ≤ x) (h1 : x < 399) : zexec call rec ((.iaload, m, p) :: k) ls (zi x :: zr 1 55 :: st) (zm N I A) = zexec call rec k ls (zi (A 1 55 x.toNat) :: st) (zm N I A) := zx_ai (n := 399) kq_1_55 h0 h1
theorem t12_54 (h0 : 0 ≤ x) (h1 : x < 399) : zexec call rec ((.iastore, m, p) :: k) ls (zi y :: zi x :: zr 1 55 :: st) (zm N I A) = zexec call rec k ls st (zm N I (zuA A 1 55 (zset (A 1 55) x.toNat y))) := zx_si (n := 399) kq_1_55 h0 h1
theorem n12_54  : zexec call rec ((.arraylength, m, p) :: k) ls (zr 1 55 :: st) (zm N I A) = zexec call rec k ls (zi 399 :: st) (zm N I A) := zx_ln (n := 399) (kd := 0) kq_1_55 (by decide) (by decide)
theorem g12_55  : zexec call rec ((.getfield ix, m, (12, 55, s)) :: k) ls (zr 1 0 :: st) (zm N I A) = zexec call rec k ls (zr 1 56 :: st) (zm N I A) := zx_gf (c := 12) (n := 69) kq_1_0 (by decide) (by decide) rfl
theorem l12_55 (h0 : 0 ≤ x) (h1 : x < 2) : zexec call rec ((.baload, m, p) :: k) ls (zi x :: zr 1 56 :: st) (zm N I A) = zexec call rec k ls (zi (A 1 56 x.toNat) :: st) (zm N I A) := zx_ab (n := 2) (kd := 1) kq_1_56 (by decide) h0 h1
theorem t12_55 (h0 : 0 ≤ x) (h1 : x < 2) (hy : y = 0 ∨ y = 1) : zexec call rec ((.bastore, m, p) :: k) ls (zi y :: zi x :: zr 1 56 :: st) (zm N I A) = zexec call rec k ls st (zm N I (zuA A 1 56 (zset (A 1 56) x.toNat y))) := zx_sb (n := 2) kq_1_56 h0 h1 hy
theorem n12_55  : zexec call rec ((.arraylength, m, p) :: k) ls (zr 1 56 :: st) (zm N I A) = zexec call rec k ls (zi 2 :: st) (zm N I A) := zx_ln (n := 2) (kd := 1) kq_1_56 (by decide) (by decide)
theorem g12_56  : zexec call rec ((.getfield ix, m, (12, 56, s)) :: k) ls (zr 1 0 :: st) (zm N I A) = zexec call rec k ls (zr 1 57 :: st) (zm N I A) := zx_gf (c := 12) (n := 69) kq_1_0 (by decide) (by decide) rfl
theorem l12_56 (h0 : 0 ≤ x) (h1 : x < 9417) : zexec call rec ((.laload, m, p) :: k) ls (zi x :: zr 1 57 :: st) (zm N I A) = zexec call rec k ls (zl (A 1 57 x.toNat) :: st) (zm N I A) := zx_al (n := 9417) kq_1_57 h0 h1
theorem t12_56 (h0 : 0 ≤ x) (h1 : x < 9417) : zexec call rec ((.lastore, m, p) :: k) ls (zl y :: zi x :: zr 1 57 :: st) (zm N I A) = zexec call rec k ls st (zm N I (zuA A 1 57 (zset (A 1 57) x.toNat y))) := zx_sl (n := 9417) kq_1_57 h0 h1
theorem n12_56  : zexec call rec ((.arraylength, m, p) :: k) ls (zr 1 57 :: st) (zm N I A) = zexec call rec k ls (zi 9417 :: st) (zm N I A) := zx_ln (n := 9417) (kd := 3) kq_1_57 (by decide) (by decide)
theorem g12_57  : zexec call rec ((.getfield ix, m, (12, 57, s)) :: k) ls (zr 1 0 :: st) (zm N I A) = zexec call rec k ls (zr 1 58 :: st) (zm N I A) := zx_gf (c := 12) (n := 69) kq_1_0 (by decide) (by decide) rfl
theorem l12_57 (h0 : 0 ≤ x) (h1 : x < 90000) : zexec call rec ((.iaload, m, p) :: k) ls (zi x :: zr 1 58 :: st) (zm N I A) = zexec call rec k ls (zi (A 1 58 x.toNat) :: st) (zm N I A) := zx_ai (n := 90000) kq_1_58 h0 h1
theorem t12_57 (h0 : 0 ≤ x) (h1 : x < 90000) : zexec call rec ((.iastore, m, p) :: k) ls (zi y :: zi x :: zr 1 58 :: st) (zm N I A) = zexec call rec k ls st (zm N I (zuA A 1 58 (zset (A 1 58) x.toNat y))) := zx_si (n := 90000) kq_1_58 h0 h1
theorem n12_57  : zexec call rec ((.arraylength, m, p) :: k) ls (zr 1 58 :: st) (zm N I A) = zexec call rec k ls (zi 90000 :: st) (zm N I A) := zx_ln (n := 90000) (kd := 0) kq_1_58 (by decide) (by decide)
theorem g12_58  : zexec call rec ((.getfield ix, m, (12, 58, s)) :: k) ls (zr 1 0 :: st) (zm N I A) = zexec call rec k ls (zr 1 59 :: st) (zm N I A) := zx_gf (c := 12) (n := 69) kq_1_0 (by decide) (by decide) rfl
theorem l12_58 (h0 : 0 ≤ x) (h1 : x < 90000) : zexec call rec ((.iaload, m, p) :: k) ls (zi x :: zr 1 59 :: st) (zm N I A) = zexec call rec k ls (zi (A 1 59 x.toNat) :: st) (zm N I A) := zx_ai (n := 90000) kq_1_59 h0 h1
theorem t12_58 (h0 : 0 ≤ x) (h1 : x < 90000) : zexec call rec ((.iastore, m, p) :: k) ls (zi y :: zi x :: zr 1 59 :: st) (zm N I A) = zexec call rec k ls st (zm N I (zuA A 1 59 (zset (A 1 59) x.toNat y))) := zx_si (n := 90000) kq_1_59 h0 h1
theorem n12_58  : zexec call rec ((.arraylength, m, p) :: k) ls (zr 1 59 :: st) (zm N I A) = zexec call rec k ls (zi 90000 :: st) (zm N I A) := zx_ln (n := 90000) (kd := 0) kq_1_59 (by decide) (by decide)
theorem g12_59  : zexec call rec ((.getfield ix, m, (12, 59, s)) :: k) ls (zr 1 0 :: st) (zm N I A) = zexec call rec k ls (zr 1 60 :: st) (zm N I A) := zx_gf (c := 12) (n := 69) kq_1_0 (by decide) (by decide) rfl
theorem l12_59 (h0 : 0 ≤ x) (h1 : x < 90000) : zexec call rec ((.iaload, m, p) :: k) ls (zi x :: zr 1 60 :: st) (zm N I A) = zexec call rec k ls (zi (A 1 60 x.toNat) :: st) (zm N I A) := zx_ai (n := 90000) kq_1_60 h0 h1
theorem t12_59 (h0 : 0 ≤ x) (h1 : x < 90000) : zexec call rec ((.iastore, m, p) :: k) ls (zi y :: zi x :: zr 1 60 :: st) (zm N I A) = zexec call rec k ls st (zm N I (zuA A 1 60 (zset (A 1 60) x.toNat y))) := zx_si (n := 90000) kq_1_60 h0 h1
theorem n12_59  : zexec call rec ((.arraylength, m, p) :: k) ls (zr 1 60 :: st) (zm N I A) = zexec call rec k ls (zi 90000 :: st) (zm N I A) := zx_ln (n := 90000) (kd := 0) kq_1_60 (by decide) (by decide)
theorem g12_60  : zexec call rec ((.getfield ix, m, (12, 60, s)) :: k) ls (zr 1 0 :: st) (zm N I A) = zexec call rec k ls (zi (I 1 60) :: st) (zm N I A) := zx_gf (c := 12) (n := 69) kq_1_0 (by decide) (by decide) rfl
theorem p12_60  : zexec call rec ((.putfield ix, m, (12, 60, 0)) :: k) ls (zi x :: zr 1 0 :: st) (zm N I A) = zexec call rec k ls st (zm N (zup I 1 60 x) A) := zx_pf (c := 12) (n := 69) kq_1_0 (by decide) (by decide) rfl rfl
theorem g12_61  : zexec call rec ((.getfield ix, m, (12, 61, s)) :: k) ls (zr 1 0 :: st) (zm N I A) = zexec call rec k ls (zi (I 1 61) :: st) (zm N I A) := zx_gf (c := 12) (n := 69) kq_1_0 (by decide) (by decide) rfl
theorem p12_61  : zexec call rec ((.putfield ix, m, (12, 61, 0)) :: k) ls (zi x :: zr 1 0 :: st) (zm N I A) = zexec call rec k ls st (zm N (zup I 1 61 x) A) := zx_pf (c := 12) (n := 69) kq_1_0 (by decide) (by decide) rfl rfl
theorem g12_62  : zexec call rec ((.getfield ix, m, (12, 62, s)) :: k) ls (zr 1 0 :: st) (zm N I A) = zexec call rec k ls (zr 1 63 :: st) (zm N I A) := zx_gf (c := 12) (n := 69) kq_1_0 (by decide) (by decide) rfl
theorem l12_62 (h0 : 0 ≤ x) (h1 : x < 19581) : zexec call rec ((.iaload, m, p) :: k) ls (zi x :: zr 1 63 :: st) (zm N I A) = zexec call rec k ls (zi (A 1 63 x.toNat) :: st) (zm N I A) := zx_ai (n := 19581) kq_1_63 h0 h1
theorem t12_62 (h0 : 0 ≤ x) (h1 : x < 19581) : zexec call rec ((.iastore, m, p) :: k) ls (zi y :: zi x :: zr 1 63 :: st) (zm N I A) = zexec call rec k ls st (zm N I (zuA A 1 63 (zset (A 1 63) x.toNat y))) := zx_si (n := 19581) kq_1_63 h0 h1
theorem n12_62  : zexec call rec ((.arraylength, m, p) :: k) ls (zr 1 63 :: st) (zm N I A) = zexec call rec k ls (zi 19581 :: st) (zm N I A) := zx_ln (n := 19581) (kd := 0) kq_1_63 (by decide) (by decide)
theorem g12_63  : zexec call rec ((.getfield ix, m, (12, 63, s)) :: k) ls (zr 1 0 :: st) (zm N I A) = zexec call rec k ls (zr 1 64 :: st) (zm N I A) := zx_gf (c := 12) (n := 69) kq_1_0 (by decide) (by decide) rfl
theorem l12_63 (h0 : 0 ≤ x) (h1 : x < 320) : zexec call rec ((.iaload, m, p) :: k) ls (zi x :: zr 1 64 :: st) (zm N I A) = zexec call rec k ls (zi (A 1 64 x.toNat) :: st) (zm N I A) := zx_ai (n := 320) kq_1_64 h0 h1
theorem t12_63 (h0 : 0 ≤ x) (h1 : x < 320) : zexec call rec ((.iastore, m, p) :: k) ls (zi y :: zi x :: zr 1 64 :: st) (zm N I A) = zexec call rec k ls st (zm N I (zuA A 1 64 (zset (A 1 64) x.toNat y))) := zx_si (n := 320) kq_1_64 h0 h1
theorem n12_63  : zexec call rec ((.arraylength, m, p) :: k) ls (zr 1 64 :: st) (zm N I A) = zexec call rec k ls (zi 320 :: st) (zm N I A) := zx_ln (n := 320) (kd := 0) kq_1_64 (by decide) (by decide)
theorem g12_64  : zexec call rec ((.getfield ix, m, (12, 64, s)) :: k) ls (zr 1 0 :: st) (zm N I A) = zexec call rec k ls (zi (I 1 64) :: st) (zm N I A) := zx_gf (c := 12) (n := 69) kq_1_0 (by decide) (by decide) rfl
theorem p12_64  : zexec call rec ((.putfield ix, m, (12, 64, 0)) :: k) ls (zi x :: zr 1 0 :: st) (zm N I A) = zexec call rec k ls st (zm N (zup I 1 64 x) A) := zx_pf (c := 12) (n := 69) kq_1_0 (by decide) (by decide) rfl rfl
theorem g12_65  : zexec call rec ((.getfield ix, m, (12, 65, s)) :: k) ls (zr 1 0 :: st) (zm N I A) = zexec call rec k ls (zi (I 1 65) :: st) (zm N I A) := zx_gf (c := 12) (n := 69) kq_1_0 (by decide) (by decide) rfl
theorem p12_65  : zexec call rec ((.putfield ix, m, (12, 65, 0)) :: k) ls (zi x :: zr 1 0 :: st) (zm N I A) = zexec call rec k ls st (zm N (zup I 1 65 x) A) := zx_pf (c := 12) (n := 69) kq_1_0 (by decide) (by decide) rfl rfl
theorem g12_66  : zexec call rec ((.getfield ix, m, (12, 66, s)) :: k) ls (zr 1 0 :: st) (zm N I A) = zexec call rec k ls (zr 1 67 :: st) (zm N I A) := zx_gf (c := 12) (n := 69) kq_1_0 (by decide) (by decide) rfl
theorem l12_66 (h0 : 0 ≤ x) (h1 : x < 4) : zexec call rec ((.iaload, m, p) :: k) ls (zi x :: zr 1 67 :: st) (zm N I A) = zexec call rec k ls (zi (A 1 67 x.toNat) :: st) (zm N I A) := zx_ai (n := 4) kq_1_67 h0 h1
theorem t12_66 (h0 : 0 ≤ x) (h1 : x < 4) : zexec call rec ((.iastore, m, p) :: k) ls (zi y :: zi x :: zr 1 67 :: st) (zm N I A) = zexec call rec k ls st (zm N I (zuA A 1 67 (zset (A 1 67) x.toNat y))) := zx_si (n := 4) kq_1_67 h0 h1
theorem n12_66  : zexec call rec ((.arraylength, m, p) :: k) ls (zr 1 67 :: st) (zm N I A) = zexec call rec k ls (zi 4 :: st) (zm N I A) := zx_ln (n := 4) (kd := 0) kq_1_67 (by decide) (by decide)
theorem g12_67  : zexec call rec ((.getfield ix, m, (12, 67, s)) :: k) ls (zr 1 0 :: st) (zm N I A) = zexec call rec k ls (zr 1 68 :: st) (zm N I A) := zx_gf (c := 12) (n := 69) kq_1_0 (by decide) (by decide) rfl
theorem l12_67 (h0 : 0 ≤ x) (h1 : x < 4) : zexec call rec ((.iaload, m, p) :: k) ls (zi x :: zr 1 68 :: st) (zm N I A) = zexec call rec k ls (zi (A 1 68 x.toNat) :: st) (zm N I A) := zx_ai (n := 4) kq_1_68 h0 h1
theorem t12_67 (h0 : 0 ≤ x) (h1 : x < 4) : zexec call rec ((.iastore, m, p) :: k) ls (zi y :: zi x :: zr 1 68 :: st) (zm N I A) = zexec call rec k ls st (zm N I (zuA A 1 68 (zset (A 1 68) x.toNat y))) := zx_si (n := 4) kq_1_68 h0 h1
theorem n12_67  : zexec call rec ((.arraylength, m, p) :: k) ls (zr 1 68 :: st) (zm N I A) = zexec call rec k ls (zi 4 :: st) (zm N I A) := zx_ln (n := 4) (kd := 0) kq_1_68 (by decide) (by decide)
theorem g12_68  : zexec call rec ((.getfield ix, m, (12, 68, s)) :: k) ls (zr 1 0 :: st) (zm N I A) = zexec call rec k ls (zr 1 69 :: st) (zm N I A) := zx_gf (c := 12) (n := 69) kq_1_0 (by decide) (by decide) rfl
theorem l12_68 (h0 : 0 ≤ x) (h1 : x < 240) : zexec call rec ((.laload, m, p) :: k) ls (zi x :: zr 1 69 :: st) (zm N I A) = zexec call rec k ls (zl (A 1 69 x.toNat) :: st) (zm N I A) := zx_al (n := 240) kq_1_69 h0 h1
theorem t12_68 (h0 : 0 ≤ x) (h1 : x < 240) : zexec call rec ((.lastore, m, p) :: k) ls (zl y :: zi x :: zr 1 69 :: st) (zm N I A) = zexec call rec k ls st (zm N I (zuA A 1 69 (zset (A 1 69) x.toNat y))) := zx_sl (n := 240) kq_1_69 h0 h1
theorem n12_68  : zexec call rec ((.arraylength, m, p) :: k) ls (zr 1 69 :: st) (zm N I A) = zexec call rec k ls (zi 240 :: st) (zm N I A) := zx_ln (n := 240) (kd := 3) kq_1_69 (by decide) (by decide)
end ZFD
