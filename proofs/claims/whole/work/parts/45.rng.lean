/-! rows written one number after the other -/
theorem zup_ap {I : Nat → Nat → Int} {r k : Nat} {v : Int} {r' k' : Nat} : zup I r k v r' k' = if r' = r ∧ k' = k then v else I r' k' := rfl
theorem zuA_ap {A : ZA} {r o : Nat} {g : Nat → Int} {r' o' j : Nat} : zuA A r o g r' o' j = if r' = r ∧ o' = o then g j else A r' o' j := rfl
theorem zset_ap {g : Nat → Int} {k : Nat} {v : Int} {j : Nat} : zset g k v j = if j = k then v else g j := rfl
theorem F12_within {x a b : Int} {S : ZS} : F_X12_within x a b S = some (if a ≤ x ∧ x ≤ b then 1 else 0) := by
  unfold F_X12_within
  by_cases h : x < a
  · rw [if_pos (zlcmp_lt.mpr h), if_neg (by omega)]
  · rw [if_neg (fun z => h (zlcmp_lt.mp z))]
    by_cases h2 : b < x
    · rw [if_pos (zlcmp_gt.mpr h2), if_neg (by omega)]
    · rw [if_neg (fun z => h2 (zlcmp_gt.mp z)), if_pos (by omega)]
def zrg (b i : Nat) (f g : Nat → Int) : Nat → Int := fun j => if b ≤ j ∧ j < b + i then f (j - b) else g j
theorem zrg_ap {b i : Nat} {f g : Nat → Int} {j : Nat} : zrg b i f g j = if b ≤ j ∧ j < b + i then f (j - b) else g j := rfl
theorem zrg_0 {b : Nat} {f g : Nat → Int} : zrg b 0 f g = g := by
  funext j
  unfold zrg
  rw [if_neg (by omega)]
theorem zrg_s {b i : Nat} {f g : Nat → Int} {v : Int} (h : v = f i) : zset (zrg b i f g) (b + i) v = zrg b (i + 1) f g := by
  funext j
  unfold zset zrg
  by_cases h1 : j = b + i
  · rw [if_pos h1, if_pos (by omega), h1, Nat.add_sub_cancel_left, h]
  · rw [if_neg h1]
    by_cases h2 : b ≤ j ∧ j < b + i
    · rw [if_pos h2, if_pos (by omega)]
    · rw [if_neg h2, if_neg (by omega)]
theorem zrg_z {i : Nat} {f g : Nat → Int} {v : Int} (h : v = f i) : zset (zrg 0 i f g) i v = zrg 0 (i + 1) f g := by
  have := zrg_s (b := 0) (g := g) h
  rwa [Nat.zero_add] at this
theorem zrg_out {b i : Nat} {f g : Nat → Int} {j : Nat} (h : j < b ∨ b + i ≤ j) : zrg b i f g j = g j := if_neg (by omega)
theorem zrg_in {b i : Nat} {f g : Nat → Int} {j : Nat} (h : j < i) : zrg b i f g (b + j) = f j := by
  unfold zrg
  rw [if_pos (by omega), Nat.add_sub_cancel_left]
theorem zs_eta (S : ZS) : (S.1, S.2) = S := rfl
section LOOPS
variable {S : ZS} {r m : Nat}
theorem lp_row (hr : r < 4) (hm : m ≤ 60) : F_X12_row_62 (r : Int) (m : Int) 0 S = some (0, (S.1, zuA S.2 1 69 (zrg (60 * r) m (fun _ => 0) (S.2 1 69)))) := by
  unfold F_X12_row_62
  refine zw_for (fun i => ((i : Int), (S.1, zuA S.2 1 69 (zrg (60 * r) i (fun _ => 0) (S.2 1 69))))) m ?_ (fun i hi => ?_) ?_
  · rw [zrg_0, zuA_same]; rfl
  · simp (disch := omega) only [zlt, if_pos, zadd_ok, zmul_ok, zuA_s, zuA_A]
    rw [show (60 * (r : Int) + (i : Int)).toNat = 60 * r + i by omega, zrg_s rfl, show ((i : Int) + 1) = ((i + 1 : Nat) : Int) by omega]
  · simp (disch := omega) only [if_neg]
theorem lp_save11 (hr : r < 4) (hm : m ≤ 60) (h : S.1 11 12 = (m : Int)) : F_X11_save_52 (r : Int) 0 S = some ((m : Int), (S.1, zuA S.2 18 (10 + r) (zrg 0 m (S.2 11 14) (S.2 18 (10 + r))))) := by
  unfold F_X11_save_52
  refine zw_for (fun i => ((i : Int), (S.1, zuA S.2 18 (10 + r) (zrg 0 i (S.2 11 14) (S.2 18 (10 + r)))))) m ?_ (fun i hi => ?_) ?_
  · rw [zrg_0, zuA_same]; rfl
  · simp (disch := omega) only [zlt, h, if_pos, zadd_ok, Int.toNat_natCast, zuA_s, zuA_A]
    rw [zrg_z (by rw [zuA_r (by decide)]), show ((i : Int) + 1) = ((i + 1 : Nat) : Int) by omega]
  · simp (disch := omega) only [if_neg, h]
theorem lp_save12 (hr : r < 4) (hm : m ≤ 60) (h : S.2 1 55 32 = (m : Int)) : F_X12_save_54 (r : Int) 0 S = some ((m : Int), (S.1, zuA S.2 1 69 (zrg (60 * r) m (fun i => S.2 1 55 (33 + i)) (S.2 1 69)))) := by
  unfold F_X12_save_54
  have e : ∀ g : Nat → Int, zuA S.2 1 69 g 1 55 = S.2 1 55 := fun g => zuA_o (by decide)
  refine zw_for (fun i => ((i : Int), (S.1, zuA S.2 1 69 (zrg (60 * r) i (fun i => S.2 1 55 (33 + i)) (S.2 1 69))))) m ?_ (fun i hi => ?_) ?_
  · rw [zrg_0, zuA_same]; rfl
  · simp (disch := omega) only [zlt, e, h, if_pos, zadd_ok, zmul_ok, zuA_s, zuA_A]
    rw [show (60 * (r : Int) + (i : Int)).toNat = 60 * r + i by omega, show (33 + (i : Int)).toNat = 33 + i by omega, zrg_s rfl, show ((i : Int) + 1) = ((i + 1 : Nat) : Int) by omega]
  · simp (disch := omega) only [if_neg, e, h]
theorem lp_load11 (hr : r < 4) (hm : m ≤ 60) : F_X11_load_72 (r : Int) (m : Int) 0 S = some ((m : Int), (zup (zup S.1 11 12 m) 16 0 0, zuA S.2 11 14 (zrg 0 m (fun i => zl2i (S.2 18 (10 + r) i)) (S.2 11 14)))) := by
  unfold F_X11_load_72
  have e : ∀ g : Nat → Int, zuA S.2 11 14 g 18 = S.2 18 := fun g => zuA_R (by decide)
  refine zw_for (fun i => ((i : Int), (S.1, zuA S.2 11 14 (zrg 0 i (fun i => zl2i (S.2 18 (10 + r) i)) (S.2 11 14))))) m ?_ (fun i hi => ?_) ?_
  · rw [zrg_0, zuA_same]; rfl
  · simp (disch := omega) only [zlt, e, if_pos, zadd_ok, Int.toNat_natCast, zuA_s, zuA_A]
    rw [zrg_z rfl, show ((i : Int) + 1) = ((i + 1 : Nat) : Int) by omega]
  · simp (disch := omega) only [zlt, if_neg]
theorem lp_load12 (hr : r < 4) (hm : m ≤ 60) : F_X12_load_98 (r : Int) (m : Int) 0 S = some ((m : Int), (S.1, zuA S.2 1 55 (zset (zrg 33 m (fun i => zl2i (S.2 1 69 (60 * r + i))) (S.2 1 55)) 32 m))) := by
  unfold F_X12_load_98
  have e : ∀ g : Nat → Int, zuA S.2 1 55 g 1 69 = S.2 1 69 := fun g => zuA_o (by decide)
  refine zw_for (fun i => ((i : Int), (S.1, zuA S.2 1 55 (zrg 33 i (fun i => zl2i (S.2 1 69 (60 * r + i))) (S.2 1 55))))) m ?_ (fun i hi => ?_) ?_
  · rw [zrg_0, zuA_same]; rfl
  · simp (disch := omega) only [zlt, e, if_pos, zadd_ok, zmul_ok, zuA_s, zuA_A]
    rw [show (60 * (r : Int) + (i : Int)).toNat = 60 * r + i by omega, show (33 + (i : Int)).toNat = 33 + i by omega, zrg_s rfl, show ((i : Int) + 1) = ((i + 1 : Nat) : Int) by omega]
  · simp (disch := omega) only [zlt, if_neg, zuA_s, zuA_A]
theorem lp_tells11 {p : Int} (hr : r < 4) (hm : m ≤ 60) : F_X4_tellsPages (r : Int) (m : Int) p S = some (if fnd (fun i => decide (S.2 18 (10 + r) i < 0 ∨ p ≤ S.2 18 (10 + r) i)) m < m then 0 else 1) := by
  unfold F_X4_tellsPages F_X4_tellsPages_3
  refine zw_fnd (fun i => decide (S.2 18 (10 + r) i < 0 ∨ p ≤ S.2 18 (10 + r) i)) (fun i => (i : Int)) m (fun _ => 0) 1 rfl (fun i hi hp => ?_) (fun i hi hp => ?_) ?_
  · have hp := of_decide_eq_false hp
    simp (disch := omega) only [if_pos, Int.toNat_natCast]
    rw [if_neg (fun z => hp (Or.inl (zlcmp_lt.mp z))), if_pos (zlcmp_lt.mpr (by omega)), zadd_ok (by omega) (by omega)]
    rfl
  · have hp := of_decide_eq_true hp
    simp (disch := omega) only [if_pos, Int.toNat_natCast]
    by_cases h : S.2 18 (10 + r) i < 0
    · rw [if_pos (zlcmp_lt.mpr h)]
    · rw [if_neg (fun z => h (zlcmp_lt.mp z)), if_neg (fun z => by have := zlcmp_lt.mp z; omega)]
  · simp (disch := omega) only [if_neg]
theorem lp_tells12 (hr : r < 4) (hm : m ≤ 60) (hp : 0 ≤ S.2 1 55 31 ∧ S.2 1 55 31 ≤ 8) : F_X12_load_54 (r : Int) (m : Int) 0 S = if fnd (fun i => decide (S.2 1 69 (60 * r + i) < 0 ∨ S.2 1 55 31 ≤ S.2 1 69 (60 * r + i))) m < m then some (-5, S) else F_X12_load_98 (r : Int) (m : Int) 0 S := by
  have hl := fnd_le (fun i => decide (S.2 1 69 (60 * r + i) < 0 ∨ S.2 1 55 31 ≤ S.2 1 69 (60 * r + i))) m
  unfold F_X12_load_54
  have step : ∀ i : Nat, i < m → ¬(S.2 1 69 (60 * r + i) < 0 ∨ S.2 1 55 31 ≤ S.2 1 69 (60 * r + i)) → (fun s : Int => if s < (m : Int) then if 0 ≤ zadd (zmul 60 (r : Int)) s ∧ zadd (zmul 60 (r : Int)) s < 240 then (F_X12_within (S.2 1 69 (zadd (zmul 60 (r : Int)) s).toNat) 0 (zsub (S.2 1 55 31) 1) S).bind fun r8 => if r8 = 0 then some (.inr ((-5), S)) else some (.inl (zadd s 1)) else none else zjn (F_X12_load_98 (r : Int) (m : Int) 0 S)) (i : Int) = some (.inl ((i + 1 : Nat) : Int)) := by
    intro i hi hq
    have c : 0 ≤ S.2 1 69 (60 * r + i) ∧ S.2 1 69 (60 * r + i) ≤ S.2 1 55 31 - 1 := by omega
    simp (disch := omega) only [if_pos, zadd_ok, zmul_ok, zsub_ok, F12_within, Option.bind_some]
    rw [show (60 * (r : Int) + (i : Int)).toNat = 60 * r + i by omega]
    simp only [if_pos c]
    rfl
  split
  · rename_i h
    refine zw_for (fun i => (i : Int)) (fnd (fun i => decide (S.2 1 69 (60 * r + i) < 0 ∨ S.2 1 55 31 ≤ S.2 1 69 (60 * r + i))) m) rfl (fun i hi => step i (by omega) (of_decide_eq_false (fnd_no hi))) ?_
    have h1 := of_decide_eq_true (fnd_yes h)
    generalize fnd (fun i => decide (S.2 1 69 (60 * r + i) < 0 ∨ S.2 1 55 31 ≤ S.2 1 69 (60 * r + i))) m = k at h h1 hl
    have c : ¬(0 ≤ S.2 1 69 (60 * r + k) ∧ S.2 1 69 (60 * r + k) ≤ S.2 1 55 31 - 1) := by omega
    simp (disch := omega) only [if_pos, zadd_ok, zmul_ok, zsub_ok, F12_within, Option.bind_some]
    rw [show (60 * (r : Int) + (k : Int)).toNat = 60 * r + k by omega]
    simp only [if_neg c]
    rfl
  · rename_i h
    refine Eq.trans (zw_for (fun i => (i : Int)) m rfl (fun i hi => step i hi (of_decide_eq_false (fnd_no (p := fun i => decide (S.2 1 69 (60 * r + i) < 0 ∨ S.2 1 55 31 ≤ S.2 1 69 (60 * r + i))) (n := m) (by omega)))) ?_) (lp_load12 hr hm).symm
    simp (disch := omega) only [if_neg]
    rw [lp_load12 hr hm]
    rfl
theorem lp_image (hr : r < 2) : F_X12_image_19 (r : Int) 0 S = some (1, (S.1, zuA (zuA S.2 1 55 (zrg (133 * (r + 1)) 133 (fun i => S.2 1 55 i) (S.2 1 55))) 1 56 (zset (S.2 1 56) r 1))) := by
  unfold F_X12_image_19
  refine zw_for (fun i => ((i : Int), (S.1, zuA S.2 1 55 (zrg (133 * (r + 1)) i (fun i => S.2 1 55 i) (S.2 1 55))))) 133 ?_ (fun i hi => ?_) ?_
  · rw [zrg_0, zuA_same]; rfl
  · simp (disch := omega) only [zlt, if_pos, zadd_ok, zmul_ok, zuA_s, zuA_A, Int.toNat_natCast]
    rw [show (133 * ((r : Int) + 1) + (i : Int)).toNat = 133 * (r + 1) + i by omega, zrg_out (by omega), zrg_s rfl, show ((i : Int) + 1) = ((i + 1 : Nat) : Int) by omega]
  · simp (disch := omega) only [zlt, if_neg, if_pos, Int.toNat_natCast]
    rw [zuA_o (by decide)]
theorem lp_restore (hr : r < 2) : F_X12_restore_28 (r : Int) 0 S = some (1, (S.1, zuA S.2 1 55 (zrg 0 133 (fun i => S.2 1 55 (133 * (r + 1) + i)) (S.2 1 55)))) := by
  unfold F_X12_restore_28
  refine zw_for (fun i => ((i : Int), (S.1, zuA S.2 1 55 (zrg 0 i (fun i => S.2 1 55 (133 * (r + 1) + i)) (S.2 1 55))))) 133 ?_ (fun i hi => ?_) ?_
  · rw [zrg_0, zuA_same]; rfl
  · simp (disch := omega) only [zlt, if_pos, zadd_ok, zmul_ok, zuA_s, zuA_A, Int.toNat_natCast]
    rw [show (133 * ((r : Int) + 1) + (i : Int)).toNat = 133 * (r + 1) + i by omega, zrg_out (by omega), zrg_z rfl, show ((i : Int) + 1) = ((i + 1 : Nat) : Int) by omega]
  · simp (disch := omega) only [zlt, if_neg]
end LOOPS
