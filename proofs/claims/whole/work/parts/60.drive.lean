/-! a sheet's drive and its bound -/
section DRIVE
variable {S : ZS} {wy ro sp wear beat cor : Nat → Int} {top low t to : Int}
/-- what the drive needs of the way and of the wear -/
def DrOK (wy ro sp wear beat : Nat → Int) : Prop := (0 ≤ wy 6 ∧ wy 6 ≤ 10) ∧ (0 ≤ wy 5 ∧ wy 5 ≤ 90) ∧ ∀ r : Nat, (r : Int) < wy 6 → (1 ≤ ro r ∧ ro r ≤ 299) ∧ (1 ≤ sp r ∧ sp r ≤ 9) ∧ (0 ≤ wear r ∧ wear r ≤ 1000) ∧ (beat r = 0 ∨ (2 ≤ beat r ∧ beat r ≤ 20))
theorem mulsp {a b : Int} (h1 : 1 ≤ a ∧ a ≤ 9) (h2 : -90 ≤ b ∧ b ≤ 1000) : -810 ≤ a * b ∧ a * b ≤ 9000 ∧ (b ≤ 0 → a * b ≤ 0) ∧ (0 ≤ b → 0 ≤ a * b) := by
  refine ⟨?_, ?_, fun h => ?_, fun h => Int.mul_nonneg (by omega) h⟩
  · have : 0 ≤ a * (b + 90) := Int.mul_nonneg (by omega) (by omega)
    rw [Int.mul_add] at this
    omega
  · have : 0 ≤ a * (1000 - b) := Int.mul_nonneg (by omega) (by omega)
    rw [Int.mul_sub] at this
    omega
  · have : 0 ≤ a * (-b) := Int.mul_nonneg (by omega) (by omega)
    rw [Int.mul_neg] at this
    omega
theorem sgD_b (H : DrOK wy ro sp wear beat) : ∀ r : Nat, (r : Int) ≤ wy 6 → 0 ≤ sgD wy ro sp wear beat top low t r ∧ sgD wy ro sp wear beat top low t r ≤ 90
  | 0, _ => by unfold sgD; omega
  | r + 1, h => by
    have ih := sgD_b H r (by omega)
    obtain ⟨_, h2, h3⟩ := H
    obtain ⟨_, g2, g3, _⟩ := h3 r (by omega)
    have hm := mulsp (a := sp r) (b := 1000 - wear r - wy 5) g2 (by omega)
    unfold sgD
    have e : 10 * sp r * (1000 - wear r - wy 5) = 10 * (sp r * (1000 - wear r - wy 5)) := Int.mul_assoc _ _ _
    rw [e]
    generalize sp r * (1000 - wear r - wy 5) = p at hm
    split
    · exact ih
    · generalize sgD wy ro sp wear beat top low t r = d at ih
      have : 10 * p / 1000 ≤ 90 := by omega
      omega
theorem sgD_s (r : Nat) : sgD wy ro sp wear beat top low t (r + 1) = if 10 * ro r ≤ low ∨ top < 10 * ro r ∨ (beat r ≠ 0 ∧ t % beat r = 0) then sgD wy ro sp wear beat top low t r else max (sgD wy ro sp wear beat top low t r) (10 * sp r * (1000 - wear r - wy 5) / 1000) := rfl
theorem lp_drive12 {q4 q5 : Nat} (H : DrOK (S.2 1 4) (S.2 1 6) (S.2 1 7) (S.2 1 q4) (S.2 1 q5)) (ht : 0 ≤ t ∧ t < 2147483648) :
    F_X12_drive top low t q4 q5 S = some (sgD (S.2 1 4) (S.2 1 6) (S.2 1 7) (S.2 1 q4) (S.2 1 q5) top low t (S.2 1 4 6).toNat) := by
  unfold F_X12_drive F_X12_drive_6
  refine zw_for (fun r => (sgD (S.2 1 4) (S.2 1 6) (S.2 1 7) (S.2 1 q4) (S.2 1 q5) top low t r, (r : Int))) (S.2 1 4 6).toNat rfl (fun r hr => ?_) ?_
  · have hb := sgD_b (top := top) (low := low) (t := t) H r (by omega)
    obtain ⟨h1, h2, h3⟩ := H
    obtain ⟨g1, g2, g3, g4⟩ := h3 r (by omega)
    have hm := mulsp (a := S.2 1 7 r) (b := 1000 - S.2 1 q4 r - S.2 1 4 5) g2 (by omega)
    have e : 10 * S.2 1 7 r * (1000 - S.2 1 q4 r - S.2 1 4 5) = 10 * (S.2 1 7 r * (1000 - S.2 1 q4 r - S.2 1 4 5)) := Int.mul_assoc _ _ _
    have f1 : zmul 10 (S.2 1 6 r) = 10 * S.2 1 6 r := zmul_ok (by omega) (by omega)
    have f2 : zmul 10 (S.2 1 7 r) = 10 * S.2 1 7 r := zmul_ok (by omega) (by omega)
    have f3 : zsub (zsub 1000 (S.2 1 q4 r)) (S.2 1 4 5) = 1000 - S.2 1 q4 r - S.2 1 4 5 := by rw [zsub_ok (x := 1000) (by omega) (by omega), zsub_ok (by omega) (by omega)]
    have f4 : zmul (10 * S.2 1 7 r) (1000 - S.2 1 q4 r - S.2 1 4 5) = 10 * S.2 1 7 r * (1000 - S.2 1 q4 r - S.2 1 4 5) := zmul_ok (by omega) (by omega)
    have f5 : zadd (r : Int) 1 = ((r + 1 : Nat) : Int) := by rw [zadd_ok (by omega) (by omega)]; rfl
    dsimp only
    rw [sgD_s, if_pos (by omega), if_pos (by omega), Int.toNat_natCast, f1]
    have h63 : F_X12_drive_63 q4 q5 top low t (sgD (S.2 1 4) (S.2 1 6) (S.2 1 7) (S.2 1 q4) (S.2 1 q5) top low t r) (r : Int) S = some (.inl (max (sgD (S.2 1 4) (S.2 1 6) (S.2 1 7) (S.2 1 q4) (S.2 1 q5) top low t r) (10 * S.2 1 7 r * (1000 - S.2 1 q4 r - S.2 1 4 5) / 1000), ((r + 1 : Nat) : Int))) := by
      unfold F_X12_drive_63
      generalize sgD (S.2 1 4) (S.2 1 6) (S.2 1 7) (S.2 1 q4) (S.2 1 q5) top low t r = d at hb
      rw [if_pos (by omega), Int.toNat_natCast, f2, f3, f5]
      dsimp only [zlt]
      by_cases c : 0 < 1000 - S.2 1 q4 r - S.2 1 4 5
      · rw [if_pos c, f4, e]
        rw [e] at f4
        have hm2 := hm.2.2.2 (by omega)
        rw [zdiv_ok (by omega) (by omega) (by omega) (by omega)]
        by_cases c2 : d < 10 * (S.2 1 7 r * (1000 - S.2 1 q4 r - S.2 1 4 5)) / 1000
        · rw [if_pos c2, Int.max_eq_right (by omega)]
        · rw [if_neg c2, Int.max_eq_left (by omega)]
      · have hm2 := hm.2.2.1 (by omega)
        rw [if_neg c, if_neg (by omega), e, Int.max_eq_left (by omega)]
    by_cases c1 : S.2 1 6 r * 10 ≤ low
    · rw [if_neg (by omega), if_pos (by omega), f5]
    · rw [if_pos (by omega)]
      by_cases c2 : top < 10 * S.2 1 6 r
      · rw [if_pos c2, if_pos (by omega), f5]
      · rw [if_neg c2]
        rcases g4 with g4 | g4
        · rw [if_neg (by omega), h63, if_neg]
          rintro (z | z | z)
          · omega
          · omega
          · exact z.1 g4
        · rw [if_pos (by omega), if_pos (by omega), zrem_ok ht.1 ht.2 (by omega) (by omega)]
          by_cases c3 : t % S.2 1 q5 r = 0
          · rw [if_pos c3, if_pos (Or.inr (Or.inr ⟨by omega, c3⟩)), f5]
          · rw [if_neg c3, h63, if_neg]
            rintro (z | z | z)
            · omega
            · omega
            · exact c3 z.2
  · dsimp only
    rw [if_neg (by have := H.1; omega)]
theorem sgD_cong {wy' ro' sp' wear' beat' : Nat → Int} : ∀ r : Nat, wy' 5 = wy 5 → (∀ i, i < r → ro' i = ro i ∧ sp' i = sp i ∧ wear' i = wear i ∧ beat' i = beat i) → sgD wy' ro' sp' wear' beat' top low t r = sgD wy ro sp wear beat top low t r
  | 0, _, _ => rfl
  | r + 1, h5, h => by
    obtain ⟨h1, h2, h3, h4⟩ := h r (by omega)
    rw [sgD_s, sgD_s, sgD_cong r h5 (fun i hi => h i (by omega)), h1, h2, h3, h4, h5]
theorem lp_drive11 {F W : Nat} (H : DrOK wy ro sp wear beat) (ht : 0 ≤ t ∧ t < 2147483648) (k1 : S.1 W 1 = wy 6) (k2 : S.1 W 10 = wy 5)
    (K : ∀ r : Nat, (r : Int) < wy 6 → S.2 W 3 r = ro r ∧ S.2 W 4 r = sp r ∧ S.2 F 1 r = wear r ∧ S.2 F 2 r = beat r) :
    F_X1_driveOf F W top low t S = some (sgD wy ro sp wear beat top low t (wy 6).toNat) := by
  unfold F_X1_driveOf F_X1_driveOf_6
  refine zw_for (fun r => (sgD wy ro sp wear beat top low t r, (r : Int))) (wy 6).toNat rfl (fun r hr => ?_) ?_
  · have hb := sgD_b (top := top) (low := low) (t := t) H r (by omega)
    obtain ⟨h1, h2, h3⟩ := H
    obtain ⟨g1, g2, g3, g4⟩ := h3 r (by omega)
    obtain ⟨q1, q2, q3, q4⟩ := K r (by omega)
    have hm := mulsp (a := sp r) (b := 1000 - wear r - wy 5) g2 (by omega)
    have e : 10 * sp r * (1000 - wear r - wy 5) = 10 * (sp r * (1000 - wear r - wy 5)) := Int.mul_assoc _ _ _
    have f1 : zmul (ro r) 10 = 10 * ro r := by rw [zmul_ok (by omega) (by omega)]; omega
    have f2 : zmul 10 (sp r) = 10 * sp r := zmul_ok (by omega) (by omega)
    have f3 : zsub (zsub 1000 (wear r)) (wy 5) = 1000 - wear r - wy 5 := by rw [zsub_ok (x := 1000) (by omega) (by omega), zsub_ok (by omega) (by omega)]
    have f4 : zmul (10 * sp r) (1000 - wear r - wy 5) = 10 * sp r * (1000 - wear r - wy 5) := zmul_ok (by omega) (by omega)
    have f5 : zadd (r : Int) 1 = ((r + 1 : Nat) : Int) := by rw [zadd_ok (by omega) (by omega)]; rfl
    dsimp only
    simp only [Int.toNat_natCast, q1, q2, q3, q4, k1, k2]
    rw [sgD_s, if_pos (by omega), if_pos (by omega), f1, f2, f3, f4, e]
    rw [e] at f4
    generalize sgD wy ro sp wear beat top low t r = d at hb
    have h54 : F_X1_driveOf_54 F W top low t d (r : Int) (10 * ro r) S = some (.inl ((if 10 * ro r ≤ low ∨ top < 10 * ro r then d else max d (10 * (sp r * (1000 - wear r - wy 5)) / 1000)), ((r + 1 : Nat) : Int))) := by
      unfold F_X1_driveOf_54
      rw [if_pos (by omega), Int.toNat_natCast, q2, q3, k2, f2, f3, f4, f5]
      dsimp only [zlt]
      by_cases c1 : low < 10 * ro r
      · rw [if_pos c1]
        by_cases c2 : top < 10 * ro r
        · rw [if_pos c2, if_pos (by omega)]
        · have hne : ¬(10 * ro r ≤ low ∨ top < 10 * ro r) := by omega
          rw [if_neg c2, if_neg hne]
          generalize sp r * (1000 - wear r - wy 5) = p at hm
          by_cases c : 0 ≤ 1000 - wear r - wy 5
          · have hm2 := hm.2.2.2 c
            rw [zdiv_ok (by omega) (by omega) (by omega) (by omega)]
            by_cases c3 : d < 10 * p / 1000
            · rw [if_pos c3, Int.max_eq_right (by omega)]
            · rw [if_neg c3, Int.max_eq_left (by omega)]
          · have hm2 := hm.2.2.1 (by omega)
            have hz := zdiv_np (x := 10 * p) (y := 1000) (by omega) (by omega) (by omega) (by omega)
            rw [if_neg (by omega), Int.max_eq_left (by omega)]
      · rw [if_neg c1, if_pos (by omega)]
    rw [h54]
    dsimp only [zlt]
    rcases g4 with g4 | g4
    · rw [if_pos g4]
      by_cases c : 10 * ro r ≤ low ∨ top < 10 * ro r
      · rw [if_pos c, if_pos (by omega)]
      · rw [if_neg c, if_neg]
        rintro (z | z | z)
        · omega
        · omega
        · exact z.1 g4
    · rw [if_neg (by omega), if_pos (by omega), zrem_ok ht.1 ht.2 (by omega) (by omega)]
      by_cases c3 : t % beat r = 0
      · rw [if_pos c3, if_pos (Or.inr (Or.inr ⟨by omega, c3⟩)), f5]
        repeat' split
        all_goals rfl
      · rw [if_neg c3]
        by_cases c : 10 * ro r ≤ low ∨ top < 10 * ro r
        · rw [if_pos c, if_pos (by omega)]
        · rw [if_neg c, if_neg]
          rintro (z | z | z)
          · omega
          · omega
          · exact c3 z.2
  · dsimp only
    rw [k1, if_neg (by have := H.1; omega)]

theorem sgB_s (c : Nat) : sgB cor top to (c + 1) = if top ≤ 10 * cor c ∧ 10 * cor c < sgB cor top to c then 10 * cor c else sgB cor top to c := rfl
/-- what the bound needs of corners -/
def CoOK (cor : Nat → Int) (many : Nat) : Prop := many ≤ 3 ∧ ∀ c : Nat, c < many → 1 ≤ cor c ∧ cor c ≤ 310
theorem lp_bound12 {q2 many : Nat} (H : CoOK (S.2 1 q2) many) : F_X12_bound top to q2 (many : Int) S = some (sgB (S.2 1 q2) top to many) := by
  unfold F_X12_bound F_X12_bound_6
  refine zw_for (fun c => (sgB (S.2 1 q2) top to c, (c : Int))) many rfl (fun c hc => ?_) ?_
  · obtain ⟨h1, h2⟩ := H
    have h3 := h2 c hc
    have f1 : zmul 10 (S.2 1 q2 c) = 10 * S.2 1 q2 c := zmul_ok (by omega) (by omega)
    have f5 : zadd (c : Int) 1 = ((c + 1 : Nat) : Int) := by rw [zadd_ok (by omega) (by omega)]; rfl
    dsimp only
    rw [sgB_s, if_pos (by omega), if_pos (by omega), Int.toNat_natCast, f1, f5]
    by_cases c1 : 10 * S.2 1 q2 c < top
    · rw [if_pos c1, if_neg (by omega)]
    · rw [if_neg c1]
      by_cases c2 : 10 * S.2 1 q2 c < sgB (S.2 1 q2) top to c
      · rw [if_pos c2, if_pos (by omega)]
      · rw [if_neg c2, if_neg (by omega)]
  · dsimp only
    rw [if_neg (by omega)]
theorem lp_limit11 {F many : Nat} (H : CoOK cor many) (k3 : S.1 F 3 = (many : Int)) (K : ∀ c : Nat, c < many → S.2 F 3 c = cor c) : F_X1_cornerLimit F top S = some (sgB cor top 1000000 many) := by
  unfold F_X1_cornerLimit F_X1_cornerLimit_5
  refine zw_for (fun c => (sgB cor top 1000000 c, (c : Int))) many rfl (fun c hc => ?_) ?_
  · obtain ⟨h1, h2⟩ := H
    have h3 := h2 c hc
    have f1 : zmul (cor c) 10 = 10 * cor c := by rw [zmul_ok (by omega) (by omega)]; omega
    have f5 : zadd (c : Int) 1 = ((c + 1 : Nat) : Int) := by rw [zadd_ok (by omega) (by omega)]; rfl
    dsimp only
    rw [sgB_s, k3, if_pos (by omega), if_pos (by omega), Int.toNat_natCast, K c hc, f1, f5]
    by_cases c1 : 10 * cor c < top
    · rw [if_pos c1, if_neg (by omega)]
    · rw [if_neg c1]
      by_cases c2 : 10 * cor c < sgB cor top 1000000 c
      · rw [if_pos c2, if_pos (by omega)]
      · rw [if_neg c2, if_neg (by omega)]
  · dsimp only
    rw [k3, if_neg (by omega)]
/-- the class takes the least of all, the reference bounds one by one -/
theorem sgB_min (h1 : to ≤ 1000000) : ∀ many, sgB cor top to many = min to (sgB cor top 1000000 many)
  | 0 => by unfold sgB; omega
  | c + 1 => by
    have ih := sgB_min h1 c
    rw [sgB_s, sgB_s, ih]
    generalize sgB cor top 1000000 c = b
    (repeat' split) <;> omega
theorem sgB_b (h : top ≤ to) : ∀ many, top ≤ sgB cor top to many ∧ sgB cor top to many ≤ to
  | 0 => by unfold sgB; omega
  | c + 1 => by
    have ih := sgB_b h c
    rw [sgB_s]
    split <;> omega
end DRIVE
