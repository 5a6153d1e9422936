/-! what is to be made again: lack, kept, again -/
def zrR {α : Type} (I : Nat → α) (r : Nat) (f : α) : Nat → α := fun r' => if r' = r then f else I r'
theorem zrR_same {α : Type} {I : Nat → α} {r : Nat} : zrR I r (I r) = I := by
  funext r'
  unfold zrR
  split
  · rename_i h; rw [h]
  · rfl
theorem zrR_s {α : Type} {I : Nat → α} {r : Nat} {f : α} : zrR I r f r = f := if_pos rfl
theorem zrR_n {α : Type} {I : Nat → α} {r r' : Nat} {f : α} (h : r' ≠ r) : zrR I r f r' = I r' := if_neg h
section KEPT
variable {S : ZS} {al : Nat → Int}
theorem job_nums (H : JobOK al) : ∃ n pg many : Nat, al 32 = (n : Int) ∧ al 31 = (pg : Int) ∧ al 30 * al 31 = (many : Int) ∧ n ≤ 60 ∧ pg ≤ 8 ∧ many ≤ 320 ∧ (many ≠ 0 → 0 < pg) ∧ (al 32).toNat = n ∧ (al 31).toNat = pg ∧ (al 30 * al 31).toNat = many ∧ (pg = 0 → n = 0) := by
  obtain ⟨⟨b1, b2⟩, ⟨b3, b4⟩, b5, b6⟩ := JobOK_b H
  have hs := H.2.2.2.2.2.2.2.2.2.2.2.1
  have mb : 0 ≤ al 30 * al 31 ∧ al 30 * al 31 ≤ 40 * 8 := ⟨Int.mul_nonneg (by omega) b1, Int.mul_le_mul b6 b2 b1 (by omega)⟩
  refine ⟨(al 32).toNat, (al 31).toNat, (al 30 * al 31).toNat, by omega, by omega, by omega, by omega, by omega, by omega, fun h => ?_, rfl, rfl, rfl, fun h => ?_⟩
  · by_cases z : al 31 = 0
    · rw [z, Int.mul_zero] at h
      exact absurd rfl h
    · omega
  · by_cases z : al 32 = 0
    · omega
    · have := hs 0 (by omega); omega
/-- the class's pairs, made anew or kept -/
theorem lp_pairK (hJ : JobR (S.1 11) (S.2 11) (S.2 1 55)) (hK : InvK (S.1 16) (S.2 16) (S.2 1 55)) {n pg many : Nat} (h1 : (S.2 1 55 32) = (n : Int)) (h2 : S.2 1 55 31 = (pg : Int)) (h3 : S.2 1 55 30 * S.2 1 55 31 = (many : Int)) (hn : n ≤ 60) (hp8 : pg ≤ 8) (hm : many ≤ 320) (hpg : many ≠ 0 → 0 < pg) :
    zp (F_X3_pair 11 S) (fun s => ∃ f g, s = (zrR S.1 16 f, zrR S.2 16 g) ∧ f 0 = 1 ∧ f 1 = (many : Int) ∧ f 2 = (kms (fun i => S.2 1 55 (33 + i)) n pg many n many : Int) ∧ ∀ w, w < many → g 4 w = kpo (fun i => S.2 1 55 (33 + i)) n pg many w) := by
  have e32 : (S.2 1 55 32).toNat = n := by omega
  have e31 : (S.2 1 55 31).toNat = pg := by omega
  have em : (S.2 1 55 30 * S.2 1 55 31).toNat = many := by omega
  rcases hK with q | ⟨q1, q2, q3, q4⟩
  · obtain ⟨⟨⟨j1, j2⟩, j3, j4, j5, j6, j7, j8, j9, j10, j11, ⟨j12, j13⟩, j14, j15⟩, e0, e5, e6, e7, e8, e9, e10, e11, e12, k1, k2, k3, k4⟩ := hJ
    refine zp_mono (lp_pair11 (st := fun i => S.2 1 55 (33 + i)) hn hm hpg hp8 q (e0.trans h2) (e12.trans h1) (by rw [e0, e11, Int.mul_comm]; exact h3) (fun j hj => ⟨k3 j (by omega), (j14 j (by omega)).1, by have := (j14 j (by omega)).2; omega⟩)) fun s hs => ?_
    obtain ⟨R, U, rfl, hU⟩ := hs
    refine ⟨zup (zup (zup S.1 16 0 1) 16 1 many) 16 2 (kms (fun i => S.2 1 55 (33 + i)) n pg many n many : Int) 16, zuA (zuA S.2 16 5 R) 16 4 U 16, ?_, rfl, rfl, rfl, fun w hw => ?_⟩
    · congr 1
      · funext r
        by_cases e : r = 16
        · subst e; rw [zrR_s]
        · rw [zrR_n e, zup_R e, zup_R e, zup_R e]
      · funext r
        by_cases e : r = 16
        · subst e; rw [zrR_s]
        · rw [zrR_n e, zuA_R e, zuA_R e]
    · rw [zuA_s]; exact hU w hw
  · rw [e32, e31, em] at q3
    unfold F_X3_pair
    refine zp_neg (by omega) ?_
    rw [zp_some]
    refine ⟨S.1 16, S.2 16, by rw [zrR_same, zrR_same], q1, q2.trans h3, q3, fun w hw => ?_⟩
    have := q4 w (by omega)
    rwa [e32, e31, em] at this
end KEPT
section CNTK
variable {st : Nat → Int} {n pg many : Nat}
theorem kpo_cnt : ∀ w, w ≤ many → cnt (fun w => decide (kpo st n pg many w ≠ -1)) w + (kst st n pg many w).2 = kms st n pg many n many
  | 0, _ => by
    show 0 + kms st n pg many n many = _
    omega
  | w + 1, hw => by
    have ih := kpo_cnt w (by omega)
    have ek : kst st n pg many (w + 1) = (let q := kst st n pg many w; if q.2 = 0 then q else if kfi st n pg q.1 w < n ∧ 1 + kms st n pg many (n - (kfi st n pg q.1 w + 1)) (many - (w + 1)) = q.2 then (kfi st n pg q.1 w + 1, q.2 - 1) else q) := rfl
    have ep : kpo st n pg many w = (let q := kst st n pg many w; if q.2 = 0 then -1 else if kfi st n pg q.1 w < n ∧ 1 + kms st n pg many (n - (kfi st n pg q.1 w + 1)) (many - (w + 1)) = q.2 then (kfi st n pg q.1 w : Int) else -1) := rfl
    have ec : cnt (fun w => decide (kpo st n pg many w ≠ -1)) (w + 1) = cnt (fun w => decide (kpo st n pg many w ≠ -1)) w + (if decide (kpo st n pg many w ≠ -1) = true then 1 else 0) := rfl
    dsimp only at ek ep
    generalize kst st n pg many w = q at ih ek ep
    by_cases c1 : q.2 = 0
    · rw [if_pos c1] at ek ep
      have hz : ¬(kpo st n pg many w ≠ -1) := fun z => z ep
      rw [ec, ek, if_neg (fun z => hz (of_decide_eq_true z)), Nat.add_zero]; exact ih
    · rw [if_neg c1] at ek ep
      by_cases c2 : kfi st n pg q.1 w < n ∧ 1 + kms st n pg many (n - (kfi st n pg q.1 w + 1)) (many - (w + 1)) = q.2
      · rw [if_pos c2] at ek ep
        have : kpo st n pg many w ≠ -1 := by rw [ep]; omega
        rw [ec, ek, if_pos (decide_eq_true this)]
        show _ + (q.2 - 1) = _
        omega
      · rw [if_neg c2] at ek ep
        have hz : ¬(kpo st n pg many w ≠ -1) := fun z => z ep
        rw [ec, ek, if_neg (fun z => hz (of_decide_eq_true z)), Nat.add_zero]; exact ih
theorem cnt_not {p q : Nat → Bool} (h : ∀ i, q i = !p i) : ∀ m, cnt p m + cnt q m = m
  | 0 => rfl
  | m + 1 => by
    have := cnt_not h m
    unfold cnt
    rw [h m]
    cases p m <;> simp <;> omega
theorem kpo_lack : cnt (fun w => decide (kpo st n pg many w = -1)) many + kms st n pg many n many = many := by
  have h1 := kpo_cnt (st := st) (n := n) (pg := pg) (many := many) many (Nat.le_refl _)
  have h2 := (kst_ok (st := st) (n := n) (pg := pg) (many := many) many (Nat.le_refl _)).2
  rw [Nat.sub_self, kms_w0] at h2
  have h3 := cnt_not (p := fun w => decide (kpo st n pg many w = -1)) (q := fun w => decide (kpo st n pg many w ≠ -1)) (fun i => by simp) many
  omega
end CNTK
section KLOOPS
variable {S : ZS} {many : Nat} {x : Int} {U : Nat → Int}
def lkx (U : Nat → Int) (x : Int) (w : Nat) : Bool := decide (U w = -1 ∧ (cnt (fun w => decide (U w = -1)) w : Int) = x)
theorem lp_lack11 (hm : many ≤ 320) (hw : S.1 16 1 = (many : Int)) (hU : ∀ w, w < many → S.2 16 4 w = U w) : F_X3_lackingPlace x S = some (if fnd (lkx U x) many < many then (fnd (lkx U x) many : Int) else -1) := by
  unfold F_X3_lackingPlace F_X3_lackingPlace_4
  refine zw_fnd (lkx U x) (fun w => ((cnt (fun w => decide (U w = -1)) w : Int), (w : Int))) many (fun w => (w : Int)) (-1) rfl (fun i hi hp => ?_) (fun i hi hp => ?_) ?_
  · have hp := of_decide_eq_false hp
    have hc := cnt_le (fun w => decide (U w = -1)) i
    have ec : cnt (fun w => decide (U w = -1)) (i + 1) = cnt (fun w => decide (U w = -1)) i + (if decide (U i = -1) = true then 1 else 0) := rfl
    dsimp only
    rw [hw, if_pos (by omega), if_pos (by omega), Int.toNat_natCast, hU i hi, zadd_ok (x := (i : Int)) (by omega) (by omega), ec]
    by_cases q : U i = -1
    · rw [if_pos q, if_neg (fun z => hp ⟨q, z⟩), zadd_ok (by omega) (by omega), if_pos (decide_eq_true q)]; rfl
    · rw [if_neg q, if_neg (fun z => q (of_decide_eq_true z))]; rfl
  · have hp := of_decide_eq_true hp
    dsimp only
    rw [hw, if_pos (by omega), if_pos (by omega), Int.toNat_natCast, hU i hi, if_pos hp.1, if_pos hp.2]
  · dsimp only
    rw [hw, if_neg (by omega)]
theorem lp_lack12 (hm : many ≤ 320) (hw : zmul (S.2 1 55 30) (S.2 1 55 31) = (many : Int)) (hU : ∀ w, w < many → S.2 1 64 w = U w) : F_X12_lack_13 x 0 0 S = some (if fnd (lkx U x) many < many then (fnd (lkx U x) many : Int) else -1, S) := by
  unfold F_X12_lack_13 F_X12_wanted
  have eR : ((if fnd (lkx U x) many < many then (fnd (lkx U x) many : Int) else -1), S) = if fnd (lkx U x) many < many then ((fnd (lkx U x) many : Int), S) else (-1, S) := by split <;> rfl
  rw [eR]
  refine zw_fnd (lkx U x) (fun w => ((cnt (fun w => decide (U w = -1)) w : Int), (w : Int))) many (fun w => ((w : Int), S)) _ rfl (fun i hi hp => ?_) (fun i hi hp => ?_) ?_
  · have hp := of_decide_eq_false hp
    have hc := cnt_le (fun w => decide (U w = -1)) i
    have ec : cnt (fun w => decide (U w = -1)) (i + 1) = cnt (fun w => decide (U w = -1)) i + (if decide (U i = -1) = true then 1 else 0) := rfl
    dsimp only
    rw [Option.bind_some, hw, if_pos (by omega), if_pos (by omega), Int.toNat_natCast, hU i hi, zadd_ok (x := (i : Int)) (by omega) (by omega), ec]
    by_cases q : U i = -1
    · rw [if_pos q, if_neg (fun z => hp ⟨q, z⟩), zadd_ok (by omega) (by omega), if_pos (decide_eq_true q)]; rfl
    · rw [if_neg q, if_neg (fun z => q (of_decide_eq_true z))]; rfl
  · have hp := of_decide_eq_true hp
    dsimp only
    rw [Option.bind_some, hw, if_pos (by omega), if_pos (by omega), Int.toNat_natCast, hU i hi, if_pos hp.1, if_pos hp.2]
  · dsimp only
    rw [Option.bind_some, hw, if_neg (by omega)]
end KLOOPS
section WHOLE
variable {S : ZS} {pg many co : Nat} {U : Nat → Int}
def whq (U : Nat → Int) (pg c p : Nat) : Bool := decide (U (pg * c + p) = -1)
def whc (U : Nat → Int) (pg c : Nat) : Bool := decide (¬ fnd (whq U pg c) pg < pg)
theorem fnd_step (q : Nat → Bool) (p : Nat) : fnd q (p + 1) < p + 1 ↔ fnd q p < p ∨ q p = true := by
  have hl := fnd_le q p
  have e : fnd q (p + 1) = if fnd q p < p then fnd q p else if q p then p else p + 1 := rfl
  rw [e]
  by_cases c : fnd q p < p
  · rw [if_pos c]; exact ⟨fun _ => Or.inl c, fun _ => by omega⟩
  · rw [if_neg c]
    by_cases d : q p = true
    · rw [if_pos d]; exact ⟨fun _ => Or.inr d, fun _ => by omega⟩
    · rw [if_neg d]
      exact ⟨fun z => by omega, fun z => by rcases z with z | z; exact absurd z c; exact absurd z d⟩
theorem lp_wh11 (hp : pg ≤ 8) (hco : co ≤ 40) (h0 : S.1 11 0 = (pg : Int)) (h11 : S.1 11 11 = (co : Int)) (hU : ∀ w, w < co * pg → S.2 16 4 w = U w) : F_X3_wholeCopies 11 S = some (cnt (whc U pg) co : Int) := by
  unfold F_X3_wholeCopies F_X3_wholeCopies_4
  refine zw_for (fun c => ((cnt (whc U pg) c : Int), (c : Int))) co rfl (fun c hc => ?_) ?_
  · have hcl := cnt_le (whc U pg) c
    have ec : cnt (whc U pg) (c + 1) = cnt (whc U pg) c + (if whc U pg c then 1 else 0) := rfl
    have hm : pg * c + pg ≤ co * pg := by
      have : pg * (c + 1) ≤ pg * co := Nat.mul_le_mul_left pg (by omega)
      rw [Nat.mul_add, Nat.mul_one, Nat.mul_comm pg co] at this
      exact this
    have hm2 : co * pg ≤ 320 := Nat.mul_le_mul hco hp
    have hmc : ((pg * c : Nat) : Int) = (c : Int) * (pg : Int) := by rw [Nat.mul_comm]; exact Int.natCast_mul c pg
    dsimp only
    rw [h11, if_pos (by omega)]
    unfold F_X3_wholeCopies_18
    rw [ec]
    refine zw_for (fun p => ((if fnd (whq U pg c) p < p then (0 : Int) else 1), (p : Int))) pg rfl (fun p hq => ?_) ?_
    · have hs := fnd_step (whq U pg c) p
      have g1 : zadd (zmul (c : Int) (pg : Int)) (p : Int) = ((pg * c + p : Nat) : Int) := by rw [zmul_ok (by omega) (by omega), zadd_ok (by omega) (by omega)]; omega
      simp only [h0, g1]
      rw [if_pos (by omega), zadd_ok (by omega) (by omega)]
      by_cases c1 : fnd (whq U pg c) p < p
      · rw [if_pos c1, if_pos rfl, if_pos (hs.mpr (Or.inl c1))]; rfl
      · rw [if_neg c1, if_neg (by decide), if_pos (by omega), Int.toNat_natCast, hU _ (by omega)]
        by_cases c2 : U (pg * c + p) = -1
        · rw [if_pos c2, if_pos (hs.mpr (Or.inr (decide_eq_true c2)))]; rfl
        · rw [if_neg c2, if_neg (fun z => by rcases hs.mp z with z | z; exact c1 z; exact c2 (of_decide_eq_true z))]; rfl
    · simp only [h0]
      rw [if_neg (by omega), zadd_ok (x := (c : Int)) (by omega) (by omega)]
      by_cases c1 : fnd (whq U pg c) pg < pg
      · have : whc U pg c = false := decide_eq_false (fun z => z c1)
        rw [if_pos c1, if_pos rfl, this, zadd_ok (by omega) (by omega)]
        rfl
      · have : whc U pg c = true := decide_eq_true c1
        rw [if_neg c1, if_neg (by decide), this, zadd_ok (by omega) (by omega)]
        rfl
  · dsimp only
    rw [h11, if_neg (by omega)]
theorem lp_wh12 (hp : pg ≤ 8) (hco : co ≤ 40) (h0 : S.2 1 55 31 = (pg : Int)) (h11 : S.2 1 55 30 = (co : Int)) (hU : ∀ w, w < co * pg → S.2 1 64 w = U w) : F_X12_again_92 0 0 S = some ((cnt (whc U pg) co : Int), S) := by
  unfold F_X12_again_92
  refine zw_for (fun c => ((cnt (whc U pg) c : Int), (c : Int))) co rfl (fun c hc => ?_) ?_
  · have hcl := cnt_le (whc U pg) c
    have ec : cnt (whc U pg) (c + 1) = cnt (whc U pg) c + (if whc U pg c then 1 else 0) := rfl
    have hm : pg * c + pg ≤ co * pg := by
      have : pg * (c + 1) ≤ pg * co := Nat.mul_le_mul_left pg (by omega)
      rw [Nat.mul_add, Nat.mul_one, Nat.mul_comm pg co] at this
      exact this
    have hm2 : co * pg ≤ 320 := Nat.mul_le_mul hco hp
    have hmc : ((pg * c : Nat) : Int) = (pg : Int) * (c : Int) := Int.natCast_mul pg c
    dsimp only
    rw [h11, if_pos (by omega)]
    unfold F_X12_again_110
    rw [ec]
    refine zw_for (fun p => ((if fnd (whq U pg c) p < p then (0 : Int) else 1), (p : Int))) pg rfl (fun p hq => ?_) ?_
    · have hs := fnd_step (whq U pg c) p
      have g1 : zadd (zmul (pg : Int) (c : Int)) (p : Int) = ((pg * c + p : Nat) : Int) := by rw [zmul_ok (by omega) (by omega), zadd_ok (by omega) (by omega)]; omega
      simp only [h0, g1]
      rw [if_pos (by omega), zadd_ok (by omega) (by omega)]
      by_cases c1 : fnd (whq U pg c) p < p
      · rw [if_pos c1, if_pos rfl, if_pos (hs.mpr (Or.inl c1))]; rfl
      · rw [if_neg c1, if_neg (by decide), if_pos (by omega), Int.toNat_natCast, hU _ (by omega)]
        by_cases c2 : U (pg * c + p) = -1
        · rw [if_pos c2, if_pos (hs.mpr (Or.inr (decide_eq_true c2)))]; rfl
        · rw [if_neg c2, if_neg (fun z => by rcases hs.mp z with z | z; exact c1 z; exact c2 (of_decide_eq_true z))]; rfl
    · simp only [h0]
      rw [if_neg (by omega), zadd_ok (x := (c : Int)) (by omega) (by omega)]
      by_cases c1 : fnd (whq U pg c) pg < pg
      · have : whc U pg c = false := decide_eq_false (fun z => z c1)
        rw [if_pos c1, if_pos rfl, this, zadd_ok (by omega) (by omega)]
        rfl
      · have : whc U pg c = true := decide_eq_true c1
        rw [if_neg c1, if_neg (by decide), this, zadd_ok (by omega) (by omega)]
        rfl
  · dsimp only
    rw [h11, if_neg (by omega)]
theorem lp_ag27 {x : Int} {R : Int} (hm : many ≤ 320) (hw : zmul (S.2 1 55 30) (S.2 1 55 31) = (many : Int)) (hU : ∀ w, w < many → S.2 1 64 w = U w) (h60 : 0 ≤ S.2 1 55 32 ∧ S.2 1 55 32 ≤ 60) (hx : 0 ≤ x ∧ x ≤ 2)
    (hR0 : x = 0 → R = (cnt (fun w => decide (U w = -1)) many : Int)) (hR1 : x = 1 → R = S.2 1 55 32 - (many : Int) + (cnt (fun w => decide (U w = -1)) many : Int)) (hR2 : x = 2 → F_X12_again_92 0 0 S = some (R, S)) :
    F_X12_again_27 x 0 0 S = some (R, S) := by
  unfold F_X12_again_27 F_X12_wanted
  refine zw_for (fun w => ((cnt (fun w => decide (U w = -1)) w : Int), (w : Int))) many rfl (fun i hi => ?_) ?_
  · have hc := cnt_le (fun w => decide (U w = -1)) i
    have ec : cnt (fun w => decide (U w = -1)) (i + 1) = cnt (fun w => decide (U w = -1)) i + (if decide (U i = -1) = true then 1 else 0) := rfl
    dsimp only
    rw [Option.bind_some, hw, if_pos (by omega), if_pos (by omega), Int.toNat_natCast, hU i hi, zadd_ok (x := (i : Int)) (by omega) (by omega), ec]
    by_cases q : U i = -1
    · rw [if_pos q, zadd_ok (by omega) (by omega), if_pos (decide_eq_true q)]; rfl
    · rw [if_neg q, zadd_ok (by omega) (by omega), if_neg (fun z => q (of_decide_eq_true z))]; rfl
  · have hc := cnt_le (fun w => decide (U w = -1)) many
    dsimp only
    rw [Option.bind_some, hw, if_neg (by omega)]
    by_cases c1 : x < 2
    · rw [if_pos c1]
      by_cases c2 : x = 0
      · rw [if_pos c2, hR0 c2]
      · rw [if_neg c2, Option.bind_some, zsub_ok (by omega) (by omega), zadd_ok (by omega) (by omega), hR1 (by omega)]
    · rw [if_neg c1, hR2 (by omega)]
      rfl
end WHOLE
section KPAIRS
variable {n : Nat} {S : ZS} {x1 : Int}
theorem pair_kept (h : Inv n S) : Pair n S (F_X11_kept x1) (F_X12_kept x1) := by
  obtain ⟨hT, hW, hF, hX, hO, hC, hJ, hI, hP, hK, hR, hM⟩ := h
  have hX := InvX_up hX
  obtain ⟨k, pg, many, n1, n2, n3, n4, n5, n6, n7, n8, n9, n10, n11⟩ := job_nums hJ.1
  have hJb := JobOK_b hJ.1
  have hzm : zmul (S.2 1 55 30) (S.2 1 55 31) = (many : Int) := by rw [zmul_ok (by omega) (by omega)]; exact n3
  unfold Pair F_X11_kept
  rw [zp_bind]
  refine zp_mono (lp_pairK hJ hK n1 n2 n3 n4 n5 n6 n7) fun s hs => ?_
  obtain ⟨f, g, rfl, hf0, hf1, hf2, hg⟩ := hs
  have hK' : InvK f g (S.2 1 55) := Or.inr ⟨hf0, hf1.trans n3.symm, by rw [n8, n9, n10]; exact hf2, fun w hw => by rw [n8, n9, n10]; exact hg w (by omega)⟩
  have hmod : ∀ T : ZS, T.1 1 = S.1 1 → T.2 1 = S.2 1 → zp (F_X12_pairs (zup T.1 1 0 0, T.2)) (fun s => ∃ V U, s = (zup T.1 1 0 0, zuA (zuA T.2 1 63 V) 1 64 U) ∧ ∀ w, w < many → U w = kpo (fun i => S.2 1 55 (33 + i)) k pg many w) := fun T t1 t2 =>
    lp_pairs12 (S := (zup T.1 1 0 0, T.2)) (st := fun i => S.2 1 55 (33 + i)) n4 n6 n7 n5 ((congrFun (congrFun t2 55) 31).trans n2) ((congrFun (congrFun t2 55) 32).trans n1) (by show T.2 1 55 30 * T.2 1 55 31 = _; rw [t2]; exact n3) (fun j => congrFun (congrFun t2 55) _)
  repeat' first
    | (with_reducible refine zp_some.mpr ?_; try dsimp only)
    | (with_reducible refine zp_wi.mpr ⟨fun c => ?_, fun c => ?_⟩ <;> (try simp (disch := omega) only [zadd_ok, zsub_ok, zmul_ok, zup_ap, zuA_ap, zset_ap, zuA_s, zuA_A, zup_up, and_true, true_and, and_false, false_and, reduceIte, Nat.reduceEqDiff, not_true_eq_false, not_false_eq_true, or_true, true_or, or_false, false_or, zrR_s, hf1] at c) <;> (try (exfalso; omega)) <;> (try dsimp only))
    | with_reducible refine zp_bind.mpr ?_
    | (with_reducible refine zp_if (fun c => ?_) (fun c => ?_) <;> (try simp (disch := omega) only [zadd_ok, zsub_ok, zmul_ok, zup_ap, zuA_ap, zset_ap, zuA_s, zuA_A, zup_up, and_true, true_and, and_false, false_and, reduceIte, Nat.reduceEqDiff, not_true_eq_false, not_false_eq_true, or_true, true_or, or_false, false_or, zrR_s, hf1] at c) <;> (try (exfalso; omega)))
    | (with_reducible refine zp_lt.mpr ?_; try dsimp only)
    | fail
  all_goals refine ⟨rfl, zp_gen S rfl rfl rfl (fun T hE t0 t1 t2 => ?_)⟩
  all_goals
    unfold F_X12_kept F_X12_wanted
    rw [zp_lt, zp_bind]
    refine zp_mono (hmod T t1 t2) fun u hu => ?_
    obtain ⟨V, U, rfl, hU⟩ := hu
    repeat' first
      | (with_reducible refine zp_some.mpr ?_; try dsimp only)
      | (with_reducible refine zp_wi.mpr ⟨fun c => ?_, fun c => ?_⟩ <;> (try simp (disch := omega) only [zadd_ok, zsub_ok, zmul_ok, zup_ap, zuA_ap, zset_ap, zuA_s, zuA_A, zup_up, and_true, true_and, and_false, false_and, reduceIte, Nat.reduceEqDiff, not_true_eq_false, not_false_eq_true, or_true, true_or, or_false, false_or, t1, t2, hzm] at c) <;> (try (exfalso; omega)) <;> (try dsimp only))
      | with_reducible refine zp_bind.mpr ?_
      | (with_reducible refine zp_if (fun c => ?_) (fun c => ?_) <;> (try simp (disch := omega) only [zadd_ok, zsub_ok, zmul_ok, zup_ap, zuA_ap, zset_ap, zuA_s, zuA_A, zup_up, and_true, true_and, and_false, false_and, reduceIte, Nat.reduceEqDiff, not_true_eq_false, not_false_eq_true, or_true, true_or, or_false, false_or, t1, t2, hzm] at c) <;> (try (exfalso; omega)))
      | (with_reducible refine zp_lt.mpr ?_; try dsimp only)
      | fail
  all_goals replace hE := hE.symm
  all_goals subst hE
  all_goals refine ⟨?_, rfl, hT, hW, hF, hX, hO, hC, hJ, hI, hP, hK', hR, hM⟩
  all_goals first
    | rfl
    | (show zuA _ 1 64 U 1 64 x1.toNat = zrR S.2 16 g 16 4 x1.toNat
       rw [zuA_s, zrR_s, hU _ (by omega), hg _ (by omega)])
theorem pair_lack (h : Inv n S) : Pair n S (F_X11_lack x1) (F_X12_lack x1) := by
  obtain ⟨hT, hW, hF, hX, hO, hC, hJ, hI, hP, hK, hR, hM⟩ := h
  have hX := InvX_up hX
  obtain ⟨k, pg, many, n1, n2, n3, n4, n5, n6, n7, n8, n9, n10, n11⟩ := job_nums hJ.1
  have hJb := JobOK_b hJ.1
  have hzm : zmul (S.2 1 55 30) (S.2 1 55 31) = (many : Int) := by rw [zmul_ok (by omega) (by omega)]; exact n3
  unfold Pair F_X11_lack
  rw [zp_bind]
  refine zp_mono (lp_pairK hJ hK n1 n2 n3 n4 n5 n6 n7) fun s hs => ?_
  obtain ⟨f, g, rfl, hf0, hf1, hf2, hg⟩ := hs
  have hK' : InvK f g (S.2 1 55) := Or.inr ⟨hf0, hf1.trans n3.symm, by rw [n8, n9, n10]; exact hf2, fun w hw => by rw [n8, n9, n10]; exact hg w (by omega)⟩
  have hmod : ∀ T : ZS, T.1 1 = S.1 1 → T.2 1 = S.2 1 → zp (F_X12_pairs (zup T.1 1 0 0, T.2)) (fun s => ∃ V U, s = (zup T.1 1 0 0, zuA (zuA T.2 1 63 V) 1 64 U) ∧ ∀ w, w < many → U w = kpo (fun i => S.2 1 55 (33 + i)) k pg many w) := fun T t1 t2 =>
    lp_pairs12 (S := (zup T.1 1 0 0, T.2)) (st := fun i => S.2 1 55 (33 + i)) n4 n6 n7 n5 ((congrFun (congrFun t2 55) 31).trans n2) ((congrFun (congrFun t2 55) 32).trans n1) (by show T.2 1 55 30 * T.2 1 55 31 = _; rw [t2]; exact n3) (fun j => congrFun (congrFun t2 55) _)
  rw [zp_bind, zp_eq (lp_lack11 (S := (zrR S.1 16 f, zrR S.2 16 g)) (U := kpo (fun i => S.2 1 55 (33 + i)) k pg many) n6 hf1 (fun w hw => hg w hw)), zp_some]
  refine ⟨rfl, zp_gen S rfl rfl rfl (fun T hE t0 t1 t2 => ?_)⟩
  unfold F_X12_lack
  rw [zp_lt, zp_bind]
  refine zp_mono (hmod T t1 t2) fun u hu => ?_
  obtain ⟨V, U, rfl, hU⟩ := hu
  rw [zp_eq (lp_lack12 (S := (zup T.1 1 0 0, zuA (zuA T.2 1 63 V) 1 64 U)) (U := kpo (fun i => S.2 1 55 (33 + i)) k pg many) n6 (by show zmul (T.2 1 55 30) (T.2 1 55 31) = _; rw [t2]; exact hzm) (fun w hw => (congrFun (zuA_s (A := zuA T.2 1 63 V) (r := 1) (o := 64) (g := U)) w).trans (hU w hw)))]
  replace hE := hE.symm
  subst hE
  exact ⟨rfl, rfl, hT, hW, hF, hX, hO, hC, hJ, hI, hP, hK', hR, hM⟩
theorem pair_again (h : Inv n S) : Pair n S (F_X11_again x1) (F_X12_again x1) := by
  obtain ⟨hT, hW, hF, hX, hO, hC, hJ, hI, hP, hK, hR, hM⟩ := h
  have hX := InvX_up hX
  obtain ⟨k, pg, many, n1, n2, n3, n4, n5, n6, n7, n8, n9, n10, n11⟩ := job_nums hJ.1
  have hJb := JobOK_b hJ.1
  have hzm : zmul (S.2 1 55 30) (S.2 1 55 31) = (many : Int) := by rw [zmul_ok (by omega) (by omega)]; exact n3
  unfold Pair F_X11_again
  rw [zp_bind]
  refine zp_mono (lp_pairK hJ hK n1 n2 n3 n4 n5 n6 n7) fun s hs => ?_
  obtain ⟨f, g, rfl, hf0, hf1, hf2, hg⟩ := hs
  have hK' : InvK f g (S.2 1 55) := Or.inr ⟨hf0, hf1.trans n3.symm, by rw [n8, n9, n10]; exact hf2, fun w hw => by rw [n8, n9, n10]; exact hg w (by omega)⟩
  have hmod : ∀ T : ZS, T.1 1 = S.1 1 → T.2 1 = S.2 1 → zp (F_X12_pairs (zup T.1 1 0 0, T.2)) (fun s => ∃ V U, s = (zup T.1 1 0 0, zuA (zuA T.2 1 63 V) 1 64 U) ∧ ∀ w, w < many → U w = kpo (fun i => S.2 1 55 (33 + i)) k pg many w) := fun T t1 t2 =>
    lp_pairs12 (S := (zup T.1 1 0 0, T.2)) (st := fun i => S.2 1 55 (33 + i)) n4 n6 n7 n5 ((congrFun (congrFun t2 55) 31).trans n2) ((congrFun (congrFun t2 55) 32).trans n1) (by show T.2 1 55 30 * T.2 1 55 31 = _; rw [t2]; exact n3) (fun j => congrFun (congrFun t2 55) _)
  have hl := kpo_lack (st := fun i => S.2 1 55 (33 + i)) (n := k) (pg := pg) (many := many)
  have hcl := cnt_le (fun w => decide (kpo (fun i => S.2 1 55 (33 + i)) k pg many w = -1)) many
  have hkl := kms_le (st := fun i => S.2 1 55 (33 + i)) (n := k) (pg := pg) (many := many) k many
  obtain ⟨co, hco⟩ : ∃ co : Nat, S.2 1 55 30 = (co : Int) := ⟨_, (Int.toNat_of_nonneg (by omega)).symm⟩
  have hcm : co * pg = many := by
    have : ((co * pg : Nat) : Int) = (many : Int) := by rw [Int.natCast_mul, ← hco, ← n2]; exact n3
    omega
  have w11 := lp_wh11 (S := (zrR S.1 16 f, zrR S.2 16 g)) (U := kpo (fun i => S.2 1 55 (33 + i)) k pg many) (co := co) n5 (by omega) (hJ.2.1.trans n2) (hJ.2.2.2.2.2.2.2.2.1.trans hco) (fun w hw => hg w (by omega))
  have f0 : zrR S.1 16 f 11 12 = (k : Int) := hJ.2.2.2.2.2.2.2.2.2.1.trans n1
  clear hg
  generalize hlk : cnt (fun w => decide (kpo (fun i => S.2 1 55 (33 + i)) k pg many w = -1)) many = lk at hl hcl
  generalize kms (fun i => S.2 1 55 (33 + i)) k pg many k many = mk at hl hkl hf2
  repeat' first
    | (with_reducible refine zp_some.mpr ?_; try dsimp only)
    | (with_reducible refine zp_wi.mpr ⟨fun c => ?_, fun c => ?_⟩ <;> (try simp (disch := omega) only [zadd_ok, zsub_ok, zmul_ok, zup_ap, zuA_ap, zset_ap, zuA_s, zuA_A, zup_up, and_true, true_and, and_false, false_and, reduceIte, Nat.reduceEqDiff, not_true_eq_false, not_false_eq_true, or_true, true_or, or_false, false_or, zrR_s, hf1] at c) <;> (try (exfalso; omega)) <;> (try dsimp only))
    | with_reducible refine zp_bind.mpr ?_
    | (with_reducible refine zp_if (fun c => ?_) (fun c => ?_) <;> (try simp (disch := omega) only [zadd_ok, zsub_ok, zmul_ok, zup_ap, zuA_ap, zset_ap, zuA_s, zuA_A, zup_up, and_true, true_and, and_false, false_and, reduceIte, Nat.reduceEqDiff, not_true_eq_false, not_false_eq_true, or_true, true_or, or_false, false_or, zrR_s, hf1] at c) <;> (try (exfalso; omega)))
    | (with_reducible refine zp_lt.mpr ?_; try dsimp only)
    | fail
  all_goals try rw [zp_eq w11, zp_some]
  all_goals refine ⟨rfl, zp_gen S rfl rfl rfl (fun T hE t0 t1 t2 => ?_)⟩
  all_goals
    unfold F_X12_again
    repeat' first
      | (with_reducible refine zp_some.mpr ?_; try dsimp only)
      | (with_reducible refine zp_wi.mpr ⟨fun c => ?_, fun c => ?_⟩ <;> (try simp (disch := omega) only [zadd_ok, zsub_ok, zmul_ok, zup_ap, zuA_ap, zset_ap, zuA_s, zuA_A, zup_up, and_true, true_and, and_false, false_and, reduceIte, Nat.reduceEqDiff, not_true_eq_false, not_false_eq_true, or_true, true_or, or_false, false_or, t1, t2, hzm] at c) <;> (try (exfalso; omega)) <;> (try dsimp only))
      | with_reducible refine zp_bind.mpr ?_
      | (with_reducible refine zp_if (fun c => ?_) (fun c => ?_) <;> (try simp (disch := omega) only [zadd_ok, zsub_ok, zmul_ok, zup_ap, zuA_ap, zset_ap, zuA_s, zuA_A, zup_up, and_true, true_and, and_false, false_and, reduceIte, Nat.reduceEqDiff, not_true_eq_false, not_false_eq_true, or_true, true_or, or_false, false_or, t1, t2, hzm] at c) <;> (try (exfalso; omega)))
      | (with_reducible refine zp_lt.mpr ?_; try dsimp only)
      | fail
  all_goals
    first
      | (replace hE := hE.symm
         subst hE
         exact ⟨rfl, rfl, hT, hW, hF, hX, hO, hC, hJ, hI, hP, hK', hR, hM⟩)
      | skip
  all_goals
    refine zp_mono (hmod T t1 t2) fun u hu => ?_
    obtain ⟨V, U, rfl, hU⟩ := hu
    have hU' : ∀ w, w < many → zuA (zuA T.2 1 63 V) 1 64 U 1 64 w = kpo (fun i => S.2 1 55 (33 + i)) k pg many w := fun w hw => (congrFun (zuA_s (A := zuA T.2 1 63 V) (r := 1) (o := 64) (g := U)) w).trans (hU w hw)
    have q32 : T.2 1 55 32 = S.2 1 55 32 := congrFun (congrFun t2 55) 32
  · rw [zp_eq (lp_ag27 (R := (lk : Int)) (S := (zup T.1 1 0 0, zuA (zuA T.2 1 63 V) 1 64 U)) n6 (by show zmul (T.2 1 55 30) (T.2 1 55 31) = _; rw [t2]; exact hzm) hU' (by show 0 ≤ T.2 1 55 32 ∧ T.2 1 55 32 ≤ 60; omega) (by omega) (fun _ => by rw [hlk]) (fun z => by omega) (fun z => by omega))]
    replace hE := hE.symm
    subst hE
    refine ⟨?_, rfl, hT, hW, hF, hX, hO, hC, hJ, hI, hP, hK', hR, hM⟩
    show (lk : Int) = zsub (zrR S.1 16 f 16 1) (zrR S.1 16 f 16 2)
    rw [zrR_s, hf1, hf2, zsub_ok (by omega) (by omega)]
    omega
  · rw [zp_eq (lp_ag27 (R := S.2 1 55 32 - (many : Int) + (lk : Int)) (S := (zup T.1 1 0 0, zuA (zuA T.2 1 63 V) 1 64 U)) n6 (by show zmul (T.2 1 55 30) (T.2 1 55 31) = _; rw [t2]; exact hzm) hU' (by show 0 ≤ T.2 1 55 32 ∧ T.2 1 55 32 ≤ 60; omega) (by omega) (fun z => by omega) (fun _ => by rw [hlk]; show _ = T.2 1 55 32 - _ + _; rw [q32]) (fun z => by omega))]
    replace hE := hE.symm
    subst hE
    refine ⟨?_, rfl, hT, hW, hF, hX, hO, hC, hJ, hI, hP, hK', hR, hM⟩
    show S.2 1 55 32 - (many : Int) + (lk : Int) = zsub (zrR S.1 16 f 11 12) (zrR S.1 16 f 16 2)
    rw [f0, zrR_s, hf2, zsub_ok (by omega) (by omega)]
    omega
  · rw [zp_eq (lp_ag27 (R := (cnt (whc (kpo (fun i => S.2 1 55 (33 + i)) k pg many) pg) co : Int)) (S := (zup T.1 1 0 0, zuA (zuA T.2 1 63 V) 1 64 U)) n6 (by show zmul (T.2 1 55 30) (T.2 1 55 31) = _; rw [t2]; exact hzm) hU' (by show 0 ≤ T.2 1 55 32 ∧ T.2 1 55 32 ≤ 60; omega) (by omega) (fun z => by omega) (fun z => by omega) (fun _ => lp_wh12 (S := (zup T.1 1 0 0, zuA (zuA T.2 1 63 V) 1 64 U)) n5 (by omega) ((congrFun (congrFun t2 55) 31).trans n2) ((congrFun (congrFun t2 55) 30).trans hco) (fun w hw => hU' w (by omega))))]
    replace hE := hE.symm
    subst hE
    exact ⟨rfl, rfl, hT, hW, hF, hX, hO, hC, hJ, hI, hP, hK', hR, hM⟩
end KPAIRS
