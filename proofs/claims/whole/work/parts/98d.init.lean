/-! the pictures hold at the start -/
section INI
variable {xs : Nat → Int}
def bIl : List (Nat × Nat × Int) := [(3, 1, 0), (1, 2, 0), (3, 2, 0), (1, 21, 0), (3, 3, -1), (1, 22, -1), (2, 11, 19), (2, 12, 20), (19, 0, 100), (19, 1, 0), (19, 4, 0), (19, 6, 0), (19, 7, 0), (19, 8, 0), (19, 9, 0), (19, 10, 0), (4, 3, 0), (1, 26, 0), (1, 27, 0), (1, 28, 0), (1, 29, -1), (6, 1, 0), (6, 2, 0), (6, 3, -1), (6, 4, 0), (6, 13, 0), (6, 15, 19), (6, 16, 4), (10, 0, 0), (10, 10, -1), (11, 0, 0), (11, 5, 1), (11, 6, 0), (11, 7, 30), (11, 8, 0), (11, 9, 0), (11, 10, 1), (11, 11, 1), (11, 12, 0), (14, 0, 0), (16, 0, 0), (17, 0, -1)]
theorem bIl_ok : bIl.all (fun e => decide (zI0 e.1 e.2.1 = e.2.2)) = true := by decide +kernel
theorem bI {r k : Nat} {v : Int} (h : bIl.contains (r, k, v) = true) : zI0 r k = v := of_decide_eq_true (List.all_eq_true.mp bIl_ok (r, k, v) (List.contains_iff_mem.mp h))
def bf_1_4 : Nat → Int := fun j => if j = 0 then 100 else 0
def bf_4_1 : Nat → Int := fun _ => 0
def bf_4_2 : Nat → Int := fun _ => 0
def bf_1_24 : Nat → Int := fun _ => 0
def bf_1_25 : Nat → Int := fun _ => 0
def bf_10_5 : Nat → Int := fun _ => 0
def bf_1_38 : Nat → Int := fun _ => 0
def bf_1_55 : Nat → Int := fun j => if j = 24 then 1 else if j = 26 then 30 else if j = 29 then 1 else if j = 30 then 1 else if 103 ≤ j ∧ j < 113 then 12 else 0
def bf_11_4 : Nat → Int := fun _ => 0
def bf_11_5 : Nat → Int := fun _ => 0
def bf_11_15 : Nat → Int := fun _ => 0
def bf_11_17 : Nat → Int := fun _ => 0
def bf_11_18 : Nat → Int := fun _ => 0
def bf_2_7 : Nat → Int := fun _ => 0
def bf_1_56 : Nat → Int := fun _ => 0
def bf_18_3 : Nat → Int := fun _ => -1
def bf_1_67 : Nat → Int := fun _ => -1
theorem bA_ok : ((List.range 8).all (fun j => decide (zb4.2.2.1 1 4 j = bf_1_4 j)) = true) ∧ ((List.range 10).all (fun j => decide (zb4.2.2.1 4 1 j = bf_4_1 j)) = true) ∧ ((List.range 10).all (fun j => decide (zb4.2.2.1 4 2 j = bf_4_2 j)) = true) ∧ ((List.range 10).all (fun j => decide (zb4.2.2.1 1 24 j = bf_1_24 j)) = true) ∧ ((List.range 10).all (fun j => decide (zb4.2.2.1 1 25 j = bf_1_25 j)) = true) ∧ ((List.range 19).all (fun j => decide (zb4.2.2.1 10 5 j = bf_10_5 j)) = true) ∧ ((List.range 19).all (fun j => decide (zb4.2.2.1 1 38 j = bf_1_38 j)) = true) ∧ ((List.range 133).all (fun j => decide (zb4.2.2.1 1 55 j = bf_1_55 j)) = true) ∧ ((List.range 4).all (fun j => decide (zb4.2.2.1 11 4 j = bf_11_4 j)) = true) ∧ ((List.range 4).all (fun j => decide (zb4.2.2.1 11 5 j = bf_11_5 j)) = true) ∧ ((List.range 10).all (fun j => decide (zb4.2.2.1 11 15 j = bf_11_15 j)) = true) ∧ ((List.range 10).all (fun j => decide (zb4.2.2.1 11 17 j = bf_11_17 j)) = true) ∧ ((List.range 10).all (fun j => decide (zb4.2.2.1 11 18 j = bf_11_18 j)) = true) ∧ ((List.range 2).all (fun j => decide (zb4.2.2.1 2 7 j = bf_2_7 j)) = true) ∧ ((List.range 2).all (fun j => decide (zb4.2.2.1 1 56 j = bf_1_56 j)) = true) ∧ ((List.range 4).all (fun j => decide (zb4.2.2.1 18 3 j = bf_18_3 j)) = true) ∧ ((List.range 4).all (fun j => decide (zb4.2.2.1 1 67 j = bf_1_67 j)) = true) := by decide +kernel
theorem ba_1_4 {j : Nat} (h : j < 8) : bA0 xs 1 4 j = bf_1_4 j := by rw [bA0_at (a := 0) (b := 8) (by decide +kernel)]; exact of_decide_eq_true (List.all_eq_true.mp bA_ok.1 j (List.mem_range.mpr h))
theorem ba_4_1 {j : Nat} (h : j < 10) : bA0 xs 4 1 j = bf_4_1 j := by rw [bA0_at (a := 0) (b := 10) (by decide +kernel)]; exact of_decide_eq_true (List.all_eq_true.mp bA_ok.2.1 j (List.mem_range.mpr h))
theorem ba_4_2 {j : Nat} (h : j < 10) : bA0 xs 4 2 j = bf_4_2 j := by rw [bA0_at (a := 0) (b := 10) (by decide +kernel)]; exact of_decide_eq_true (List.all_eq_true.mp bA_ok.2.2.1 j (List.mem_range.mpr h))
theorem ba_1_24 {j : Nat} (h : j < 10) : bA0 xs 1 24 j = bf_1_24 j := by rw [bA0_at (a := 0) (b := 10) (by decide +kernel)]; exact of_decide_eq_true (List.all_eq_true.mp bA_ok.2.2.2.1 j (List.mem_range.mpr h))
theorem ba_1_25 {j : Nat} (h : j < 10) : bA0 xs 1 25 j = bf_1_25 j := by rw [bA0_at (a := 0) (b := 10) (by decide +kernel)]; exact of_decide_eq_true (List.all_eq_true.mp bA_ok.2.2.2.2.1 j (List.mem_range.mpr h))
theorem ba_10_5 {j : Nat} (h : j < 19) : bA0 xs 10 5 j = bf_10_5 j := by rw [bA0_at (a := 1) (b := 19) (by decide +kernel)]; exact of_decide_eq_true (List.all_eq_true.mp bA_ok.2.2.2.2.2.1 j (List.mem_range.mpr h))
theorem ba_1_38 {j : Nat} (h : j < 19) : bA0 xs 1 38 j = bf_1_38 j := by rw [bA0_at (a := 1) (b := 19) (by decide +kernel)]; exact of_decide_eq_true (List.all_eq_true.mp bA_ok.2.2.2.2.2.2.1 j (List.mem_range.mpr h))
theorem ba_1_55 {j : Nat} (h : j < 133) : bA0 xs 1 55 j = bf_1_55 j := by rw [bA0_at (a := 0) (b := 399) (by decide +kernel)]; exact of_decide_eq_true (List.all_eq_true.mp bA_ok.2.2.2.2.2.2.2.1 j (List.mem_range.mpr h))
theorem ba_11_4 {j : Nat} (h : j < 4) : bA0 xs 11 4 j = bf_11_4 j := by rw [bA0_at (a := 0) (b := 4) (by decide +kernel)]; exact of_decide_eq_true (List.all_eq_true.mp bA_ok.2.2.2.2.2.2.2.2.1 j (List.mem_range.mpr h))
theorem ba_11_5 {j : Nat} (h : j < 4) : bA0 xs 11 5 j = bf_11_5 j := by rw [bA0_at (a := 1) (b := 4) (by decide +kernel)]; exact of_decide_eq_true (List.all_eq_true.mp bA_ok.2.2.2.2.2.2.2.2.2.1 j (List.mem_range.mpr h))
theorem ba_11_15 {j : Nat} (h : j < 10) : bA0 xs 11 15 j = bf_11_15 j := by rw [bA0_at (a := 0) (b := 10) (by decide +kernel)]; exact of_decide_eq_true (List.all_eq_true.mp bA_ok.2.2.2.2.2.2.2.2.2.2.1 j (List.mem_range.mpr h))
theorem ba_11_17 {j : Nat} (h : j < 10) : bA0 xs 11 17 j = bf_11_17 j := by rw [bA0_at (a := 0) (b := 10) (by decide +kernel)]; exact of_decide_eq_true (List.all_eq_true.mp bA_ok.2.2.2.2.2.2.2.2.2.2.2.1 j (List.mem_range.mpr h))
theorem ba_11_18 {j : Nat} (h : j < 10) : bA0 xs 11 18 j = bf_11_18 j := by rw [bA0_at (a := 1) (b := 10) (by decide +kernel)]; exact of_decide_eq_true (List.all_eq_true.mp bA_ok.2.2.2.2.2.2.2.2.2.2.2.2.1 j (List.mem_range.mpr h))
theorem ba_2_7 {j : Nat} (h : j < 2) : bA0 xs 2 7 j = bf_2_7 j := by rw [bA0_at (a := 1) (b := 2) (by decide +kernel)]; exact of_decide_eq_true (List.all_eq_true.mp bA_ok.2.2.2.2.2.2.2.2.2.2.2.2.2.1 j (List.mem_range.mpr h))
theorem ba_1_56 {j : Nat} (h : j < 2) : bA0 xs 1 56 j = bf_1_56 j := by rw [bA0_at (a := 1) (b := 2) (by decide +kernel)]; exact of_decide_eq_true (List.all_eq_true.mp bA_ok.2.2.2.2.2.2.2.2.2.2.2.2.2.2.1 j (List.mem_range.mpr h))
theorem ba_18_3 {j : Nat} (h : j < 4) : bA0 xs 18 3 j = bf_18_3 j := by rw [bA0_at (a := 0) (b := 4) (by decide +kernel)]; exact of_decide_eq_true (List.all_eq_true.mp bA_ok.2.2.2.2.2.2.2.2.2.2.2.2.2.2.2.1 j (List.mem_range.mpr h))
theorem ba_1_67 {j : Nat} (h : j < 4) : bA0 xs 1 67 j = bf_1_67 j := by rw [bA0_at (a := 0) (b := 4) (by decide +kernel)]; exact of_decide_eq_true (List.all_eq_true.mp bA_ok.2.2.2.2.2.2.2.2.2.2.2.2.2.2.2.2 j (List.mem_range.mpr h))
theorem al_0 {j : Nat} (h : j < 133) (h1 : j ≠ 24) (h2 : j ≠ 26) (h3 : j ≠ 29) (h4 : j ≠ 30) (h5 : j < 103 ∨ 113 ≤ j) : bA0 xs 1 55 j = 0 := by
  rw [ba_1_55 h]
  unfold bf_1_55
  rw [if_neg h1, if_neg h2, if_neg h3, if_neg h4, if_neg (by omega)]
theorem al_w {p : Nat} (h : p < 10) : bA0 xs 1 55 (103 + p) = 12 := by
  rw [ba_1_55 (by omega)]
  unfold bf_1_55
  rw [if_neg (by omega), if_neg (by omega), if_neg (by omega), if_neg (by omega), if_pos (by omega)]
theorem s_T : InvT (zI0 3) (bA0 xs 3) (zI0 1 2) (bA0 xs 1 2) (zI0 1 21) (zI0 1 22) := by
  have e := bI (r := 1) (k := 2) (v := 0) (by decide +kernel)
  refine ⟨(bI (r := 3) (k := 1) (v := 0) (by decide +kernel)).trans e.symm, by rw [e]; decide, fun k hk => absurd hk (by rw [e]; omega), (bI (r := 3) (k := 2) (v := 0) (by decide +kernel)).trans (bI (r := 1) (k := 21) (v := 0) (by decide +kernel)).symm, (bI (r := 3) (k := 3) (v := -1) (by decide +kernel)).trans (bI (r := 1) (k := 22) (v := -1) (by decide +kernel)).symm⟩
theorem wy_0 : bA0 xs 1 4 0 = 100 := ba_1_4 (j := 0) (by decide)
theorem wy_n {j : Nat} (h0 : 0 < j) (h : j < 8) : bA0 xs 1 4 j = 0 := by
  rw [ba_1_4 h]
  exact if_neg (by omega)
theorem s_W : InvW (zI0 2) (zI0 19) (zI0 20) (bA0 xs 19) (bA0 xs 20) (bA0 xs 1 4) (bA0 xs 1 6) (bA0 xs 1 7) (bA0 xs 1 10) := by
  have w0 := wy_0 (xs := xs)
  have w1 := wy_n (xs := xs) (j := 1) (by decide) (by decide)
  have w2 := wy_n (xs := xs) (j := 2) (by decide) (by decide)
  have w3 := wy_n (xs := xs) (j := 3) (by decide) (by decide)
  have w4 := wy_n (xs := xs) (j := 4) (by decide) (by decide)
  have w5 := wy_n (xs := xs) (j := 5) (by decide) (by decide)
  have w6 := wy_n (xs := xs) (j := 6) (by decide) (by decide)
  have w7 := wy_n (xs := xs) (j := 7) (by decide) (by decide)
  refine ⟨⟨by rw [w0]; decide, by rw [w6]; decide, by rw [w7]; decide, Or.inl w1, by rw [w5]; decide, fun r hr => absurd hr (by rw [w6]; omega), fun r hr => absurd hr (by rw [w7]; omega), fun r hr => absurd hr (by rw [w6]; omega), fun r hr => absurd hr (by rw [w7]; omega), by rw [w3]; decide⟩, Or.inl ⟨bI (r := 2) (k := 11) (v := 19) (by decide +kernel), bI (r := 2) (k := 12) (v := 20) (by decide +kernel), ?_⟩⟩
  exact ⟨(bI (r := 19) (k := 0) (v := 100) (by decide +kernel)).trans w0.symm, (bI (r := 19) (k := 1) (v := 0) (by decide +kernel)).trans w6.symm, (bI (r := 19) (k := 4) (v := 0) (by decide +kernel)).trans w7.symm, (bI (r := 19) (k := 6) (v := 0) (by decide +kernel)).trans w1.symm, (bI (r := 19) (k := 7) (v := 0) (by decide +kernel)).trans w2.symm, (bI (r := 19) (k := 8) (v := 0) (by decide +kernel)).trans w3.symm, (bI (r := 19) (k := 9) (v := 0) (by decide +kernel)).trans w4.symm, (bI (r := 19) (k := 10) (v := 0) (by decide +kernel)).trans w5.symm, fun r hr => absurd hr (by rw [w6]; omega), fun r hr => absurd hr (by rw [w7]; omega)⟩
theorem s_F : InvF (zI0 4) (bA0 xs 4) (bA0 xs 1 4 0) (bA0 xs 1 24) (bA0 xs 1 25) (bA0 xs 1 26) (zI0 1 26) := by
  have e := bI (r := 1) (k := 26) (v := 0) (by decide +kernel)
  refine ⟨fun r hr => ⟨(ba_4_1 hr).trans (ba_1_24 hr).symm, by rw [ba_1_24 hr]; exact ⟨(by decide : (0 : Int) ≤ 0), (by decide : (0 : Int) ≤ 1000)⟩, (ba_4_2 hr).trans (ba_1_25 hr).symm, Or.inl (ba_1_25 hr)⟩, (bI (r := 4) (k := 3) (v := 0) (by decide +kernel)).trans e.symm, by rw [e]; decide, fun c hc => absurd hc (by rw [e]; omega)⟩
theorem s_X : InvX 0 (zI0 2 11) (zI0 6) (bA0 xs 6) (bA0 xs 7) (bA0 xs 1 4) (bA0 xs 1 6) (zI0 1 27) (zI0 1 28) (zI0 1 29) (bA0 xs 1 31) (bA0 xs 1 32) (bA0 xs 1 33) (bA0 xs 1 34) (bA0 xs 1 35) (bA0 xs 1 36) (bA0 xs 1 37) (bA0 xs 1 39) (bA0 xs 1 40) (bA0 xs 1 41) (bA0 xs 1 42) (bA0 xs 1 43) := by
  have e1 := bI (r := 1) (k := 27) (v := 0) (by decide +kernel)
  have e2 := bI (r := 1) (k := 28) (v := 0) (by decide +kernel)
  have e3 := bI (r := 1) (k := 29) (v := -1) (by decide +kernel)
  have e4 := bI (r := 2) (k := 11) (v := 19) (by decide +kernel)
  have w3 := wy_n (xs := xs) (j := 3) (by decide) (by decide)
  have w7 := wy_n (xs := xs) (j := 7) (by decide) (by decide)
  have no : ∀ s : Nat, ¬ (s : Int) < zI0 1 27 := fun s hs => by rw [e1] at hs; omega
  refine ⟨⟨[], [], ⟨(bI (r := 6) (k := 1) (v := 0) (by decide +kernel)).trans e1.symm, (bI (r := 6) (k := 2) (v := 0) (by decide +kernel)).trans e2.symm, (bI (r := 6) (k := 3) (v := -1) (by decide +kernel)).trans e3.symm, bI (r := 6) (k := 4) (v := 0) (by decide +kernel), bI (r := 6) (k := 13) (v := 0) (by decide +kernel), (bI (r := 6) (k := 15) (v := 19) (by decide +kernel)).trans e4.symm, bI (r := 6) (k := 16) (v := 4) (by decide +kernel), fun s hs => absurd hs (no s), fun i h => absurd h (by simp), fun i h => absurd h (by simp)⟩, ?_⟩, fun e he => absurd he (by rw [w7]; omega)⟩
  exact ⟨by rw [e1]; decide, by rw [e2]; decide, Or.inl e3, fun s hs => absurd hs (no s), fun s => ⟨fun z => absurd z (by simp), fun z => absurd z.1 (no s)⟩, List.Pairwise.nil, fun s => ⟨fun z => absurd z (by simp), fun z => absurd z.1 (no s)⟩, List.Pairwise.nil, by rw [w3]; decide, fun z => absurd z (by rw [e1]; decide), fun s hs => absurd hs (no s), fun s hs => absurd hs (no s)⟩
theorem s_O : InvO (zI0 10) (bA0 xs 10) (bA0 xs 1 4 7) (bA0 xs 1 38) (bA0 xs 1 44) (bA0 xs 1 45) := by
  refine ⟨?_, fun e he => ⟨(ba_10_5 he).trans (ba_1_38 he).symm, Or.inl (ba_1_38 he)⟩⟩
  have : cnt (fun e => decide (bA0 xs 1 38 e ≠ 0)) 19 = cnt (fun _ => false) 19 := cnt_cong (fun e he => by rw [ba_1_38 he]; rfl)
  rw [this]
  exact (bI (r := 10) (k := 0) (v := 0) (by decide +kernel))
theorem s_J : JobR (zI0 11) (bA0 xs 11) (bA0 xs 1 55) := by
  have a31 : bA0 xs 1 55 31 = 0 := al_0 (by decide) (by decide) (by decide) (by decide) (by decide) (by decide)
  have a32 : bA0 xs 1 55 32 = 0 := al_0 (by decide) (by decide) (by decide) (by decide) (by decide) (by decide)
  have a24 : bA0 xs 1 55 24 = 1 := ba_1_55 (j := 24) (by decide)
  have a25 : bA0 xs 1 55 25 = 0 := al_0 (by decide) (by decide) (by decide) (by decide) (by decide) (by decide)
  have a26 : bA0 xs 1 55 26 = 30 := ba_1_55 (j := 26) (by decide)
  have a27 : bA0 xs 1 55 27 = 0 := al_0 (by decide) (by decide) (by decide) (by decide) (by decide) (by decide)
  have a28 : bA0 xs 1 55 28 = 0 := al_0 (by decide) (by decide) (by decide) (by decide) (by decide) (by decide)
  have a29 : bA0 xs 1 55 29 = 1 := ba_1_55 (j := 29) (by decide)
  have a30 : bA0 xs 1 55 30 = 1 := ba_1_55 (j := 30) (by decide)
  have no : ∀ p : Nat, ¬ (p : Int) < bA0 xs 1 55 31 := fun p hp => by rw [a31] at hp; omega
  have no2 : ∀ p : Nat, ¬ (p : Int) < bA0 xs 1 55 32 := fun p hp => by rw [a32] at hp; omega
  have t1 : ∀ t, t < 4 → bA0 xs 1 55 (16 + t) = 0 := fun t ht => al_0 (by omega) (by omega) (by omega) (by omega) (by omega) (by omega)
  have t2 : ∀ t, t < 4 → bA0 xs 1 55 (20 + t) = 0 := fun t ht => al_0 (by omega) (by omega) (by omega) (by omega) (by omega) (by omega)
  have q1 : ∀ p, p < 10 → bA0 xs 1 55 (93 + p) = 0 := fun t ht => al_0 (by omega) (by omega) (by omega) (by omega) (by omega) (by omega)
  have q3 : ∀ p, p < 10 → bA0 xs 1 55 (113 + p) = 0 := fun t ht => al_0 (by omega) (by omega) (by omega) (by omega) (by omega) (by omega)
  have q4 : ∀ p, p < 10 → bA0 xs 1 55 (123 + p) = 0 := fun t ht => al_0 (by omega) (by omega) (by omega) (by omega) (by omega) (by omega)
  refine ⟨⟨by rw [a31]; decide, fun p hp => absurd hp (no p), fun t ht => by rw [t1 t ht, t2 t ht]; decide, by rw [a24]; decide, by rw [a25]; decide, by rw [a26]; decide, by rw [a27]; decide, by rw [a28]; decide, by rw [a29]; decide, by rw [a30]; decide, by rw [a32]; decide, fun i hi => absurd hi (no2 i), fun p hp => by rw [q1 p hp, al_w hp, q3 p hp, q4 p hp]; decide⟩, ?_⟩
  refine ⟨(bI (r := 11) (k := 0) (v := 0) (by decide +kernel)).trans a31.symm, (bI (r := 11) (k := 5) (v := 1) (by decide +kernel)).trans a24.symm, (bI (r := 11) (k := 6) (v := 0) (by decide +kernel)).trans a25.symm, (bI (r := 11) (k := 7) (v := 30) (by decide +kernel)).trans a26.symm, (bI (r := 11) (k := 8) (v := 0) (by decide +kernel)).trans a27.symm, (bI (r := 11) (k := 9) (v := 0) (by decide +kernel)).trans a28.symm, (bI (r := 11) (k := 10) (v := 1) (by decide +kernel)).trans a29.symm, (bI (r := 11) (k := 11) (v := 1) (by decide +kernel)).trans a30.symm, (bI (r := 11) (k := 12) (v := 0) (by decide +kernel)).trans a32.symm, fun p hp => absurd hp (no p), fun t ht => ⟨(ba_11_4 ht).trans (t1 t ht).symm, (ba_11_5 ht).trans (t2 t ht).symm⟩, fun i hi => absurd hi (no2 i), fun p hp => ⟨(ba_11_15 hp).trans (q1 p hp).symm, Or.inl (q4 p hp), (ba_11_17 hp).trans (q3 p hp).symm, (ba_11_18 hp).trans (q4 p hp).symm⟩⟩
theorem s_I : InvI (bA0 xs 2) (zI0 12) (zI0 13) (bA0 xs 12) (bA0 xs 13) (bA0 xs 1 55) (bA0 xs 1 56) :=
  ⟨(ba_2_7 (j := 0) (by decide)).trans (ba_1_56 (j := 0) (by decide)).symm, (ba_2_7 (j := 1) (by decide)).trans (ba_1_56 (j := 1) (by decide)).symm, Or.inl (ba_1_56 (j := 0) (by decide)), Or.inl (ba_1_56 (j := 1) (by decide))⟩
theorem s_C : InvC (zI0 10) (bA0 xs 1 4) (bA0 xs 1 6) (bA0 xs 1 7) (bA0 xs 1 10) (bA0 xs 1 38) (bA0 xs 1 44) (bA0 xs 1 45) := by
  unfold InvC
  exact Or.inl (bI (r := 10) (k := 10) (v := -1) (by decide +kernel))
theorem s_P : InvP (zI0 14) (bA0 xs 14) (bA0 xs 1 55) := by
  unfold InvP
  exact Or.inl (bI (r := 14) (k := 0) (v := 0) (by decide +kernel))
theorem s_K : InvK (zI0 16) (bA0 xs 16) (bA0 xs 1 55) := by
  unfold InvK
  exact Or.inl (bI (r := 16) (k := 0) (v := 0) (by decide +kernel))
theorem s_R : InvR (zI0 17) (bA0 xs 1 55) := by
  unfold InvR
  exact Or.inl (bI (r := 17) (k := 0) (v := -1) (by decide +kernel))
theorem s_M : InvM (bA0 xs 18) (bA0 xs 1 67) (bA0 xs 1 68) (bA0 xs 1 69) := fun r hr => Or.inl ⟨ba_18_3 hr, ba_1_67 hr⟩
theorem Inv_0 : Inv 0 (zI0, bA0 xs) := by
  unfold Inv
  dsimp only
  exact ⟨s_T, s_W, s_F, s_X, s_O, s_C, s_J, s_I, s_P, s_K, s_R, s_M⟩
theorem script_0 : ((zI0, bA0 xs) : ZS).2 0 0 = xs := by
  dsimp only
  exact bA0_s
end INI
/-! what is owed of numbers alone -/
theorem zm_n {N : Nat} {I : Nat → Nat → Int} {A : ZA} : (zm N I A).2.2.2 = zb4.2.2.2 := by
  unfold zm
  dsimp only
theorem pure_law {L : Nat} {xs : Nat → Int} (hL : L ≤ 3072) : ∃ μF : ZM, zrun (zc 13) (zseg 253) 0 [zr 0 0, zu, zu, zu] [] (zmu0 L xs znames) = some (some (zi 1), μF) ∧ μF.2.2.2.2.1 ≤ 600000 ∧ μF.2.2.2.2.2 ≤ 7302250 := by
  obtain ⟨v, hv, h1⟩ := law_ok (N := L) (S := (zI0, bA0 xs)) (xs := xs) hL Inv_0 script_0
  have h := z_L_law_18 (d := 13) (N := L) (x3 := 0) (S := (zI0, bA0 xs)) (by omega) v hv
  unfold zGq at h
  rw [h1] at h
  dsimp only at h
  refine ⟨zm L v.2.1 v.2.2, ?_, ?_, ?_⟩
  · rw [zboot, zfr_zm, h]
  · rw [zm_n, zb4_n.1]
    decide
  · rw [zm_n, zb4_n.2]
    decide
