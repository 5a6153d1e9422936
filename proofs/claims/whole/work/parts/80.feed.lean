/-! twenty bytes on the tape -/
section FEED
variable {n m : Nat} {S : ZS} {x x1 x2 x3 x4 x5 : Int}
theorem lp_append (hm : S.1 3 1 = (m : Int)) (h : m ≤ 396) : F_X6_append x S = some (zup S.1 3 1 ((m + 4 : Nat) : Int), zuA S.2 3 1 (zrg m 4 (fun k => zi2b (zshr x (24 - 8 * (k : Int)))) (S.2 3 1))) := by
  unfold F_X6_append F_X6_append_3
  refine zw_for (fun i => (24 - 8 * (i : Int), (zup S.1 3 1 ((m + i : Nat) : Int), zuA S.2 3 1 (zrg m i (fun k => zi2b (zshr x (24 - 8 * (k : Int)))) (S.2 3 1))))) 4 ?_ (fun i hi => ?_) ?_
  · rw [zrg_0, zuA_same, Nat.add_zero, ← hm, zup_self]
    rfl
  · have hb := zi2b_n (x := zshr x (24 - 8 * (i : Int)))
    have hc := zand_255 (x := zshr x (24 - 8 * (i : Int)))
    have hv : -128 ≤ zi2b (zshr x (24 - 8 * (i : Int))) ∧ zi2b (zshr x (24 - 8 * (i : Int))) < 128 := by
      rw [hb]
      split <;> omega
    have f1 : zadd ((m + i : Nat) : Int) 1 = ((m + (i + 1) : Nat) : Int) := by rw [zadd_ok (by omega) (by omega)]; omega
    have f2 : zadd (24 - 8 * (i : Int)) (-8) = 24 - 8 * ((i + 1 : Nat) : Int) := by rw [zadd_ok (by omega) (by omega)]; omega
    dsimp only
    simp only [zup_s, Int.toNat_natCast]
    rw [if_neg (by omega), if_pos (by omega), if_pos (by omega), if_pos hv]
    unfold zlt
    dsimp only
    rw [zup_s, zuA_s, zuA_A, zup_up, f1, f2, zrg_s rfl]
  · dsimp only
    rw [if_pos (by omega)]
def fdx (x1 x2 x3 x4 x5 : Int) (k : Nat) : Int := if k < 4 then x1 else if k < 8 then x2 else if k < 12 then x3 else if k < 16 then x4 else x5
theorem lp_feed12 (hm : S.1 1 2 = (m : Int)) (h : m ≤ 380) : F_X12_feed_23 x1 x2 x3 x4 x5 0 S = some (((m + 20 : Nat) : Int), (zup S.1 1 2 ((m + 20 : Nat) : Int), zuA S.2 1 2 (zrg m 20 (fun k => zand (zshr (fdx x1 x2 x3 x4 x5 k) (24 - 8 * ((k % 4 : Nat) : Int))) 255) (S.2 1 2)))) := by
  unfold F_X12_feed_23
  refine zw_for (fun i => ((i : Int), (zup S.1 1 2 ((m + i : Nat) : Int), zuA S.2 1 2 (zrg m i (fun k => zand (zshr (fdx x1 x2 x3 x4 x5 k) (24 - 8 * ((k % 4 : Nat) : Int))) 255) (S.2 1 2))))) 20 ?_ (fun i hi => ?_) ?_
  · rw [zrg_0, zuA_same, Nat.add_zero, ← hm, zup_self]
    rfl
  · have f1 : zadd ((m + i : Nat) : Int) 1 = ((m + (i + 1) : Nat) : Int) := by rw [zadd_ok (by omega) (by omega)]; omega
    have f2 : zadd (i : Int) 1 = ((i + 1 : Nat) : Int) := by rw [zadd_ok (by omega) (by omega)]; rfl
    have f3 : zsub 24 (zmul 8 (zrem (i : Int) 4)) = 24 - 8 * ((i % 4 : Nat) : Int) := by
      rw [zrem_ok (by omega) (by omega) (by omega) (by omega), zmul_ok (by omega) (by omega), zsub_ok (by omega) (by omega)]
      omega
    dsimp only
    simp only [zup_s, Int.toNat_natCast, f3]
    rw [if_pos (by omega)]
    have hin : 0 ≤ ((m + i : Nat) : Int) ∧ ((m + i : Nat) : Int) < 400 := by omega
    have fin : ∀ y, fdx x1 x2 x3 x4 x5 i = y → (zlt (zup S.1 1 2 ((m + i : Nat) : Int), zuA (zuA S.2 1 2 (zrg m i (fun k => zand (zshr (fdx x1 x2 x3 x4 x5 k) (24 - 8 * ((k % 4 : Nat) : Int))) 255) (S.2 1 2))) 1 2 (zset (zuA S.2 1 2 (zrg m i (fun k => zand (zshr (fdx x1 x2 x3 x4 x5 k) (24 - 8 * ((k % 4 : Nat) : Int))) 255) (S.2 1 2)) 1 2) (m + i) (zand (zshr y (24 - 8 * ((i % 4 : Nat) : Int))) 255))) fun S7 => zlt (zup S7.1 1 2 (zadd (S7.1 1 2) 1), S7.2) fun S8 => (some (.inl (zadd (i : Int) 1, S8)) : Option ((Int × ZS) ⊕ (Int × ZS)))) = some (.inl (((i + 1 : Nat) : Int), (zup S.1 1 2 ((m + (i + 1) : Nat) : Int), zuA S.2 1 2 (zrg m (i + 1) (fun k => zand (zshr (fdx x1 x2 x3 x4 x5 k) (24 - 8 * ((k % 4 : Nat) : Int))) 255) (S.2 1 2))))) := by
      intro y hy
      unfold zlt
      dsimp only
      rw [zup_s, zuA_s, zuA_A, zup_up, f1, f2, zrg_s (by rw [hy])]
    by_cases c1 : i < 4
    · rw [if_pos (by omega), if_pos hin]
      exact fin x1 (if_pos c1)
    · rw [if_neg (by omega)]
      by_cases c2 : i < 8
      · rw [if_pos (by omega), if_pos hin]
        exact fin x2 (by unfold fdx; rw [if_neg c1, if_pos c2])
      · rw [if_neg (by omega)]
        by_cases c3 : i < 12
        · rw [if_pos (by omega), if_pos hin]
          exact fin x3 (by unfold fdx; rw [if_neg c1, if_neg c2, if_pos c3])
        · rw [if_neg (by omega)]
          by_cases c4 : i < 16
          · rw [if_pos (by omega), if_pos hin]
            exact fin x4 (by unfold fdx; rw [if_neg c1, if_neg c2, if_neg c3, if_pos c4])
          · rw [if_neg (by omega), if_pos hin]
            exact fin x5 (by unfold fdx; rw [if_neg c1, if_neg c2, if_neg c3, if_neg c4])
  · dsimp only
    rw [if_neg (by omega), zup_s]
theorem T_feed {I3 I3' : Nat → Int} {A3 A3' : Nat → Nat → Int} {tape tape' : Nat → Int} {fk fp taped' : Int} (H : InvT I3 A3 (m : Int) tape fk fp) (hm : m ≤ 380) (h1 : I3' 1 = ((m + 20 : Nat) : Int)) (h2 : I3' 2 = I3 2) (h3 : I3' 3 = I3 3) (ht : taped' = ((m + 20 : Nat) : Int))
    (hA : A3' 1 = zrg (m + 16) 4 (fun k => zi2b (zshr x5 (24 - 8 * (k : Int)))) (zrg (m + 12) 4 (fun k => zi2b (zshr x4 (24 - 8 * (k : Int)))) (zrg (m + 8) 4 (fun k => zi2b (zshr x3 (24 - 8 * (k : Int)))) (zrg (m + 4) 4 (fun k => zi2b (zshr x2 (24 - 8 * (k : Int)))) (zrg m 4 (fun k => zi2b (zshr x1 (24 - 8 * (k : Int)))) (A3 1))))))
    (hT : tape' = zrg m 20 (fun k => zand (zshr (fdx x1 x2 x3 x4 x5 k) (24 - 8 * ((k % 4 : Nat) : Int))) 255) tape) : InvT I3' A3' taped' tape' fk fp := by
  obtain ⟨a1, a2, a3, a4, a5⟩ := H
  subst ht
  refine ⟨h1, by omega, fun k hk => ?_, h2.trans a4, h3.trans a5⟩
  rw [hA, hT]
  by_cases c : k < m
  · rw [zrg_out (by omega), zrg_out (by omega), zrg_out (by omega), zrg_out (by omega), zrg_out (by omega), zrg_out (by omega)]
    exact a3 k (by omega)
  · obtain ⟨i, rfl⟩ : ∃ i, k = m + i := ⟨k - m, by omega⟩
    have hi : i < 20 := by omega
    rw [zrg_in hi]
    have key : ∀ (y : Int) (j : Nat), fdx x1 x2 x3 x4 x5 i = y → i % 4 = j → 0 ≤ zand (zshr (fdx x1 x2 x3 x4 x5 i) (24 - 8 * ((i % 4 : Nat) : Int))) 255 ∧ zand (zshr (fdx x1 x2 x3 x4 x5 i) (24 - 8 * ((i % 4 : Nat) : Int))) 255 < 256 ∧
        zi2b (zshr y (24 - 8 * (j : Int))) = if zand (zshr (fdx x1 x2 x3 x4 x5 i) (24 - 8 * ((i % 4 : Nat) : Int))) 255 < 128 then zand (zshr (fdx x1 x2 x3 x4 x5 i) (24 - 8 * ((i % 4 : Nat) : Int))) 255 else zand (zshr (fdx x1 x2 x3 x4 x5 i) (24 - 8 * ((i % 4 : Nat) : Int))) 255 - 256 := by
      intro y j hy hj
      rw [hy, hj]
      exact ⟨zand_255.1, zand_255.2, zi2b_n⟩
    by_cases c1 : i < 4
    · rw [zrg_out (by omega), zrg_out (by omega), zrg_out (by omega), zrg_out (by omega), zrg_in c1]
      exact key x1 i (if_pos c1) (by omega)
    · by_cases c2 : i < 8
      · rw [zrg_out (by omega), zrg_out (by omega), zrg_out (by omega), show m + i = m + 4 + (i - 4) by omega, zrg_in (show i - 4 < 4 by omega)]
        exact key x2 (i - 4) (by unfold fdx; rw [if_neg c1, if_pos c2]) (by omega)
      · by_cases c3 : i < 12
        · rw [zrg_out (by omega), zrg_out (by omega), show m + i = m + 8 + (i - 8) by omega, zrg_in (show i - 8 < 4 by omega)]
          exact key x3 (i - 8) (by unfold fdx; rw [if_neg c1, if_neg c2, if_pos c3]) (by omega)
        · by_cases c4 : i < 16
          · rw [zrg_out (by omega), show m + i = m + 12 + (i - 12) by omega, zrg_in (show i - 12 < 4 by omega)]
            exact key x4 (i - 12) (by unfold fdx; rw [if_neg c1, if_neg c2, if_neg c3, if_pos c4]) (by omega)
          · rw [show m + i = m + 16 + (i - 16) by omega, zrg_in (show i - 16 < 4 by omega)]
            exact key x5 (i - 16) (by unfold fdx; rw [if_neg c1, if_neg c2, if_neg c3, if_neg c4]) (by omega)
theorem pair_feed (h : Inv n S) : Pair n S (F_X11_feed x1 x2 x3 x4 x5) (F_X12_feed x1 x2 x3 x4 x5) := by
  obtain ⟨hT, hW, hF, hX, hO, hC, hJ, hI, hP, hK, hR, hM⟩ := h
  have hX := InvX_up hX
  obtain ⟨a1, a2, a3, a4, a5⟩ := id hT
  obtain ⟨m, hm⟩ : ∃ m : Nat, S.1 1 2 = (m : Int) := ⟨_, (Int.toNat_of_nonneg a2.1).symm⟩
  have f0 : zadd (m : Int) 20 = (m : Int) + 20 := zadd_ok (by omega) (by omega)
  unfold Pair F_X11_feed F_X6_hasRoomForFive
  refine zp_bind.mpr (zp_if (fun c => zp_some.mpr (zp_pos rfl (zp_some.mpr ?_))) (fun c => zp_some.mpr (zp_neg (by decide) ?_)))
  · refine ⟨rfl, ?_⟩
    unfold F_X12_feed
    refine zp_lt.mpr ?_
    (try dsimp only)
    simp only [zup_k (show (2 : Nat) ≠ 0 by decide), hm, f0]
    exact zp_pos (by omega) (zp_some.mpr ⟨rfl, rfl, hT, hW, hF, hX, hO, hC, hJ, hI, hP, hK, hR, hM⟩)
  · have b1 := lp_append (S := S) (x := x1) (m := m) (by rw [a1, hm]) (by omega)
    rw [zp_bind, zp_eq b1]
    have b2 := fun (I : Nat → Nat → Int) (A : ZA) => lp_append (S := (zup I 3 1 ((m + 4 : Nat) : Int), A)) (x := x2) (m := m + 4) (by dsimp only; rw [zup_s]) (by omega)
    rw [zp_bind, zp_eq (b2 _ _)]
    have b3 := fun (I : Nat → Nat → Int) (A : ZA) => lp_append (S := (zup I 3 1 ((m + 4 + 4 : Nat) : Int), A)) (x := x3) (m := m + 8) (by dsimp only; rw [zup_s]) (by omega)
    rw [zp_bind, zp_eq (b3 _ _)]
    have b4 := fun (I : Nat → Nat → Int) (A : ZA) => lp_append (S := (zup I 3 1 ((m + 8 + 4 : Nat) : Int), A)) (x := x4) (m := m + 12) (by dsimp only; rw [zup_s]) (by omega)
    rw [zp_bind, zp_eq (b4 _ _)]
    have b5 := fun (I : Nat → Nat → Int) (A : ZA) => lp_append (S := (zup I 3 1 ((m + 12 + 4 : Nat) : Int), A)) (x := x5) (m := m + 16) (by dsimp only; rw [zup_s]) (by omega)
    rw [zp_bind, zp_eq (b5 _ _)]
    dsimp only
    rw [zup_up, zup_up, zup_up, zup_up, zup_s, zuA_s, zuA_A, zuA_s, zuA_A, zuA_s, zuA_A, zuA_s, zuA_A]
    refine zp_some.mpr ⟨rfl, ?_⟩
    unfold F_X12_feed
    refine zp_lt.mpr ?_
    dsimp only
    have k2 : zup (zup S.1 3 1 ((m + 16 + 4 : Nat) : Int)) 1 0 0 1 2 = (m : Int) := by rw [zup_k (by decide), zup_r (by decide)]; exact hm
    simp only [k2, f0]
    have b6 := fun (A : ZA) => lp_feed12 (S := (zup (zup S.1 3 1 ((m + 16 + 4 : Nat) : Int)) 1 0 0, A)) (x1 := x1) (x2 := x2) (x3 := x3) (x4 := x4) (x5 := x5) (m := m) k2 (by omega)
    refine zp_neg (by omega) ?_
    rw [zp_eq (b6 _)]
    rw [hm] at hT
    refine ⟨rfl, rfl, ?_, hW, hF, hX, hO, hC, hJ, hI, hP, hK, hR, hM⟩
    exact T_feed (m := m) (x1 := x1) (x2 := x2) (x3 := x3) (x4 := x4) (x5 := x5) hT (by omega) rfl rfl rfl rfl rfl rfl
end FEED
