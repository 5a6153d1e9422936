/-! the rest of the lines; line by line -/
section LINET
variable {S R S' R' : ZS} {b : Nat → Int} {n j q : Nat}
theorem RFr_19 (h : RFr R R') : R'.1 1 19 = R.1 1 19 := h.2.2 19 (by decide) (by decide) (by decide) (by decide) (by decide) (by decide)
theorem RFr_20 (h : RFr R R') : R'.1 1 20 = R.1 1 20 := h.2.2 20 (by decide) (by decide) (by decide) (by decide) (by decide) (by decide)
theorem lp_line13 (hq : q = 19 ∨ q = 20) (hA : AtA S R b n j) (hw : R.1 1 16 = 0) (hk : tkd b n (tat b n j) = 8) (hT : Told S R q) : zq (F_X6_readDamp q S) (F_X12_readsDamp R) (LnQ S R q b n j) := by
  obtain ⟨t1, t2, t3⟩ := id hT
  obtain ⟨o1, o2, o3, o4, o5⟩ := t1 hw
  have hq3 : q ≠ 3 := by omega
  unfold F_X6_readDamp F_X12_readsDamp
  by_cases c : S.1 q 11 = 0
  rotate_left 1
  · rw [if_neg c, if_neg (by omega)]
    obtain ⟨S', R', s1, s2, s3, s4, s5, s6⟩ := lp_fault (f := 4) hA hw (by omega)
    have s1' : F_X6_blame 4 S = some S' := s1
    have s2' : F_X12_fails 4 R = some R' := s2
    rw [s1', s2', Option.bind_some, Option.bind_some]
    unfold F_X12_readsDamp_12
    rw [if_neg s5]
    exact zq_some (LnQ_fault hq3 hT s3 s4 s5 s6)
  · rw [if_pos c, if_pos (by omega)]
    unfold F_X12_readsDamp_12
    obtain ⟨R2, r1, r2, r3, r4⟩ := AtA_next hA hw (by omega)
    rw [if_pos hw, r1, Option.bind_some]
    have e5 : R2.2 = R.2 := r2.1
    unfold zlt
    dsimp only
    have hB : AtB S (zup R2.1 1 20 1, R2.2) b n j := AtB_up r4 rfl rfl (fun c _ _ => zup_k (by omega)) rfl
    refine zq_bind (lp_readN (lo := 0) (hi := 90) hB) fun v u hp => ?_
    obtain ⟨p1, p2, p3, p4⟩ := hp
    have v1 : ∀ k, v.2.1 q k = S.1 q k := fun k => by rw [p1.2.1 q hq3]
    have u5 : u.2.2 = R.2 := p2.1.trans e5
    refine zq_some ⟨⟨fun r h3 hr => by dsimp only; rw [zup_R hr, zup_R hr]; exact p1.2.1 r h3, fun r hr => by dsimp only; rw [p1.1], fun c h1 h2 h3 => by dsimp only; rw [zup_r (fun z => hq3 z.symm), zup_r (fun z => hq3 z.symm)]; exact p1.2.2 c h1 h2 h3⟩,
      ⟨fun r hr => ?_, fun r hr => ?_, fun c hc => ?_, fun o h1 h2 h3 h4 => ?_⟩, ⟨fun hw2 => ?_, ?_, ?_⟩, j + 1, by omega, AtB_up p3 ?_ rfl (fun c _ _ => rfl) ?_⟩
    · dsimp only; rw [p2.2.1 r hr]; dsimp only; rw [zup_R hr, r2.2.1 r hr]
    · dsimp only; rw [zuA_R hr, u5]
    · dsimp only; rw [p2.2.2 c (by omega) (by omega) (by omega) (by omega) (by omega) (by omega)]; dsimp only; rw [zup_k (by omega), r2.2.2 c (by omega) (by omega) (by omega) (by omega) (by omega) (by omega)]
    · dsimp only; rw [zuA_o h1, u5]
    · obtain ⟨x1, x2, x3⟩ := p4 hw2
      have g4 := o1.2.2.2.1
      have hWW := WO_cells (wy' := zset (R.2 1 5) 5 u.1) (Iw' := fun k => if k = 11 then 1 else if k = 10 then v.1 else S.1 q k) o1 o2 (Or.inl (zset_n (by decide))) (zset_n (by decide)) (zset_n (by decide)) (by rw [zset_n (by decide), zset_n (by decide), zset_n (by decide), zset_n (by decide), zset_n (by decide)]; exact g4) (by rw [zset_s]; omega) (by rw [zset_n (by decide)]; exact o1.2.2.2.2.2.2.2.2.2)
        (by rw [zset_n (by decide)]; exact o2.1) rfl rfl (by rw [zset_n (by decide)]; exact o2.2.2.2.1) (by rw [zset_n (by decide)]; exact o2.2.2.2.2.1) (by rw [zset_n (by decide)]; exact o2.2.2.2.2.2.1) (by rw [zset_n (by decide)]; exact o2.2.2.2.2.2.2.1) (by rw [zset_s]; exact x1)
      have eI : zup (zup v.2.1 q 10 v.1) q 11 1 q = fun k => if k = 11 then 1 else if k = 10 then v.1 else S.1 q k := by
        funext k
        simp only [zup_ap, true_and, v1]
      have eA : v.2.2 q = S.2 q := by rw [p1.1]
      have z1 : u.2.1 1 19 = R.1 1 19 := by rw [RFr_19 p2]; dsimp only; rw [zup_k (by decide), RFr_19 r2]
      have z2 : u.2.1 1 20 = 1 := by rw [RFr_20 p2]; dsimp only; rw [zup_s]
      dsimp only
      simp only [eI, eA, u5, zuA_s, zuA_o (show (8 : Nat) ≠ 5 by decide), zuA_o (show (9 : Nat) ≠ 5 by decide), zuA_o (show (11 : Nat) ≠ 5 by decide), zset_n (show (1 : Nat) ≠ 5 by decide), z1, z2]
      exact ⟨hWW.1, hWW.2, o3, rfl, Or.inr rfl⟩
    · dsimp only; rw [zup_k (by decide), zup_k (by decide), v1]; exact t2
    · dsimp only; rw [zup_k (by decide), zup_k (by decide), v1]; exact t3
    · dsimp only; rw [zup_R (fun z => hq3 z.symm), zup_R (fun z => hq3 z.symm)]
    · dsimp only; rw [zuA_o (by decide)]
theorem lp_line9 (hq : q = 19 ∨ q = 20) (hA : AtA S R b n j) (hw : R.1 1 16 = 0) (hk : tkd b n (tat b n j) = 4) (hT : Told S R q) : zq (F_X6_readTurn q S) (F_X12_readsTurn R) (LnQ S R q b n j) := by
  obtain ⟨t1, t2, t3⟩ := id hT
  obtain ⟨o1, o2, o3, o4, o5⟩ := t1 hw
  have hq3 : q ≠ 3 := by omega
  have w3 : S.1 q 6 = R.2 1 5 1 := o2.2.2.2.1
  have w0 : S.1 q 0 = R.2 1 5 0 := o2.1
  have g1 := o1.1
  unfold F_X6_readTurn F_X12_readsTurn
  by_cases c : S.1 q 6 = 0
  rotate_left 1
  · rw [if_neg (show ¬ R.2 1 5 1 = 0 by omega)] at o3
    rw [if_neg c, if_neg (by omega)]
    obtain ⟨S', R', s1, s2, s3, s4, s5, s6⟩ := lp_fault (f := 4) hA hw (by omega)
    have s1' : F_X6_blame 4 S = some S' := s1
    have s2' : F_X12_fails 4 R = some R' := s2
    rw [s1', s2', Option.bind_some, Option.bind_some]
    unfold F_X12_readsTurn_12
    rw [if_neg s5]
    exact zq_some (LnQ_fault hq3 hT s3 s4 s5 s6)
  · rw [if_pos (show R.2 1 5 1 = 0 by omega)] at o3
    rw [if_pos c, if_pos o3]
    unfold F_X12_readsTurn_12
    obtain ⟨R2, r1, r2, r3, r4⟩ := AtA_next hA hw (by omega)
    rw [if_pos hw, r1, Option.bind_some]
    have e5 : R2.2 = R.2 := r2.1
    unfold zlt
    dsimp only
    have hB : AtB S (zup R2.1 1 19 1, R2.2) b n j := AtB_up r4 rfl rfl (fun c _ _ => zup_k (by omega)) rfl
    rw [e5, w0]
    rw [e5] at hB
    -- the turn
    refine zq_bind (lp_readN (lo := 2) (hi := zsub (R.2 1 5 0) 1) hB) fun va ua hpa => ?_
    obtain ⟨pa1, pa2, pa3, pa4⟩ := hpa
    have hB1 : AtB (zup va.2.1 q 6 va.1, va.2.2) (ua.2.1, zuA ua.2.2 1 5 (zset (ua.2.2 1 5) 1 ua.1)) b n (j + 1) := AtB_up pa3 (by dsimp only; rw [zup_R (fun z => hq3 z.symm)]) rfl (fun c _ _ => rfl) (by dsimp only; rw [zuA_o (by decide)])
    refine zq_bind (lp_wantG (kr := 5) (kc := 10) hB1 (by omega) rfl) fun Sb Rb hpb => ?_
    obtain ⟨pb1, pb2, pb3, pb4⟩ := hpb
    have sb6 : Sb.1 q 6 = va.1 := by rw [pb1.2.1 q hq3]; dsimp only; rw [zup_s]
    have rb1 : Rb.2 1 5 1 = ua.1 := by rw [pb2.1]; dsimp only; rw [zuA_s, zset_s]
    have hab : Rb.1 1 16 = 0 → ua.2.1 1 16 = 0 := fun z => Decidable.byContradiction fun y => pb4 y z
    refine zq_bind (lp_readG (lo := 1) (hi := zsub (Sb.1 q 6) 1) (lo' := 1) (hi' := zsub (Rb.2 1 5 1) 1) pb3 (fun z => ⟨rfl, by rw [sb6, rb1, (pa4 (hab z)).1]⟩)) fun vc uc hpc => ?_
    obtain ⟨pc1, pc2, pc3, pc4, pc5⟩ := hpc
    -- back
    have hB2 : AtB (zup vc.2.1 q 7 vc.1, vc.2.2) (uc.2.1, zuA uc.2.2 1 5 (zset (uc.2.2 1 5) 2 uc.1)) b n (j + 1 + 1 + 1) := AtB_up pc3 (by dsimp only; rw [zup_R (fun z => hq3 z.symm)]) rfl (fun c _ _ => rfl) (by dsimp only; rw [zuA_o (by decide)])
    refine zq_bind (lp_wantG (kr := 6) (kc := 11) hB2 (by omega) rfl) fun Sd Rd hpd => ?_
    obtain ⟨pd1, pd2, pd3, pd4⟩ := hpd
    refine zq_bind (lp_readG (lo := 1) (hi := 3) (lo' := 1) (hi' := 3) pd3 (fun z => ⟨rfl, rfl⟩)) fun ve ue hpe => ?_
    obtain ⟨pe1, pe2, pe3, pe4, pe5⟩ := hpe
    have hB3 : AtB (zup ve.2.1 q 8 ve.1, ve.2.2) (ue.2.1, zuA ue.2.2 1 5 (zset (ue.2.2 1 5) 3 ue.1)) b n (j + 1 + 1 + 1 + 1 + 1) := AtB_up pe3 (by dsimp only; rw [zup_R (fun z => hq3 z.symm)]) rfl (fun c _ _ => rfl) (by dsimp only; rw [zuA_o (by decide)])
    refine zq_bind (lp_wantG (kr := 7) (kc := 12) hB3 (by omega) rfl) fun Sf Rf hpf => ?_
    obtain ⟨pf1, pf2, pf3, pf4⟩ := hpf
    refine zq_bind (lp_readG (lo := 1) (hi := 20) (lo' := 1) (hi' := 20) pf3 (fun z => ⟨rfl, rfl⟩)) fun vg ug hpg => ?_
    obtain ⟨pg1, pg2, pg3, pg4, pg5⟩ := hpg
    -- what the cells are
    have uA : ug.2.2 = zuA (zuA (zuA R.2 1 5 (zset (R.2 1 5) 1 ua.1)) 1 5 (zset (zset (R.2 1 5) 1 ua.1) 2 uc.1)) 1 5 (zset (zset (zset (R.2 1 5) 1 ua.1) 2 uc.1) 3 ue.1) := by
      have h1 : ua.2.2 = R.2 := pa2.1
      have h2 : uc.2.2 = zuA R.2 1 5 (zset (R.2 1 5) 1 ua.1) := by rw [pc2.1, pb2.1]; dsimp only; rw [h1]
      have h3 : ue.2.2 = zuA (zuA R.2 1 5 (zset (R.2 1 5) 1 ua.1)) 1 5 (zset (zset (R.2 1 5) 1 ua.1) 2 uc.1) := by rw [pe2.1, pd2.1]; dsimp only; rw [h2, zuA_s]
      rw [pg2.1, pf2.1]
      dsimp only
      rw [h3, zuA_s]
    have vA : vg.2.2 = S.2 := by
      rw [pg1.1, pf1.1]; dsimp only; rw [pe1.1, pd1.1]; dsimp only; rw [pc1.1, pb1.1]; dsimp only; rw [pa1.1]
    have vI : ∀ k, vg.2.1 q k = if k = 8 then ve.1 else if k = 7 then vc.1 else if k = 6 then va.1 else S.1 q k := by
      intro k
      rw [pg1.2.1 q hq3, pf1.2.1 q hq3]; dsimp only
      rw [zup_ap, pe1.2.1 q hq3, pd1.2.1 q hq3]; dsimp only
      rw [zup_ap, pc1.2.1 q hq3, pb1.2.1 q hq3]; dsimp only
      rw [zup_ap, pa1.2.1 q hq3]
      simp only [true_and]
    have vR : ∀ r, r ≠ 3 → r ≠ q → vg.2.1 r = S.1 r := by
      intro r h3 hr
      rw [pg1.2.1 r h3, pf1.2.1 r h3]; dsimp only
      rw [zup_R hr, pe1.2.1 r h3, pd1.2.1 r h3]; dsimp only
      rw [zup_R hr, pc1.2.1 r h3, pb1.2.1 r h3]; dsimp only
      rw [zup_R hr, pa1.2.1 r h3]
    have v3 : ∀ c, c ≠ 2 → c ≠ 3 → c ≠ 8 → vg.2.1 3 c = S.1 3 c := by
      intro c h1 h2 h3
      rw [pg1.2.2 c h1 h2 h3, pf1.2.2 c h1 h2 h3]; dsimp only
      rw [zup_r (fun z => hq3 z.symm), pe1.2.2 c h1 h2 h3, pd1.2.2 c h1 h2 h3]; dsimp only
      rw [zup_r (fun z => hq3 z.symm), pc1.2.2 c h1 h2 h3, pb1.2.2 c h1 h2 h3]; dsimp only
      rw [zup_r (fun z => hq3 z.symm), pa1.2.2 c h1 h2 h3]
    have uR : ∀ r, r ≠ 1 → ug.2.1 r = R.1 r := by
      intro r hr
      rw [pg2.2.1 r hr, pf2.2.1 r hr]; dsimp only
      rw [pe2.2.1 r hr, pd2.2.1 r hr]; dsimp only
      rw [pc2.2.1 r hr, pb2.2.1 r hr]; dsimp only
      rw [pa2.2.1 r hr]; dsimp only
      rw [zup_R hr, r2.2.1 r hr]
    have uI : ∀ c, c < 11 ∨ c = 13 ∨ 17 < c → ug.2.1 1 c = if c = 19 then 1 else R.1 1 c := by
      intro c hc
      rw [pg2.2.2 c (by omega) (by omega) (by omega) (by omega) (by omega) (by omega), pf2.2.2 c (by omega) (by omega) (by omega) (by omega) (by omega) (by omega)]; dsimp only
      rw [pe2.2.2 c (by omega) (by omega) (by omega) (by omega) (by omega) (by omega), pd2.2.2 c (by omega) (by omega) (by omega) (by omega) (by omega) (by omega)]; dsimp only
      rw [pc2.2.2 c (by omega) (by omega) (by omega) (by omega) (by omega) (by omega), pb2.2.2 c (by omega) (by omega) (by omega) (by omega) (by omega) (by omega)]; dsimp only
      rw [pa2.2.2 c (by omega) (by omega) (by omega) (by omega) (by omega) (by omega)]; dsimp only
      rw [zup_ap, r2.2.2 c (by omega) (by omega) (by omega) (by omega) (by omega) (by omega)]
      simp only [true_and]
    refine zq_some ⟨⟨fun r h3 hr => by dsimp only; rw [zup_R hr]; exact vR r h3 hr, fun r hr => by dsimp only; rw [vA], fun c h1 h2 h3 => by dsimp only; rw [zup_r (fun z => hq3 z.symm)]; exact v3 c h1 h2 h3⟩,
      ⟨fun r hr => by dsimp only; exact uR r hr, fun r hr => ?_, fun c hc => ?_, fun o h1 h2 h3 h4 => ?_⟩, ⟨fun hw2 => ?_, ?_, ?_⟩, j + 1 + 1 + 1 + 1 + 1 + 1 + 1, by omega, AtB_up pg3 ?_ rfl (fun c _ _ => rfl) ?_⟩
    · dsimp only; rw [zuA_R hr, uA, zuA_R hr, zuA_R hr, zuA_R hr]
    · dsimp only; rw [uI c (by omega), if_neg (by omega)]
    · dsimp only; rw [zuA_o h1, uA, zuA_o h1, zuA_o h1, zuA_o h1]
    · have hwf : Rf.1 1 16 = 0 := Decidable.byContradiction fun y => pg4 y hw2
      have hwe : ue.2.1 1 16 = 0 := Decidable.byContradiction fun y => pf4 y hwf
      have hwd : Rd.1 1 16 = 0 := Decidable.byContradiction fun y => pe4 y hwe
      have hwc : uc.2.1 1 16 = 0 := Decidable.byContradiction fun y => pd4 y hwd
      have hwb : Rb.1 1 16 = 0 := Decidable.byContradiction fun y => pc4 y hwc
      obtain ⟨xa1, xa2, xa3⟩ := pa4 (hab hwb)
      obtain ⟨xc1, xc2, xc3⟩ := pc5 hwc
      obtain ⟨xe1, xe2, xe3⟩ := pe5 hwe
      obtain ⟨xg1, xg2, xg3⟩ := pg5 hw2
      rw [zsub_ok (by omega) (by omega)] at xa3
      rw [sb6, zsub_ok (by omega) (by omega)] at xc3
      have hWW := WO_cells (wy' := zset (zset (zset (zset (R.2 1 5) 1 ua.1) 2 uc.1) 3 ue.1) 4 ug.1) (Iw' := fun k => if k = 9 then vg.1 else if k = 8 then ve.1 else if k = 7 then vc.1 else if k = 6 then va.1 else S.1 q k) o1 o2 (Or.inl rfl) rfl rfl
        (Or.inr (by show 2 ≤ ua.1 ∧ ua.1 ≤ R.2 1 5 0 - 1 ∧ 1 ≤ uc.1 ∧ uc.1 ≤ ua.1 - 1 ∧ 1 ≤ ue.1 ∧ ue.1 ≤ 3 ∧ 1 ≤ ug.1 ∧ ug.1 ≤ 20; omega)) o1.2.2.2.2.1 (by show 0 ≤ ue.1; omega) o2.1 rfl rfl xa1 xc1 xe1 xg1 o2.2.2.2.2.2.2.2.1
      have eI : zup vg.2.1 q 9 vg.1 q = fun k => if k = 9 then vg.1 else if k = 8 then ve.1 else if k = 7 then vc.1 else if k = 6 then va.1 else S.1 q k := by
        funext k
        rw [zup_ap, vI]
        simp only [true_and]
      have e1 : ua.1 ≠ 0 := by omega
      have z1 : zset (zset (zset (zset (R.2 1 5) 1 ua.1) 2 uc.1) 3 ue.1) 4 ug.1 1 = ua.1 := rfl
      dsimp only
      rw [uI 19 (by omega), uI 20 (by omega)]
      simp only [eI, uA, vA, zuA_s, zuA_o (show (8 : Nat) ≠ 5 by decide), zuA_o (show (9 : Nat) ≠ 5 by decide), zuA_o (show (11 : Nat) ≠ 5 by decide), z1, if_neg e1, Nat.reduceEqDiff, reduceIte]
      exact ⟨hWW.1, hWW.2, by trivial, o4, o5⟩
    · dsimp only; rw [zup_k (by decide), vI]; exact t2
    · dsimp only; rw [zup_k (by decide), vI]; exact t3
    · dsimp only; rw [zup_R (fun z => hq3 z.symm)]
    · dsimp only; rw [zuA_o (by decide)]
def RLg (R R' : ZS) : Prop := (∀ r, r ≠ 1 → R'.1 r = R.1 r) ∧ (∀ r, r ≠ 1 → R'.2 r = R.2 r) ∧ (∀ c, c < 11 ∨ c = 13 ∨ 20 < c → R'.1 1 c = R.1 1 c) ∧ ∀ o, o ≠ 5 → o ≠ 8 → o ≠ 9 → o ≠ 11 → R'.2 1 o = R.2 1 o
theorem RLg_t {S1 S2 S3 : ZS} (h : RLg S1 S2) (h2 : RLg S2 S3) : RLg S1 S3 := ⟨fun r a => (h2.1 r a).trans (h.1 r a), fun r a => (h2.2.1 r a).trans (h.2.1 r a), fun c a => (h2.2.2.1 c a).trans (h.2.2.1 c a), fun o a1 a2 a3 a4 => (h2.2.2.2 o a1 a2 a3 a4).trans (h.2.2.2 o a1 a2 a3 a4)⟩
theorem RLg_of (h : RLf R R') : RLg R R' := ⟨h.1, h.2.1, fun c hc => h.2.2.1 c (by omega), h.2.2.2⟩
theorem Told_fr (hq : q ≠ 3) (hT : Told S R q) (h1 : SFr S S') (h2 : RFr R R') (h3 : R.1 1 16 ≠ 0 → R'.1 1 16 ≠ 0) : Told S' R' q := by
  obtain ⟨t1, t2, t3⟩ := hT
  refine ⟨fun z => ?_, by rw [h1.2.1 q hq]; exact t2, by rw [h1.2.1 q hq]; exact t3⟩
  have := t1 (Decidable.byContradiction fun y => h3 y z)
  rw [h1.1, h1.2.1 q hq, h2.1, RFr_19 h2, RFr_20 h2]
  exact this
/-- a line of both -/
def LineQ (S R : ZS) (q : Nat) (b : Nat → Int) (n j L : Nat) (S' : ZS) (r : ZS ⊕ (Int × ZS)) : Prop := ∃ R', r = .inl R' ∧ SLf q S S' ∧ RLg R R' ∧ Told S' R' q ∧ R'.1 1 18 = ((L + 1 : Nat) : Int) ∧ ∃ j', j < j' ∧ AtA S' R' b n j'
theorem lp_eolL {L : Nat} {S0 R0 : ZS} (hq : q = 19 ∨ q = 20) (h : LnQ S0 R0 q b n j S R) (hL : R0.1 1 18 = (L : Int)) (hL5 : L ≤ 500) : zq ((F_X6_want 3 S).bind fun S2 => (F_X6_goOn S2).bind fun S3 => some S3) (F_X12_text_180 R) (LineQ S0 R0 q b n j L) := by
  obtain ⟨h1, h2, h3, j', h4, h5⟩ := h
  have hq3 : q ≠ 3 := by omega
  have hfl : zq ((F_X6_want 3 S).bind fun S2 => (F_X6_goOn S2).bind fun S3 => some S3) (F_X12_needs 11 R) (fun S' R' => SFr S S' ∧ RFr R R' ∧ AtA S' R' b n (j' + 2) ∧ (R.1 1 16 ≠ 0 → R'.1 1 16 ≠ 0)) := by
    by_cases hw : R.1 1 16 = 0
    · exact zq_mono (lp_eol h5) fun S' R' hp => ⟨hp.1, hp.2.1, hp.2.2, fun z => absurd hw z⟩
    · obtain ⟨S', R', a1, a2, a3, a4, a5, a6⟩ := lp_wantG (kr := 11) (kc := 3) h5 (by omega) rfl
      have hg := lp_goOn a5.1
      have hw3 : S'.1 3 2 ≠ 0 := by rw [a5.1.2.2.1.1]; exact a6 hw
      rw [if_neg (fun z => hw3 z.1)] at hg
      refine ⟨S', R', ?_, a2, a3, a4, ⟨a5.1, fun z => absurd z (a6 hw)⟩, a6⟩
      show (F_X6_want ((3 : Nat) : Int) S).bind _ = _
      rw [a1, Option.bind_some, hg, Option.bind_some]
  unfold F_X12_text_180
  refine zq_bindr hfl fun S' R' hp => ?_
  obtain ⟨p1, p2, p3, p4⟩ := hp
  have c18 : R'.1 1 18 = (L : Int) := by rw [p2.2.2 18 (by decide) (by decide) (by decide) (by decide) (by decide) (by decide), h2.2.2.1 18 (by omega)]; exact hL
  unfold zlt
  rw [c18, zadd_ok (by omega) (by omega)]
  refine zq_some ⟨_, rfl, SLf_t h1 (SLf_of p1), ?_, ?_, by dsimp only; rw [zup_s]; rfl, j' + 2, by omega, ?_⟩
  · have := RLf_t h2 (RLf_of p2)
    exact ⟨fun r hr => by dsimp only; rw [zup_R hr]; exact this.1 r hr, this.2.1, fun c hc => by dsimp only; rw [zup_k (by omega)]; exact this.2.2.1 c (by omega), this.2.2.2⟩
  · have := Told_fr hq3 h3 p1 p2 p4
    obtain ⟨t1, t2, t3⟩ := this
    refine ⟨fun z => ?_, t2, t3⟩
    dsimp only at z ⊢
    rw [zup_k (by decide)] at z ⊢
    rw [zup_k (show 20 ≠ 18 by decide)]
    exact t1 z
  · refine ⟨RdC_up p3.1 rfl rfl (fun c _ _ => zup_k (by omega)) rfl, fun z => ?_⟩
    dsimp only at z
    rw [zup_k (by decide)] at z
    obtain ⟨a, c, d⟩ := p3.2 z
    exact ⟨a, c, TkS_up d (fun c _ _ => zup_k (by omega))⟩
theorem lp_is {k : Nat} {kd : Nat} (hw : R.1 1 16 = 0) (hk : R.1 1 14 = (kd : Int)) : F_X12_is (k : Int) R = some (if kd = k then 1 else 0) := by
  unfold F_X12_is
  rw [if_pos hw, hk]
  by_cases c : kd = k
  · rw [if_pos (by omega), if_pos c]
  · rw [if_neg (by omega), if_neg c]
noncomputable def rbody (R : ZS) : Option (ZS ⊕ (Int × ZS)) := (F_X12_is 1 R).bind fun r16 => if r16 = 0 then (F_X12_is 3 R).bind fun r18 => if r18 = 0 then (F_X12_is 4 R).bind fun r20 => if r20 = 0 then (F_X12_is 8 R).bind fun r22 => if r22 = 0 then (F_X12_fails 2 R).bind fun S24 => F_X12_text_180  S24 else (F_X12_readsDamp R).bind fun S25 => F_X12_text_180  S25 else (F_X12_readsTurn R).bind fun S26 => F_X12_text_180  S26 else (F_X12_readsEye R).bind fun S27 => F_X12_text_180  S27 else (F_X12_readsRoller R).bind fun S28 => F_X12_text_180  S28
theorem lp_body {L : Nat} {x2 : Int} (hq : q = 19 ∨ q = 20) (hA : AtA S R b n j) (hw : R.1 1 16 = 0) (hT : Told S R q) (hk : tkd b n (tat b n j) ≠ 12) (hx : x2 = 0 ∨ tkd b n (tat b n j) ≠ 0) (hL : R.1 1 18 = (L : Int)) (hL5 : L ≤ 500) :
    zq (F_X6_readLine q x2 S) (rbody R) (LineQ S R q b n j L) := by
  have hq3 : q ≠ 3 := by omega
  obtain ⟨k1, k2, k3⟩ := AtA_kind hA hw
  have k4 := (hA.2 hw).2.2.2.2.1
  have h13 := tkd_13 (b := b) (n := n) (tat b n j)
  obtain ⟨kd, hkd⟩ : ∃ kd, tkd b n (tat b n j) = kd := ⟨_, rfl⟩
  rw [hkd] at k3 k4 hk hx h13
  have i1 : F_X12_is 1 R = some (if kd = 1 then 1 else 0) := lp_is (k := 1) hw k4
  have i3 : F_X12_is 3 R = some (if kd = 3 then 1 else 0) := lp_is (k := 3) hw k4
  have i4 : F_X12_is 4 R = some (if kd = 4 then 1 else 0) := lp_is (k := 4) hw k4
  have i8 : F_X12_is 8 R = some (if kd = 8 then 1 else 0) := lp_is (k := 8) hw k4
  have hbad : zq (F_X6_readLine_120 S) ((F_X12_fails 2 R).bind fun S24 => F_X12_text_180 S24) (LineQ S R q b n j L) := by
    unfold F_X6_readLine_120
    exact zq_bind (lp_fault (f := 2) hA hw (by omega)) fun S' R' hp => lp_eolL hq (LnQ_fault hq3 hT hp.1 hp.2.1 hp.2.2.1 hp.2.2.2) hL hL5
  unfold F_X6_readLine rbody
  rw [if_pos ⟨k1, k2⟩, k3, i1, i3, i4, i8]
  rcases (show kd = 0 ∨ kd = 1 ∨ kd = 2 ∨ kd = 3 ∨ kd = 4 ∨ kd = 5 ∨ kd = 6 ∨ kd = 7 ∨ kd = 8 ∨ kd = 9 ∨ kd = 10 ∨ kd = 11 ∨ kd = 13 by omega) with rfl | rfl | rfl | rfl | rfl | rfl | rfl | rfl | rfl | rfl | rfl | rfl | rfl
  · have hx0 : x2 = 0 := hx.resolve_right (fun z => z rfl)
    rw [if_pos (show (tck 0 : Int) = 5 from rfl), if_pos hx0]
    exact hbad
  · rw [if_neg (show ¬ (tck 1 : Int) = 5 by decide), if_pos (show (tck 1 : Int) = 6 from rfl)]
    show zq _ ((F_X12_readsRoller R).bind fun S28 => F_X12_text_180 S28) _
    exact zq_bind (lp_line6 hq hA hw hkd hT) fun S' R' hp => lp_eolL hq hp hL hL5
  · rw [if_neg (show ¬ (tck 2 : Int) = 5 by decide), if_neg (show ¬ (tck 2 : Int) = 6 by decide), if_pos (show (tck 2 : Int) = 7 from rfl)]
    exact hbad
  · rw [if_neg (show ¬ (tck 3 : Int) = 5 by decide), if_neg (show ¬ (tck 3 : Int) = 6 by decide), if_neg (show ¬ (tck 3 : Int) = 7 by decide), if_pos (show (tck 3 : Int) = 8 from rfl)]
    show zq _ ((F_X12_readsEye R).bind fun S28 => F_X12_text_180 S28) _
    exact zq_bind (lp_line8 hq hA hw hkd hT) fun S' R' hp => lp_eolL hq hp hL hL5
  · rw [if_neg (show ¬ (tck 4 : Int) = 5 by decide), if_neg (show ¬ (tck 4 : Int) = 6 by decide), if_neg (show ¬ (tck 4 : Int) = 7 by decide), if_neg (show ¬ (tck 4 : Int) = 8 by decide), if_pos (show (tck 4 : Int) = 9 from rfl)]
    show zq _ ((F_X12_readsTurn R).bind fun S28 => F_X12_text_180 S28) _
    exact zq_bind (lp_line9 hq hA hw hkd hT) fun S' R' hp => lp_eolL hq hp hL hL5
  · rw [if_neg (show ¬ (tck 5 : Int) = 5 by decide), if_neg (show ¬ (tck 5 : Int) = 6 by decide), if_neg (show ¬ (tck 5 : Int) = 7 by decide), if_neg (show ¬ (tck 5 : Int) = 8 by decide), if_neg (show ¬ (tck 5 : Int) = 9 by decide), if_pos (show (tck 5 : Int) = 10 from rfl)]
    exact hbad
  · rw [if_neg (show ¬ (tck 6 : Int) = 5 by decide), if_neg (show ¬ (tck 6 : Int) = 6 by decide), if_neg (show ¬ (tck 6 : Int) = 7 by decide), if_neg (show ¬ (tck 6 : Int) = 8 by decide), if_neg (show ¬ (tck 6 : Int) = 9 by decide), if_neg (show ¬ (tck 6 : Int) = 10 by decide), if_pos (show (tck 6 : Int) = 11 from rfl)]
    exact hbad
  · rw [if_neg (show ¬ (tck 7 : Int) = 5 by decide), if_neg (show ¬ (tck 7 : Int) = 6 by decide), if_neg (show ¬ (tck 7 : Int) = 7 by decide), if_neg (show ¬ (tck 7 : Int) = 8 by decide), if_neg (show ¬ (tck 7 : Int) = 9 by decide), if_neg (show ¬ (tck 7 : Int) = 10 by decide), if_neg (show ¬ (tck 7 : Int) = 11 by decide), if_pos (show (tck 7 : Int) = 12 from rfl)]
    exact hbad
  · rw [if_neg (show ¬ (tck 8 : Int) = 5 by decide), if_neg (show ¬ (tck 8 : Int) = 6 by decide), if_neg (show ¬ (tck 8 : Int) = 7 by decide), if_neg (show ¬ (tck 8 : Int) = 8 by decide), if_neg (show ¬ (tck 8 : Int) = 9 by decide), if_neg (show ¬ (tck 8 : Int) = 10 by decide), if_neg (show ¬ (tck 8 : Int) = 11 by decide), if_neg (show ¬ (tck 8 : Int) = 12 by decide), if_pos (show (tck 8 : Int) = 13 from rfl)]
    show zq _ ((F_X12_readsDamp R).bind fun S28 => F_X12_text_180 S28) _
    exact zq_bind (lp_line13 hq hA hw hkd hT) fun S' R' hp => lp_eolL hq hp hL hL5
  · rw [if_neg (show ¬ (tck 9 : Int) = 5 by decide), if_neg (show ¬ (tck 9 : Int) = 6 by decide), if_neg (show ¬ (tck 9 : Int) = 7 by decide), if_neg (show ¬ (tck 9 : Int) = 8 by decide), if_neg (show ¬ (tck 9 : Int) = 9 by decide), if_neg (show ¬ (tck 9 : Int) = 10 by decide), if_neg (show ¬ (tck 9 : Int) = 11 by decide), if_neg (show ¬ (tck 9 : Int) = 12 by decide), if_neg (show ¬ (tck 9 : Int) = 13 by decide)]
    exact hbad
  · rw [if_neg (show ¬ (tck 10 : Int) = 5 by decide), if_neg (show ¬ (tck 10 : Int) = 6 by decide), if_neg (show ¬ (tck 10 : Int) = 7 by decide), if_neg (show ¬ (tck 10 : Int) = 8 by decide), if_neg (show ¬ (tck 10 : Int) = 9 by decide), if_neg (show ¬ (tck 10 : Int) = 10 by decide), if_neg (show ¬ (tck 10 : Int) = 11 by decide), if_neg (show ¬ (tck 10 : Int) = 12 by decide), if_neg (show ¬ (tck 10 : Int) = 13 by decide)]
    exact hbad
  · rw [if_neg (show ¬ (tck 11 : Int) = 5 by decide), if_neg (show ¬ (tck 11 : Int) = 6 by decide), if_neg (show ¬ (tck 11 : Int) = 7 by decide), if_neg (show ¬ (tck 11 : Int) = 8 by decide), if_neg (show ¬ (tck 11 : Int) = 9 by decide), if_neg (show ¬ (tck 11 : Int) = 10 by decide), if_neg (show ¬ (tck 11 : Int) = 11 by decide), if_neg (show ¬ (tck 11 : Int) = 12 by decide), if_neg (show ¬ (tck 11 : Int) = 13 by decide)]
    exact hbad
  · rw [if_neg (show ¬ (tck 13 : Int) = 5 by decide), if_neg (show ¬ (tck 13 : Int) = 6 by decide), if_neg (show ¬ (tck 13 : Int) = 7 by decide), if_neg (show ¬ (tck 13 : Int) = 8 by decide), if_neg (show ¬ (tck 13 : Int) = 9 by decide), if_neg (show ¬ (tck 13 : Int) = 10 by decide), if_neg (show ¬ (tck 13 : Int) = 11 by decide), if_neg (show ¬ (tck 13 : Int) = 12 by decide), if_neg (show ¬ (tck 13 : Int) = 13 by decide)]
    exact hbad
/-- all lines -/
def EndQ (S R : ZS) (q L' : Nat) (S2 R2 : ZS) : Prop := SLf q S S2 ∧ RLg R R2 ∧ FlR S2 R2 ∧ Told S2 R2 q ∧ (R2.1 1 16 = 0 → 0 < R2.2 1 5 6) ∧ R2.1 1 18 = (L' : Int)
theorem lp_end {L : Nat} (hq : q = 19 ∨ q = 20) (hA : AtA S R b n j) (hT : Told S R q) (hk : R.1 1 16 = 0 → tkd b n (tat b n j) = 12) (hL : R.1 1 18 = (L : Int)) :
    ∃ (S2 R2 : ZS), F_X6_readWay_76 q (L : Int) S = some ((L : Int), S2) ∧ (∀ u, F_X12_text_221 R2 = some u → F_X12_text_199 R = some u) ∧ EndQ S R q L S2 R2 := by
  have hq3 : q ≠ 3 := by omega
  unfold F_X6_readWay_76 F_X12_text_199
  by_cases hw : R.1 1 16 = 0
  · obtain ⟨t1, t2, t3⟩ := id hT
    obtain ⟨o1, o2, o3, o4, o5⟩ := t1 hw
    have w1 : S.1 q 1 = R.2 1 5 6 := o2.2.1
    rw [if_pos hw]
    by_cases c : R.2 1 5 6 = 0
    · obtain ⟨S', R', s1, s2, s3, s4, s5, s6⟩ := lp_fault (f := 2) hA hw (by omega)
      have s1' : F_X6_blame 2 S = some S' := s1
      have s2' : F_X12_fails 2 R = some R' := s2
      refine ⟨S', R', by rw [if_pos (by omega), s1', Option.bind_some], fun u hu => by rw [if_pos c, s2', Option.bind_some]; exact hu, SLf_of s3, RLg_of (RLf_of s4), s6.2.2.1, ?_, fun z => absurd z s5, ?_⟩
      · refine ⟨fun z => absurd z s5, by rw [s3.2.1 q hq3]; exact t2, by rw [s3.2.1 q hq3]; exact t3⟩
      · rw [s4.2.2 18 (by decide) (by decide) (by decide) (by decide) (by decide) (by decide)]; exact hL
    · have := o1.2.1
      exact ⟨S, R, by rw [if_neg (by omega)], fun u hu => by rw [if_neg c]; exact hu, SLf_of SFr_r, RLg_of (RLf_of RFr_r), hA.1.2.2.1, hT, fun _ => by omega, hL⟩
  · have hw3 : S.1 3 2 ≠ 0 := by rw [hA.1.2.2.1.1]; exact hw
    refine ⟨S, R, ?_, fun u hu => by rw [if_neg hw]; exact hu, SLf_of SFr_r, RLg_of (RLf_of RFr_r), hA.1.2.2.1, hT, fun z => absurd z hw, hL⟩
    rw [lp_blameN hw3]
    split <;> rfl
theorem lp_lines (hq : q = 19 ∨ q = 20) : ∀ (d : Nat) (S R : ZS) (j L : Nat), tlast b n + 1 ≤ j + d → AtA S R b n j → Told S R q → R.1 1 18 = (L : Int) → L ≤ j → L ≤ 450 + 0 → (L = 0 → R.1 1 16 = 0 → tkd b n (tat b n j) ≠ 0) → (R.1 1 16 = 0 → j ≤ tlast b n) →
    ∃ (L' : Nat) (S2 R2 : ZS), F_X6_readWay_29 q (L : Int) S = some ((L' : Int), S2) ∧ (∀ u, F_X12_text_221 R2 = some u → F_X12_text_98 R = some u) ∧ EndQ S R q L' S2 R2 := by
  intro d
  induction d with
  | zero =>
    intro S R j L hd hA hT hL hLj hL4 h0 hjt
    have hw : R.1 1 16 ≠ 0 := fun z => by have := hjt z; omega
    obtain ⟨S2, R2, e1, e2, e3⟩ := lp_end hq hA hT (fun z => absurd z hw) hL
    have hw3 : S.1 3 2 ≠ 0 := by rw [hA.1.2.2.1.1]; exact hw
    refine ⟨L, S2, R2, ?_, fun u hu => ?_, e3⟩
    · unfold F_X6_readWay_29
      refine zw_inr ?_
      dsimp only
      rw [if_neg hw3, e1]
      split <;> rfl
    · unfold F_X12_text_98
      refine zw_inr ?_
      rw [if_neg hw, e2 u hu]
      rfl
  | succ d ih =>
    intro S R j L hd hA hT hL hLj hL4 h0 hjt
    by_cases hw : R.1 1 16 = 0
    · obtain ⟨k1, k2, k3⟩ := AtA_kind hA hw
      have k4 := (hA.2 hw).2.2.2.2.1
      have hw3 : S.1 3 2 = 0 := by rw [hA.1.2.2.1.1]; exact hw
      have hjt := hjt hw
      have c7 := hA.1.1.1
      have hln := (tlast_b (b := b) (n := n)).1
      have hn4 := hA.1.2.1.1
      by_cases hk : tkd b n (tat b n j) = 12
      · obtain ⟨S2, R2, e1, e2, e3⟩ := lp_end hq hA hT (fun _ => hk) hL
        refine ⟨L, S2, R2, ?_, fun u hu => ?_, e3⟩
        · unfold F_X6_readWay_29
          refine zw_inr ?_
          dsimp only
          rw [if_pos (by omega), if_pos hw3, if_pos ⟨k1, k2⟩, k3, hk, if_pos (show (tck 12 : Int) = 0 from rfl), e1]
          rfl
        · unfold F_X12_text_98
          refine zw_inr ?_
          rw [if_pos hw, k4, hk, if_pos (show ((12 : Nat) : Int) = 12 from rfl), e2 u hu]
          rfl
      · have hne : ¬ (tck (tkd b n (tat b n j)) : Int) = 0 := fun z => hk (tck_0 (by omega))
        have hne2 : ¬ ((tkd b n (tat b n j) : Nat) : Int) = 12 := by omega
        obtain ⟨x2, hx2, hx3⟩ : ∃ x2 : Int, (x2 = 0 ∨ tkd b n (tat b n j) ≠ 0) ∧ (if (L : Int) = 0 then (F_X6_readLine q 1 S).bind fun S9 => (some (.inl ((zadd (L : Int) 1), S9)) : Option ((Int × ZS) ⊕ (Int × ZS))) else (F_X6_readLine q 0 S).bind fun S8 => some (.inl ((zadd (L : Int) 1), S8))) = (F_X6_readLine q x2 S).bind fun S8 => some (.inl ((zadd (L : Int) 1), S8)) := by
          by_cases c : L = 0
          · exact ⟨1, Or.inr (h0 c hw), if_pos (by omega)⟩
          · exact ⟨0, Or.inl rfl, if_neg (by omega)⟩
        obtain ⟨S', r, b1, b2, R', rfl, b3, b4, b5, b6, j', b7, b8⟩ := lp_body hq hA hw hT hk hx2 hL (by omega)
        have hj' : R'.1 1 16 = 0 → j' ≤ tlast b n := fun z => (b8.2 z).2.1
        obtain ⟨L', S2, R2, e1, e2, e3⟩ := ih S' R' j' (L + 1) (by omega) b8 b5 b6 (by omega) (by omega) (fun z => by omega) hj'
        refine ⟨L', S2, R2, ?_, fun u hu => ?_, SLf_t b3 e3.1, RLg_t b4 e3.2.1, e3.2.2⟩
        · unfold F_X6_readWay_29 at e1 ⊢
          rw [← e1]
          refine zw_inl ?_
          dsimp only
          rw [if_pos (by omega), if_pos hw3, if_pos ⟨k1, k2⟩, k3, if_neg hne, hx3, b1, Option.bind_some, zadd_ok (by omega) (by omega)]
          rfl
        · have h98 := e2 u hu
          unfold F_X12_text_98 at h98 ⊢
          rw [← h98]
          refine zw_inl ?_
          rw [if_pos hw, k4, if_neg hne2]
          exact b2
    · obtain ⟨S2, R2, e1, e2, e3⟩ := lp_end hq hA hT (fun z => absurd z hw) hL
      have hw3 : S.1 3 2 ≠ 0 := by rw [hA.1.2.2.1.1]; exact hw
      refine ⟨L, S2, R2, ?_, fun u hu => ?_, e3⟩
      · unfold F_X6_readWay_29
        refine zw_inr ?_
        dsimp only
        rw [if_neg hw3, e1]
        split <;> rfl
      · unfold F_X12_text_98
        refine zw_inr ?_
        rw [if_neg hw, e2 u hu]
        rfl
end LINET
