/-! explain: the class's trial set up -/
def FR5 (S V : ZS) : Prop := (∀ r, r ≠ 5 → r ≠ 8 → r ≠ 9 → r ≠ 10 → V.1 r = S.1 r ∧ V.2 r = S.2 r) ∧ (∀ k, k ≠ 1 → k ≠ 2 → k ≠ 3 → k ≠ 10 → V.1 10 k = S.1 10 k) ∧ (∀ o, o ≠ 8 → V.2 10 o = S.2 10 o)
theorem FR5_r (S : ZS) : FR5 S S := ⟨fun _ _ _ _ _ => ⟨rfl, rfl⟩, fun _ _ _ _ _ => rfl, fun _ _ => rfl⟩
theorem FR5_t {S V U : ZS} (h : FR5 S V) (k : FR5 V U) : FR5 S U := ⟨fun r h5 h8 h9 h10 => ⟨(k.1 r h5 h8 h9 h10).1.trans (h.1 r h5 h8 h9 h10).1, (k.1 r h5 h8 h9 h10).2.trans (h.1 r h5 h8 h9 h10).2⟩, fun c h1 h2 h3 h4 => (k.2.1 c h1 h2 h3 h4).trans (h.2.1 c h1 h2 h3 h4), fun o ho => (k.2.2 o ho).trans (h.2.2 o ho)⟩
theorem FR5_of {S V : ZS} (h : ∀ r, r ≠ 5 → r ≠ 8 → r ≠ 9 → V.1 r = S.1 r ∧ V.2 r = S.2 r) : FR5 S V := ⟨fun r h5 h8 h9 _ => h r h5 h8 h9, fun k _ _ _ _ => by rw [(h 10 (by decide) (by decide) (by decide)).1], fun o _ => by rw [(h 10 (by decide) (by decide) (by decide)).2]⟩
def CH (W : Nat) (wy ro sp ey seen on off : Nat → Int) (S : ZS) : Prop := WayR (S.1 W) (S.2 W) wy ro sp ey ∧ InvO' (S.2 10) (wy 7) seen on off
theorem CH_fr {W : Nat} {wy ro sp ey seen on off : Nat → Int} {S V : ZS} (hW : W = 19 ∨ W = 20) (h : CH W wy ro sp ey seen on off S) (f : FR5 S V) : CH W wy ro sp ey seen on off V := by
  obtain ⟨h1, h2⟩ := h
  have q := f.1 W (by omega) (by omega) (by omega) (by omega)
  refine ⟨by rw [q.1, q.2]; exact h1, fun e he => ?_⟩
  rw [f.2.2 5 (by decide), f.2.2 6 (by decide), f.2.2 7 (by decide)]
  exact h2 e he
section EXPU
variable {S : ZS} {W : Nat} {wy ro sp ey seen on off : Nat → Int} {len a b x : Int} {t u e n7 : Nat}
theorem ey_lt (h : ∀ e : Nat, (e : Int) + 1 < wy 7 → ey e < ey (e + 1)) : ∀ d i : Nat, ((i + d + 1 : Nat) : Int) < wy 7 → ey i < ey (i + d + 1)
  | 0, i, hd => h i (by omega)
  | d + 1, i, hd => by
    have a1 := ey_lt h d i (by omega)
    have a2 := h (i + d + 1) (by omega)
    have e : i + (d + 1) + 1 = i + d + 1 + 1 := by omega
    rw [e]
    omega
theorem lp_put11 (hx : 0 ≤ x ∧ x < 69) (hab : a < x) (he : 50 ≤ x → S.2 W 6 (x - 50).toNat = ey (x - 50).toNat ∧ 1 ≤ ey (x - 50).toNat ∧ ey (x - 50).toNat ≤ 300) (hne : 50 ≤ a → 50 ≤ x → ey (a - 50).toNat ≠ ey (x - 50).toNat) (h : TkF ey a (-1) (S.2 5 1) (S.2 5 2) (S.2 5 3) (S.1 5 3)) :
    zp (F_X0_putFlaw W x S) (fun V => (∀ r, r ≠ 5 → V.1 r = S.1 r ∧ V.2 r = S.2 r) ∧ TkF ey a x (V.2 5 1) (V.2 5 2) (V.2 5 3) (V.1 5 3)) := by
  have hm := TkF_m1 h
  have f1 : 10 ≤ x → zsub x 10 = x - 10 := fun z => zsub_ok (by omega) (by omega)
  have f2 : 10 ≤ x → zsub x 20 = x - 20 := fun z => zsub_ok (by omega) (by omega)
  have f3 : 10 ≤ x → zsub x 50 = x - 50 := fun z => zsub_ok (by omega) (by omega)
  unfold F_X0_putFlaw
  refine zp_neg (by omega) ?_
  by_cases c9 : x = 49
  · exact zp_pos c9 (zp_some.mpr ⟨fun _ _ => ⟨rfl, rfl⟩, TkF_n h hab ⟨by omega, by omega⟩⟩)
  refine zp_neg c9 ?_
  by_cases c5 : x < 50
  · refine zp_pos c5 ?_
    by_cases c1 : x < 10
    · refine zp_pos c1 (zp_pos ⟨hx.1, c1⟩ (zp_lt.mpr (zp_some.mpr ⟨fun r hr => ⟨rfl, zuA_R hr⟩, ?_⟩)))
      dsimp only
      rw [zuA_s, zuA_o (by decide), zuA_o (by decide), zmax_d]
      refine TkF_w h hab ⟨hx.1, c1⟩ (fun r hr => ?_)
      rw [zset_ap]
      by_cases g : r = x.toNat
      · rw [if_pos g, if_pos (by omega), g]
      · rw [if_neg g, if_neg (by omega)]
    · refine zp_neg c1 ?_
      rw [f1 (by omega), f2 (by omega)]
      by_cases c2 : x < 20
      · refine zp_pos c2 (zp_pos (by omega) (zp_lt.mpr (zp_some.mpr ⟨fun r hr => ⟨rfl, zuA_R hr⟩, ?_⟩)))
        dsimp only
        rw [zuA_s, zuA_o (by decide), zuA_o (by decide)]
        refine TkF_h h hab ⟨by omega, c2⟩ (fun r hr => ?_)
        rw [zset_ap]
        by_cases g : r = (x - 10).toNat
        · rw [if_pos g, if_pos (by omega)]
        · rw [if_neg g, if_neg (by omega)]
      · refine zp_neg c2 ?_
        by_cases c3 : x < 30
        · refine zp_pos c3 (zp_pos (by omega) (zp_lt.mpr (zp_some.mpr ⟨fun r hr => ⟨rfl, zuA_R hr⟩, ?_⟩)))
          dsimp only
          rw [zuA_s, zuA_o (by decide), zuA_o (by decide)]
          refine TkF_b h hab ⟨by omega, c3⟩ (fun r hr => ?_)
          rw [zset_ap]
          by_cases g : r = (x - 20).toNat
          · rw [if_pos g, if_pos (by omega)]
          · rw [if_neg g, if_neg (by omega)]
        · exact zp_neg c3 (zp_some.mpr ⟨fun _ _ => ⟨rfl, rfl⟩, TkF_n h hab ⟨by omega, by omega⟩⟩)
  · refine zp_neg c5 ?_
    rw [f3 (by omega)]
    obtain ⟨e1, e2, e3⟩ := he (by omega)
    obtain ⟨mm, hmm⟩ : ∃ mm : Nat, S.1 5 3 = (mm : Int) := ⟨_, (Int.toNat_of_nonneg hm.1).symm⟩
    have f4 : zadd (S.2 W 6 (x - 50).toNat) 2 = ey (x - 50).toNat + 2 := by rw [e1]; exact zadd_ok (by omega) (by omega)
    have f5 : zadd (S.1 5 3) 1 = S.1 5 3 + 1 := zadd_ok (by omega) (by omega)
    have hcor : F_X1_cornerAt 5 (ey (x - 50).toNat + 2) S = some (-1) := by
      rw [lp_cornerAt (n := mm) hmm (by omega), if_neg]
      have : fnd (fun i => decide (S.2 5 3 i = ey (x - 50).toNat + 2)) mm = mm := by
        refine fnd_none (fun i hi => decide_eq_false ?_)
        obtain ⟨_, h2, h3⟩ := h
        have hc : i < cma a (-1) := by omega
        rw [h3 i hc]
        unfold cma at hc
        rw [if_neg (show ¬ 50 ≤ (-1 : Int) by omega)] at hc
        split at hc
        · rename_i z
          unfold cco
          rw [if_pos ⟨z, by omega⟩]
          have := hne z (by omega)
          omega
        · omega
      omega
    refine zp_pos (by omega) (zp_bind.mpr ?_)
    unfold F_X1_leaveCorner
    rw [f4]
    refine zp_pos (by omega) (zp_bind.mpr ((zp_eq hcor).mpr (zp_pos rfl (zp_pos (by omega) (zp_lt.mpr (zp_lt.mpr (zp_some.mpr (zp_some.mpr ⟨fun r hr => ⟨zup_R hr, zuA_R hr⟩, ?_⟩))))))))
    dsimp only
    rw [zuA_s, zuA_o (by decide), zuA_o (by decide), zup_s, f5]
    refine TkF_c h hab (by omega) rfl (fun c hc => ?_)
    rw [zset_ap]
    by_cases g : c = (S.1 5 3).toNat
    · rw [if_pos g, if_pos (by omega)]
    · rw [if_neg g, if_neg (by omega)]
theorem lp_expl11 (hW : W = 19 ∨ W = 20) (hWo : WayOK wy ro sp ey) (h6 : 0 < wy 6) (hH : CH W wy ro sp ey seen on off S) (hl : 10 ≤ len ∧ len ≤ 60) (hp : cPr a b) (ha : 50 ≤ a → a - 50 < wy 7) (hb : 50 ≤ b → b - 50 < wy 7) :
    zp (F_X0_explains W len a b S) (fun v => (∀ r, r ≠ 5 → r ≠ 8 → r ≠ 9 → v.2.1 r = S.1 r ∧ v.2.2 r = S.2 r) ∧ ((v.1 = 1 ∧ AccAt wy ro sp ey seen on off len a b) ∨ (v.1 = 0 ∧ ∃ t, RefAt wy ro sp ey seen on off len a b t ∧ v.2.2 8 7 0 = (cSg wy ro sp ey a b len t).1))) := by
  obtain ⟨⟨g1, g2⟩, ⟨g3, g4⟩, ⟨g5, g6⟩, g7, g8, g9, g10, g11, g12⟩ := id hWo
  obtain ⟨hWR, HO⟩ := hH
  obtain ⟨w0, w1, w2, w3, w4, w5, w6, w7, w8, w9⟩ := hWR
  have H0 : DrOK wy ro sp (fun _ => 0) (fun _ => 0) := ⟨⟨g3, g4⟩, g8, fun r hr => by have := g9 r hr; exact ⟨by omega, by omega, (show (0 : Int) ≤ 0 ∧ (0 : Int) ≤ 1000 from ⟨by decide, by decide⟩), Or.inl rfl⟩⟩
  have H : DrOK wy ro sp (cwe a b) (cbe a b) := DrOK_c H0
  have hroo : 1 ≤ ro 0 ∧ ro 0 ≤ 300 := by have := g9 0 (by omega); omega
  have b1 : 0 ≤ wy 1 ∧ wy 1 ≤ 300 := by rcases g7 with z | z <;> omega
  have hoa : cOk ey a := cOk_of (wy := wy) (by rcases hp with z | z <;> omega) ⟨g5, g6⟩ g10 g2 ha
  have hob : cOk ey b := cOk_of (wy := wy) (by rcases hp with z | z <;> omega) ⟨g5, g6⟩ g10 g2 hb
  have C : CoOK (cco ey a b) (cma a b) := CoOK_c hoa hob
  obtain ⟨n7, e7⟩ : ∃ n7 : Nat, wy 7 = (n7 : Int) := ⟨_, (Int.toNat_of_nonneg g5).symm⟩
  have h7 : n7 ≤ 19 := by omega
  have hey : ∀ e, e < n7 → 1 ≤ ey e ∧ ey e ≤ 300 := fun e he => by have := g10 e (by omega); omega
  have hp1 : -1 ≤ a ∧ a < 69 ∧ -1 ≤ b ∧ b < 69 := by rcases hp with z | z <;> omega
  have hW5 : W ≠ 5 := by omega
  have hW8 : W ≠ 8 := by omega
  have hW9 : W ≠ 9 := by omega
  have hey' : ∀ x : Int, 0 ≤ x → x < 69 → (50 ≤ x → x - 50 < wy 7) → 50 ≤ x → S.2 W 6 (x - 50).toNat = ey (x - 50).toNat ∧ 1 ≤ ey (x - 50).toNat ∧ ey (x - 50).toNat ≤ 300 := fun x h1 h2 h3 h4 => ⟨w9 _ (by have := h3 h4; omega), hey _ (by have := h3 h4; omega)⟩
  have hne : 50 ≤ a → 50 ≤ b → a < b → ey (a - 50).toNat ≠ ey (b - 50).toNat := by
    intro h1 h2 h3
    have q1 := hb h2
    have := ey_lt (wy := wy) (ey := ey) g12.1 ((b - 50).toNat - (a - 50).toNat - 1) (a - 50).toNat (by omega)
    rw [show (a - 50).toNat + ((b - 50).toNat - (a - 50).toNat - 1) + 1 = (b - 50).toNat by omega] at this
    omega
  -- the trial laid and run
  have last : ∀ X : ZS, (∀ r, r ≠ 5 → X.1 r = S.1 r ∧ X.2 r = S.2 r) → TkF ey a b (X.2 5 1) (X.2 5 2) (X.2 5 3) (X.1 5 3) → zp ((F_X8_start 8 W 5 X).bind fun S11 => if a = 49 then (F_X8_begin 8 (zadd len 10) 0 S11).bind fun r13 => F_X0_explains_65 W a b 1 r13.2 else if b = 49 then (F_X8_begin 8 (zadd len 10) 0 S11).bind fun r16 => F_X0_explains_65 W a b 1 r16.2 else (F_X8_begin 8 len 0 S11).bind fun r15 => F_X0_explains_65 W a b 1 r15.2)
      (fun v => (∀ r, r ≠ 5 → r ≠ 8 → r ≠ 9 → v.2.1 r = S.1 r ∧ v.2.2 r = S.2 r) ∧ ((v.1 = 1 ∧ AccAt wy ro sp ey seen on off len a b) ∨ (v.1 = 0 ∧ ∃ t, RefAt wy ro sp ey seen on off len a b t ∧ v.2.2 8 7 0 = (cSg wy ro sp ey a b len t).1))) := by
    intro X hX hK
    refine zp_bind.mpr (zp_mono (zp_bind.mp (lp_lay8 (S := X) (W := W) (ro := ro) hW (cle_b (a := a) (b := b) hl) hroo (by rw [(hX W hW5).2]; exact (w8 0 (by omega)).1) rfl)) (fun Y hY => ?_))
    have fin : ∀ v : Int × ZS, (v.1 = 0 ∧ (∀ r, r ≠ 8 → r ≠ 9 → v.2.1 r = X.1 r ∧ v.2.2 r = X.2 r) ∧ CRt 8 W 5 1 v.2 0 (-1) (alP (cle a b len) (10 * ro 0) 0 0) [0] []) → zp (F_X0_explains_65 W a b 1 v.2) (fun v => (∀ r, r ≠ 5 → r ≠ 8 → r ≠ 9 → v.2.1 r = S.1 r ∧ v.2.2 r = S.2 r) ∧ ((v.1 = 1 ∧ AccAt wy ro sp ey seen on off len a b) ∨ (v.1 = 0 ∧ ∃ t, RefAt wy ro sp ey seen on off len a b t ∧ v.2.2 8 7 0 = (cSg wy ro sp ey a b len t).1))) := by
      intro v hv
      obtain ⟨_, v2, v3⟩ := hv
      have q1 : v.2.1 W = S.1 W := (v2 W hW8 hW9).1.trans (hX W hW5).1
      have q2 : v.2.2 W = S.2 W := (v2 W hW8 hW9).2.trans (hX W hW5).2
      have q5 := v2 5 (by decide) (by decide)
      have q10 : v.2.2 10 = S.2 10 := (v2 10 (by decide) (by decide)).2.trans (hX 10 (by decide)).2
      refine zp_mono (lp_ex65 (S := v.2) (W := W) (wy := wy) (ro := ro) (sp := sp) (ey := ey) (seen := seen) (on := on) (off := off) (n7 := n7) hW (by rw [q1]; exact w0) (by rw [q1]; exact w3) (by rw [q1]; exact w4) (by rw [q1]; exact w5) (by rw [q1]; exact w6) ⟨g1, g2⟩ b1 H (by rw [q1]; exact w1) (by rw [q1]; exact w7) (fun r hr => by rw [q2]; exact w8 r hr) C (by rw [q5.1, q5.2]; exact hK) e7 h7 (by rw [q1, w2, e7]) (fun e he => by rw [q2]; exact w9 e (by omega)) hey (by rw [q10]; exact HO) hl hroo v3) (fun u hu => ?_)
      obtain ⟨u1, u2, u3⟩ := hu
      exact ⟨fun r h5 h8 h9 => ⟨(u1 r h8).trans ((v2 r h8 h9).1.trans (hX r h5).1), (u2 r h8).trans ((v2 r h8 h9).2.trans (hX r h5).2)⟩, u3⟩
    have f1 : zadd len 10 = len + 10 := zadd_ok (by omega) (by omega)
    by_cases p1 : a = 49
    · refine zp_pos p1 (zp_bind.mpr ?_)
      rw [f1]
      refine zp_mono ?_ fin
      rw [show cle a b len = len + 10 from if_pos (Or.inl p1)] at hY ⊢
      exact hY
    · refine zp_neg p1 ?_
      by_cases p2 : b = 49
      · refine zp_pos p2 (zp_bind.mpr ?_)
        rw [f1]
        refine zp_mono ?_ fin
        rw [show cle a b len = len + 10 from if_pos (Or.inr p2)] at hY ⊢
        exact hY
      · refine zp_neg p2 (zp_bind.mpr ?_)
        refine zp_mono ?_ fin
        rw [show cle a b len = len from if_neg (fun z => z.elim p1 p2)] at hY ⊢
        exact hY
  unfold F_X0_explains
  rw [lp_reset1, Option.bind_some]
  have hK0 : TkF ey (-1) (-1) ((zuA (zuA S.2 5 1 (zfl 10 0 (S.2 5 1))) 5 2 (zfl 10 0 (S.2 5 2))) 5 1) ((zuA (zuA S.2 5 1 (zfl 10 0 (S.2 5 1))) 5 2 (zfl 10 0 (S.2 5 2))) 5 2) ((zuA (zuA S.2 5 1 (zfl 10 0 (S.2 5 1))) 5 2 (zfl 10 0 (S.2 5 2))) 5 3) (zup S.1 5 3 0 5 3) := by
    refine TkF_0 (fun r hr => ?_) zup_s
    rw [zuA_o (by decide), zuA_s, zuA_s, zfl_ap, zfl_ap, if_pos hr, if_pos hr]
    exact ⟨rfl, rfl⟩
  obtain ⟨X0, hX0⟩ : ∃ X0 : ZS, X0 = (zup S.1 5 3 0, zuA (zuA S.2 5 1 (zfl 10 0 (S.2 5 1))) 5 2 (zfl 10 0 (S.2 5 2))) := ⟨_, rfl⟩
  have hF0 : ∀ r, r ≠ 5 → X0.1 r = S.1 r ∧ X0.2 r = S.2 r := fun r hr => by rw [hX0]; exact ⟨zup_R hr, by dsimp only; rw [zuA_R hr, zuA_R hr]⟩
  have hK0 : TkF ey (-1) (-1) (X0.2 5 1) (X0.2 5 2) (X0.2 5 3) (X0.1 5 3) := by rw [hX0]; exact hK0
  rw [← hX0]
  have pn : ∀ X : ZS, F_X0_putFlaw W (-1) X = some X := fun X => by unfold F_X0_putFlaw; rw [if_pos rfl]
  by_cases q : a = -1
  · have hb1 : b = -1 := by rcases hp with z | z <;> omega
    subst q
    subst hb1
    rw [pn, Option.bind_some, pn, Option.bind_some]
    exact last X0 hF0 hK0
  · refine zp_bind.mpr (zp_mono (lp_put11 (S := X0) (W := W) (a := -1) (x := a) (ey := ey) (by omega) (by omega) (fun h => by rw [(hF0 W hW5).2]; exact hey' a (by omega) (by omega) ha h) (fun z => absurd z (by decide)) hK0) (fun V hV => ?_))
    have hFV : ∀ r, r ≠ 5 → V.1 r = S.1 r ∧ V.2 r = S.2 r := fun r hr => ⟨(hV.1 r hr).1.trans (hF0 r hr).1, (hV.1 r hr).2.trans (hF0 r hr).2⟩
    have hKV := TkF_sw hV.2
    by_cases q2 : b = -1
    · subst q2
      rw [pn, Option.bind_some]
      exact last V hFV hKV
    · have hab : a < b := by rcases hp with z | z <;> omega
      refine zp_bind.mpr (zp_mono (lp_put11 (S := V) (W := W) (a := a) (x := b) (ey := ey) (by omega) hab (fun h => by rw [(hFV W hW5).2]; exact hey' b (by omega) (by omega) hb h) (fun z1 z2 => hne z1 z2 hab) hKV) (fun U hU => ?_))
      exact last U (fun r hr => ⟨(hU.1 r hr).1.trans (hFV r hr).1, (hU.1 r hr).2.trans (hFV r hr).2⟩) hU.2
end EXPU
