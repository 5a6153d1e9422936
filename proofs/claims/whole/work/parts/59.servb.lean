/-! rounds of service: the search -/
section SERVB
variable {S : ZS} {n m : Nat} {al : Nat → Int} {price : Int}
theorem zup_zrR {I : Nat → Nat → Int} {r k : Nat} {f : Nat → Int} {v : Int} : zup (zrR I r f) r k v = zrR I r (zset f k v) := by
  funext r' k'
  unfold zup zrR
  by_cases c : r' = r
  · subst c
    rw [if_pos rfl, if_pos rfl]
    by_cases d : k' = k
    · rw [if_pos ⟨rfl, d⟩, d]; exact (zset_ap.trans (if_pos rfl)).symm
    · rw [if_neg (fun z => d z.2)]; exact (zset_ap.trans (if_neg d)).symm
  · rw [if_neg (fun z => c z.1), if_neg c, if_neg c]
theorem zup_toR {I : Nat → Nat → Int} {r k : Nat} {v : Int} : zup I r k v = zrR I r (zset (I r) k v) := by
  conv => lhs; rw [← zrR_same (I := I) (r := r)]
  exact zup_zrR
def vbst (n k : Nat) (price : Int) (b : Int × Int × Int) (o : Option (Int × Int)) : Int × Int × Int :=
  match o with
  | none => b
  | some c => if b.1 ≠ -1 ∧ (b.2.1 < (vpc k n : Int) * price + c.1 ∨ ((vpc k n : Int) * price + c.1 = b.2.1 ∧ vpc b.1.toNat n ≤ vpc k n)) then b else ((k : Int), (vpc k n : Int) * price + c.1, c.2)
theorem vbe_s (k : Nat) : vbe al n price (k + 1) = vbst n k price (vbe al n price k) (vco al n k 10) := rfl
def PJ (al : Nat → Int) : Prop := ∀ p : Nat, p < 10 → (0 ≤ al (93 + p) ∧ al (93 + p) ≤ 99) ∧ (1 ≤ al (103 + p) ∧ al (103 + p) ≤ 12) ∧ (0 ≤ al (113 + p) ∧ al (113 + p) ≤ 12) ∧ (al (123 + p) = 0 ∨ al (123 + p) = 1)
theorem vtot_b (hn : n ≤ 10) (hp : 0 ≤ price ∧ price ≤ 999) (H : PJ al) {c : Int × Int} (h : vco al n m 10 = some c) : (0 ≤ (vpc m n : Int) * price ∧ (vpc m n : Int) * price ≤ 9990) ∧ (0 ≤ c.1 ∧ c.1 ≤ 9900) ∧ 0 ≤ c.2 ∧ c.2 ≤ 100 := by
  have hb := vco_b hn H 10 c (Nat.le_refl 10) h
  have hvl := vpc_le m n
  have hvm : 0 ≤ (vpc m n : Int) * price ∧ (vpc m n : Int) * price ≤ 10 * 999 := ⟨Int.mul_nonneg (by omega) hp.1, Int.mul_le_mul (by omega) hp.2 hp.1 (by omega)⟩
  omega
theorem vbe_b (hn : n ≤ 10) (hp : 0 ≤ price ∧ price ≤ 999) (H : PJ al) : ∀ k, vbe al n price k = (-1, 0, 0) ∨ ((0 ≤ (vbe al n price k).1 ∧ (vbe al n price k).1 < k) ∧ (0 ≤ (vbe al n price k).2.1 ∧ (vbe al n price k).2.1 ≤ 19890) ∧ 0 ≤ (vbe al n price k).2.2 ∧ (vbe al n price k).2.2 ≤ 100)
  | 0 => Or.inl rfl
  | k + 1 => by
    have ih := vbe_b hn hp H k
    rw [vbe_s]
    cases e : vco al n k 10 with
    | none =>
      show vbe al n price k = _ ∨ (_ ∧ (vbe al n price k).1 < _) ∧ _
      rcases ih with ih | ih
      · exact Or.inl ih
      · exact Or.inr (by unfold vbst; dsimp only; omega)
    | some c =>
      have hb := vtot_b hn hp H e
      unfold vbst
      dsimp only
      split
      · rcases ih with ih | ih
        · exact Or.inl ih
        · exact Or.inr (by omega)
      · exact Or.inr (by dsimp only; omega)
/-- every week visited: each part lasts -/
theorem vre_full {wk ag : Int} (h : 1 ≤ wk) : ∀ w, w ≤ n → n ≤ 10 → vre wk ag (2 ^ n - 1) w ≠ none
  | 0, _, _ => fun z => by cases z
  | w + 1, hw, hn => by
    have ih := vre_full (ag := ag) h w (by omega) hn
    cases e : vre wk ag (2 ^ n - 1) w with
    | none => exact absurd e ih
    | some q =>
      have hb : ∀ n ≤ 10, ∀ w < n, (2 ^ n - 1) / 2 ^ w % 2 = 1 := by decide +kernel
      rw [vre_s e, if_pos (hb n hn w (by omega))]
      split
      · exact fun z => by cases z
      · rw [if_neg (by omega), if_neg (by omega)]
        exact fun z => by cases z
theorem vco_full (hn : n ≤ 10) (H : PJ al) : ∀ p, p ≤ 10 → vco al n (2 ^ n - 1) p ≠ none
  | 0, _ => fun z => by cases z
  | p + 1, hp => by
    have ih := vco_full hn H p (by omega)
    cases e : vco al n (2 ^ n - 1) p with
    | none => exact absurd e ih
    | some q =>
      rw [vco_s e]
      split
      · exact fun z => by cases z
      · cases e2 : vre (al (103 + p)) (al (113 + p)) (2 ^ n - 1) n with
        | none => exact absurd e2 (vre_full (H p (by omega)).2.1.1 n (Nat.le_refl n) hn)
        | some f => exact fun z => by cases z
theorem vbe_full (hn : n ≤ 10) (hp : 0 ≤ price ∧ price ≤ 999) (H : PJ al) : (vbe al n price (2 ^ n)).1 ≠ -1 := by
  have h1 : 2 ^ n = (2 ^ n - 1) + 1 := by have := Nat.two_pow_pos n; omega
  rw [h1, vbe_s]
  cases e : vco al n (2 ^ n - 1) 10 with
  | none => exact absurd e (vco_full hn H 10 (Nat.le_refl 10))
  | some c =>
    unfold vbst
    dsimp only
    split
    · rename_i h; exact h.1
    · dsimp only; omega
theorem p2n (hn : n ≤ 10) : 2 ^ n ≤ 1024 := Nat.pow_le_pow_right (by omega) hn
theorem zshl1 (hn : n ≤ 10) : zshl 1 (n : Int) = ((2 ^ n : Nat) : Int) := by
  have h := p2n hn
  have e := zshl_n (a := 1) (k := n) (by omega) (by omega)
  rw [Nat.one_mul] at e
  exact e
theorem lp_seek17 (hn : 1 ≤ n ∧ n ≤ 10) (hp : 0 ≤ price ∧ price ≤ 999) (H : PJ al)
    (K : ∀ p : Nat, p < 10 → S.2 11 15 p = al (93 + p) ∧ (al (123 + p) = 0 ∨ S.2 11 16 p = al (103 + p)) ∧ S.2 11 17 p = al (113 + p) ∧ S.2 11 18 p = al (123 + p)) :
    zp (F_X7_seek_17 11 (n : Int) price S) (fun s => ∃ f, s = (zrR S.1 17 f, S.2) ∧ f 0 = (n : Int) ∧ f 4 = price ∧ InvR f al) := by
  have h2n := p2n hn.2
  unfold F_X7_seek_17 F_X7_seek_36
  rw [zp_lt, zp_lt, zp_lt]
  refine zp_w (fun r s => ∃ k f, r + k = 2 ^ n ∧ s = ((k : Int), (zrR S.1 17 f, S.2)) ∧ f 0 = (n : Int) ∧ f 4 = price ∧ ((vbe al n price k).1 = -1 → f 1 = 1000000) ∧ ((vbe al n price k).1 ≠ -1 → f 1 = (vbe al n price k).2.1 ∧ f 2 = (vbe al n price k).1 ∧ f 3 = (vbe al n price k).2.2)) (fun r s hs => ?_) (2 ^ n) _ ⟨0, zset (zset (zset (S.1 17) 0 n) 4 price) 1 1000000, Nat.add_zero _, ?_, rfl, rfl, fun _ => rfl, fun z => absurd rfl z⟩
  · obtain ⟨k, f, hk, rfl, hf0, hf4, hf1, hf2⟩ := hs
    have hb := vbe_b hn.2 hp H k
    have hs := vbe_s (al := al) (n := n) (price := price) k
    dsimp only
    rw [zshl1 hn.2]
    refine zp_if (fun c => ?_) (fun c => ?_)
    · have hk10 : k < 1024 := by omega
      have hkn : vpc k 10 = vpc k n := vpc_n n hn.2 k (by omega)
      have g3 : zadd (k : Int) 1 = ((k + 1 : Nat) : Int) := by rw [zadd_ok (by omega) (by omega)]; rfl
      rw [zp_bind]
      refine zp_mono (lp_cost (S := (zrR S.1 17 f, S.2)) hk10 hn.2 H K) fun v hv => ?_
      obtain ⟨z, rfl, hz⟩ := hv
      rw [zp_bind, zp_eq (lp_bits hk10), hkn, g3]
      cases e : vco al n k 10 with
      | none =>
        rw [e] at hs
        refine zp_pos rfl ?_
        rw [zp_some, zup_zrR]
        exact ⟨r - 1, by omega, k + 1, _, by omega, rfl, hf0, hf4, by rw [hs]; exact hf1, by rw [hs]; exact hf2⟩
      | some q =>
        rw [e] at hs
        have hq := vtot_b hn.2 hp H e
        have hz := hz q e
        subst hz
        have ev : vrs (some q) = q.1 := rfl
        have g4 : zadd q.1 (zmul (vpc k n : Int) price) = (vpc k n : Int) * price + q.1 := by rw [zmul_ok (by omega) (by omega), zadd_ok (by omega) (by omega)]; omega
        dsimp only
        rw [ev, if_neg (by omega), g4, zup_zrR, zp_bind]
        have hbet : F_X7_isBetter ((vpc k n : Int) * price + q.1) (k : Int) (zrR S.1 17 (zset f 5 q.2), S.2) = some (if (vbe al n price k).1 ≠ -1 ∧ ((vbe al n price k).2.1 < (vpc k n : Int) * price + q.1 ∨ ((vpc k n : Int) * price + q.1 = (vbe al n price k).2.1 ∧ vpc (vbe al n price k).1.toNat n ≤ vpc k n)) then 0 else 1) := by
          unfold F_X7_isBetter
          dsimp only
          have z1 : zset f 5 q.2 1 = f 1 := rfl
          have z2 : zset f 5 q.2 2 = f 2 := rfl
          simp only [zrR_s, z1, z2]
          by_cases d : (vbe al n price k).1 = -1
          · simp only [hf1 d]
            rw [if_pos (by omega), if_neg (fun z => z.1 d)]
          · obtain ⟨y1, y2, y3⟩ := hf2 d
            have hb2 : 0 ≤ (vbe al n price k).1 ∧ (vbe al n price k).1 < k := by
              rcases hb with hb | hb
              · rw [hb] at d; exact absurd rfl d
              · exact hb.1
            simp only [y1, y2]
            generalize hB : vbe al n price k = B at d hb2
            obtain ⟨t, ht⟩ : ∃ t : Nat, B.1 = (t : Int) := ⟨_, (Int.toNat_of_nonneg hb2.1).symm⟩
            rw [ht, lp_bits hk10, lp_bits (by omega), hkn, vpc_n n hn.2 t (by omega), Int.toNat_natCast]
            by_cases d1 : (vpc k n : Int) * price + q.1 < B.2.1
            · rw [if_pos d1, if_neg (by omega)]
            · rw [if_neg d1]
              by_cases d2 : (vpc k n : Int) * price + q.1 = B.2.1
              · rw [if_pos d2, Option.bind_some, Option.bind_some]
                by_cases d3 : vpc k n < vpc t n
                · rw [if_pos (by omega), if_neg (by omega)]
                · rw [if_neg (by omega), if_pos (by omega)]
              · rw [if_neg d2, if_pos (by omega)]
        rw [zp_eq hbet]
        unfold vbst at hs
        dsimp only at hs
        refine zp_if (fun c1 => ?_) (fun c1 => ?_)
        · have c2 : (vbe al n price k).1 ≠ -1 ∧ ((vbe al n price k).2.1 < (vpc k n : Int) * price + q.1 ∨ ((vpc k n : Int) * price + q.1 = (vbe al n price k).2.1 ∧ vpc (vbe al n price k).1.toNat n ≤ vpc k n)) := by
            by_cases d : (vbe al n price k).1 ≠ -1 ∧ ((vbe al n price k).2.1 < (vpc k n : Int) * price + q.1 ∨ ((vpc k n : Int) * price + q.1 = (vbe al n price k).2.1 ∧ vpc (vbe al n price k).1.toNat n ≤ vpc k n))
            · exact d
            · rw [if_neg d] at c1; exact absurd c1 (by decide)
          rw [if_pos c2] at hs
          rw [zp_some]
          exact ⟨r - 1, by omega, k + 1, _, by omega, rfl, hf0, hf4, by rw [hs]; exact hf1, by rw [hs]; exact hf2⟩
        · have c2 : ¬((vbe al n price k).1 ≠ -1 ∧ ((vbe al n price k).2.1 < (vpc k n : Int) * price + q.1 ∨ ((vpc k n : Int) * price + q.1 = (vbe al n price k).2.1 ∧ vpc (vbe al n price k).1.toNat n ≤ vpc k n))) := fun d => c1 (if_pos d)
          rw [if_neg c2] at hs
          rw [zp_lt, zp_lt, zp_lt, zp_some]
          refine ⟨r - 1, by omega, k + 1, zset (zset (zset (zset f 5 q.2) 1 ((vpc k n : Int) * price + q.1)) 2 k) 3 q.2, by omega, ?_, hf0, hf4, fun z => ?_, fun _ => by rw [hs]; exact ⟨rfl, rfl, rfl⟩⟩
          · dsimp only
            rw [zup_zrR, zup_zrR, zup_zrR, zrR_s]
            rfl
          · rw [hs] at z; dsimp only at z; omega
    · have : k = 2 ^ n := by omega
      rw [zp_some]
      rw [this] at hf2
      obtain ⟨y1, y2, y3⟩ := hf2 (vbe_full hn.2 hp H)
      refine ⟨f, rfl, hf0, hf4, Or.inr ⟨by omega, by omega, ?_⟩⟩
      rw [hf0, hf4, Int.toNat_natCast]
      exact ⟨y1.symm, y2.symm, y3.symm⟩
  · dsimp only
    rw [zup_toR (I := S.1), zup_zrR, zup_zrR]
    rfl

theorem zup_64 {I : Nat → Nat → Int} : zup (zup I 1 64 (I 1 64)) 1 65 (I 1 65) = I := by
  funext r k
  unfold zup
  split
  · rename_i h; rw [h.1, h.2]
  · split
    · rename_i h; rw [h.1, h.2]
    · rfl
theorem lp_serv12 {x3 : Int} (hn : 1 ≤ n ∧ n ≤ 10) (hp : 0 ≤ price ∧ price ≤ 999) (h55 : S.2 1 55 = al) (H : PJ al) :
    zp (F_X12_service_55 (n : Int) price x3 (-1) 0 0 0 S) (fun v => ∃ z1 z2, v = ((if x3 = 0 then (vbe al n price (2 ^ n)).2.1 else if x3 = 1 then (vbe al n price (2 ^ n)).1 else (vbe al n price (2 ^ n)).2.2), (zup (zup S.1 1 64 z1) 1 65 z2, S.2))) := by
  have h2n := p2n hn.2
  unfold F_X12_service_55
  refine zp_w (fun r s => ∃ k z1 z2, r + k = 2 ^ n ∧ s = ((vbe al n price k).1, (vbe al n price k).2.1, (vbe al n price k).2.2, (k : Int), (zup (zup S.1 1 64 z1) 1 65 z2, S.2))) (fun r s hs => ?_) (2 ^ n) _ ⟨0, S.1 1 64, S.1 1 65, Nat.add_zero _, by rw [zup_64]; rfl⟩
  obtain ⟨k, z1, z2, hk, rfl⟩ := hs
  have hb := vbe_b hn.2 hp H k
  have hs := vbe_s (al := al) (n := n) (price := price) k
  dsimp only
  rw [zshl1 hn.2]
  refine zp_if (fun c => ?_) (fun c => ?_)
  · have hk10 : k < 1024 := by omega
    have hkn : vpc k 10 = vpc k n := vpc_n n hn.2 k (by omega)
    have g3 : zadd (k : Int) 1 = ((k + 1 : Nat) : Int) := by rw [zadd_ok (by omega) (by omega)]; rfl
    rw [zp_bind]
    refine zp_mono (lp_serves (S := (zup (zup S.1 1 64 z1) 1 65 z2, S.2)) hk10 hn.2 hp h55 H) fun v hv => ?_
    obtain ⟨y1, y2, rr, rfl, hv1, hv2⟩ := hv
    dsimp only
    rw [g3, zup_2]
    cases e : vco al n k 10 with
    | none =>
      rw [e] at hs
      rw [hv1 e]
      refine zp_pos rfl ?_
      rw [zp_some]
      exact ⟨r - 1, by omega, k + 1, y1, y2, by omega, by rw [hs]; rfl⟩
    | some q =>
      rw [e] at hs
      have hq := vtot_b hn.2 hp H e
      obtain ⟨q1, q2, q3⟩ := hv2 q e
      subst q1 q2 q3
      unfold vbst at hs
      dsimp only at hs
      rw [if_neg (by decide)]
      have ea : zup (zup S.1 1 64 ((vpc k n : Int) * price + q.1)) 1 65 q.2 1 64 = (vpc k n : Int) * price + q.1 := rfl
      have eb : zup (zup S.1 1 64 ((vpc k n : Int) * price + q.1)) 1 65 q.2 1 65 = q.2 := rfl
      have hnew : ¬((vbe al n price k).1 ≠ -1 ∧ ((vbe al n price k).2.1 < (vpc k n : Int) * price + q.1 ∨ ((vpc k n : Int) * price + q.1 = (vbe al n price k).2.1 ∧ vpc (vbe al n price k).1.toNat n ≤ vpc k n))) → zp (F_X12_service_117 (n : Int) price x3 (k : Int) (zup (zup S.1 1 64 ((vpc k n : Int) * price + q.1)) 1 65 q.2, S.2)) (zor2 (fun s' => ∃ m, m < r ∧ ∃ k z1 z2, m + k = 2 ^ n ∧ s' = ((vbe al n price k).1, (vbe al n price k).2.1, (vbe al n price k).2.2, (k : Int), (zup (zup S.1 1 64 z1) 1 65 z2, S.2))) (fun v => ∃ z1 z2, v = ((if x3 = 0 then (vbe al n price (2 ^ n)).2.1 else if x3 = 1 then (vbe al n price (2 ^ n)).1 else (vbe al n price (2 ^ n)).2.2), (zup (zup S.1 1 64 z1) 1 65 z2, S.2)))) := by
        intro c2
        rw [if_neg c2] at hs
        unfold F_X12_service_117
        rw [zp_some]
        dsimp only
        rw [ea, eb, g3]
        exact ⟨r - 1, by omega, k + 1, _, _, by omega, by rw [hs]⟩
      have hold : ((vbe al n price k).1 ≠ -1 ∧ ((vbe al n price k).2.1 < (vpc k n : Int) * price + q.1 ∨ ((vpc k n : Int) * price + q.1 = (vbe al n price k).2.1 ∧ vpc (vbe al n price k).1.toNat n ≤ vpc k n))) → vbe al n price (k + 1) = vbe al n price k := fun c2 => by rw [hs, if_pos c2]
      refine zp_if (fun c1 => ?_) (fun c1 => ?_)
      · exact hnew (fun z => z.1 c1)
      · simp only [ea]
        refine zp_if (fun c2 => ?_) (fun c2 => ?_)
        · rw [zp_some]
          exact ⟨r - 1, by omega, k + 1, _, _, by omega, by rw [hold ⟨c1, Or.inl c2⟩]⟩
        · have hb2 : 0 ≤ (vbe al n price k).1 ∧ (vbe al n price k).1 < k := by
            rcases hb with hb | hb
            · rw [hb] at c1; exact absurd rfl c1
            · exact hb.1
          obtain ⟨t, ht⟩ : ∃ t : Nat, (vbe al n price k).1 = (t : Int) := ⟨_, (Int.toNat_of_nonneg hb2.1).symm⟩
          refine zp_if (fun c3 => ?_) (fun c3 => ?_)
          · have o1 := lp_ones (S := (zup (zup S.1 1 64 ((vpc k n : Int) * price + q.1)) 1 65 q.2, S.2)) hk10
            have o2 := lp_ones (S := (zup (zup S.1 1 64 ((vpc k n : Int) * price + q.1)) 1 65 q.2, S.2)) (m := t) (by omega)
            rw [hkn] at o1
            rw [vpc_n n hn.2 t (by omega), ← ht] at o2
            have ht2 : (vbe al n price k).1.toNat = t := by omega
            rw [ht2] at hnew hold
            rw [zp_bind, zp_eq o1, zp_bind, zp_eq o2]
            refine zp_if (fun c4 => ?_) (fun c4 => ?_)
            · exact hnew (fun z => by omega)
            · rw [zp_some]
              exact ⟨r - 1, by omega, k + 1, _, _, by omega, by rw [hold ⟨c1, Or.inr ⟨c3, by omega⟩⟩]⟩
          · exact hnew (fun z => by omega)
  · have : k = 2 ^ n := by omega
    subst this
    refine zp_if (fun c1 => ?_) (fun c1 => ?_)
    · rw [if_pos c1, zp_some]; exact ⟨_, _, rfl⟩
    · refine zp_if (fun c2 => ?_) (fun c2 => ?_)
      · rw [if_neg c1, if_pos c2, zp_some]; exact ⟨_, _, rfl⟩
      · rw [if_neg c1, if_neg c2, zp_some]; exact ⟨_, _, rfl⟩
theorem lp_seek (hn : 1 ≤ n ∧ n ≤ 10) (hp : 0 ≤ price ∧ price ≤ 999) (H : PJ al) (R : InvR (S.1 17) al)
    (K : ∀ p : Nat, p < 10 → S.2 11 15 p = al (93 + p) ∧ (al (123 + p) = 0 ∨ S.2 11 16 p = al (103 + p)) ∧ S.2 11 17 p = al (113 + p) ∧ S.2 11 18 p = al (123 + p)) :
    zp (F_X7_seek 11 (n : Int) price S) (fun s => ∃ f, s = (zrR S.1 17 f, S.2) ∧ InvR f al ∧ f 1 = (vbe al n price (2 ^ n)).2.1 ∧ f 2 = (vbe al n price (2 ^ n)).1 ∧ f 3 = (vbe al n price (2 ^ n)).2.2) := by
  have h17 : zp (F_X7_seek_17 11 (n : Int) price S) (fun s => ∃ f, s = (zrR S.1 17 f, S.2) ∧ InvR f al ∧ f 1 = (vbe al n price (2 ^ n)).2.1 ∧ f 2 = (vbe al n price (2 ^ n)).1 ∧ f 3 = (vbe al n price (2 ^ n)).2.2) := by
    refine zp_mono (lp_seek17 hn hp H K) fun s hs => ?_
    obtain ⟨f, rfl, f0, f4, fR⟩ := hs
    refine ⟨f, rfl, fR, ?_⟩
    rcases fR with z | ⟨_, _, r1, r2, r3⟩
    · omega
    · rw [f0, f4, Int.toNat_natCast] at r1 r2 r3
      exact ⟨r1.symm, r2.symm, r3.symm⟩
  unfold F_X7_seek
  refine zp_if (fun c1 => ?_) (fun c1 => h17)
  refine zp_if (fun c2 => ?_) (fun c2 => h17)
  rw [zp_some]
  refine ⟨S.1 17, by rw [zrR_same], R, ?_⟩
  rcases R with z | ⟨_, _, r1, r2, r3⟩
  · omega
  · rw [c1, c2, Int.toNat_natCast] at r1 r2 r3
    exact ⟨r1.symm, r2.symm, r3.symm⟩
end SERVB
section SERVP
variable {n : Nat} {S : ZS} {x1 x2 x3 : Int}
theorem pair_service (h : Inv n S) : Pair n S (F_X11_service x1 x2 x3) (F_X12_service x1 x2 x3) := by
  obtain ⟨hT, hW, hF, hX, hO, hC, hJ, hI, hP, hK, hR, hM⟩ := h
  have hX := InvX_up hX
  have hPJ : PJ (S.2 1 55) := hJ.1.2.2.2.2.2.2.2.2.2.2.2.2
  have hK' := hJ.2.2.2.2.2.2.2.2.2.2.2.2.2
  by_cases c0 : (1 ≤ x1 ∧ x1 ≤ 10) ∧ (0 ≤ x2 ∧ x2 ≤ 999)
  · obtain ⟨k, rfl⟩ : ∃ k : Nat, x1 = (k : Int) := ⟨_, (Int.toNat_of_nonneg (by omega)).symm⟩
    unfold Pair F_X11_service
    rw [if_neg (by omega), if_neg (by omega), if_neg (by omega), if_neg (by omega), zp_bind]
    refine zp_mono (lp_seek (by omega) c0.2 hPJ hR hK') fun s hs => ?_
    obtain ⟨f, rfl, fR, f1, f2, f3⟩ := hs
    by_cases cw : 0 ≤ x3 ∧ x3 ≤ 2
    · have hx : zp (if x3 = 0 then some (zrR S.1 17 f 17 1, (zrR S.1 17 f, S.2)) else if x3 = 1 then some (zrR S.1 17 f 17 2, (zrR S.1 17 f, S.2)) else if x3 = 2 then some (zrR S.1 17 f 17 3, (zrR S.1 17 f, S.2)) else some (-1, (zrR S.1 17 f, S.2))) (fun v => v = ((if x3 = 0 then (vbe (S.2 1 55) k x2 (2 ^ k)).2.1 else if x3 = 1 then (vbe (S.2 1 55) k x2 (2 ^ k)).1 else (vbe (S.2 1 55) k x2 (2 ^ k)).2.2), (zrR S.1 17 f, S.2))) := by
        rw [zrR_s, f1, f2, f3]
        refine zp_if (fun c1 => ?_) (fun c1 => ?_)
        · rw [if_pos c1, zp_some]
        · rw [if_neg c1]
          refine zp_if (fun c2 => ?_) (fun c2 => ?_)
          · rw [if_pos c2, zp_some]
          · rw [if_neg c2, if_pos (by omega), zp_some]
      refine zp_mono hx fun v hv => ?_
      subst hv
      refine ⟨rfl, zp_gen S rfl rfl rfl (fun T hE t0 t1 t2 => ?_)⟩
      unfold F_X12_service
      repeat' first
        | (with_reducible refine zp_some.mpr ?_; try dsimp only)
        | (with_reducible refine zp_wi.mpr ⟨fun c => ?_, fun c => ?_⟩ <;> (try simp (disch := omega) only [zadd_ok, zsub_ok, zmul_ok, zup_ap, zuA_ap, zset_ap, zuA_s, zuA_A, zup_up, and_true, true_and, and_false, false_and, reduceIte, Nat.reduceEqDiff, not_true_eq_false, not_false_eq_true, or_true, true_or, or_false, false_or, t1, t2] at c) <;> (try (exfalso; omega)) <;> (try dsimp only))
        | with_reducible refine zp_bind.mpr ?_
        | (with_reducible refine zp_if (fun c => ?_) (fun c => ?_) <;> (try simp (disch := omega) only [zadd_ok, zsub_ok, zmul_ok, zup_ap, zuA_ap, zset_ap, zuA_s, zuA_A, zup_up, and_true, true_and, and_false, false_and, reduceIte, Nat.reduceEqDiff, not_true_eq_false, not_false_eq_true, or_true, true_or, or_false, false_or, t1, t2] at c) <;> (try (exfalso; omega)))
        | (with_reducible refine zp_lt.mpr ?_; try dsimp only)
        | fail
      refine zp_mono (lp_serv12 (S := (zup T.1 1 0 0, T.2)) (al := S.2 1 55) (by omega) c0.2 (by show T.2 1 55 = _; rw [t2]) hPJ) fun v hv => ?_
      obtain ⟨z1, z2, rfl⟩ := hv
      replace hE := hE.symm
      subst hE
      exact ⟨rfl, rfl, hT, hW, hF, hX, hO, hC, hJ, hI, hP, hK, fR, hM⟩
    · rw [if_neg (by omega), if_neg (by omega), if_neg (by omega), zp_some]
      refine ⟨rfl, zp_gen S rfl rfl rfl (fun T hE t0 t1 t2 => ?_)⟩
      unfold F_X12_service
      repeat' first
        | (with_reducible refine zp_some.mpr ?_; try dsimp only)
        | (with_reducible refine zp_wi.mpr ⟨fun c => ?_, fun c => ?_⟩ <;> (try simp (disch := omega) only [zadd_ok, zsub_ok, zmul_ok, zup_ap, zuA_ap, zset_ap, zuA_s, zuA_A, zup_up, and_true, true_and, and_false, false_and, reduceIte, Nat.reduceEqDiff, not_true_eq_false, not_false_eq_true, or_true, true_or, or_false, false_or, t1, t2] at c) <;> (try (exfalso; omega)) <;> (try dsimp only))
        | with_reducible refine zp_bind.mpr ?_
        | (with_reducible refine zp_if (fun c => ?_) (fun c => ?_) <;> (try simp (disch := omega) only [zadd_ok, zsub_ok, zmul_ok, zup_ap, zuA_ap, zset_ap, zuA_s, zuA_A, zup_up, and_true, true_and, and_false, false_and, reduceIte, Nat.reduceEqDiff, not_true_eq_false, not_false_eq_true, or_true, true_or, or_false, false_or, t1, t2] at c) <;> (try (exfalso; omega)))
        | (with_reducible refine zp_lt.mpr ?_; try dsimp only)
        | fail
      replace hE := hE.symm
      subst hE
      exact ⟨rfl, rfl, hT, hW, hF, hX, hO, hC, hJ, hI, hP, hK, fR, hM⟩
  · unfold Pair F_X11_service
    repeat' first
    | (with_reducible refine zp_some.mpr ?_; try dsimp only)
    | (with_reducible refine zp_wi.mpr ⟨fun c => ?_, fun c => ?_⟩ <;> (try simp (disch := omega) only [zadd_ok, zsub_ok, zmul_ok, zup_ap, zuA_ap, zset_ap, zuA_s, zuA_A, zup_up, and_true, true_and, and_false, false_and, reduceIte, Nat.reduceEqDiff, not_true_eq_false, not_false_eq_true, or_true, true_or, or_false, false_or] at c) <;> (try (exfalso; omega)) <;> (try dsimp only))
    | with_reducible refine zp_bind.mpr ?_
    | (with_reducible refine zp_if (fun c => ?_) (fun c => ?_) <;> (try simp (disch := omega) only [zadd_ok, zsub_ok, zmul_ok, zup_ap, zuA_ap, zset_ap, zuA_s, zuA_A, zup_up, and_true, true_and, and_false, false_and, reduceIte, Nat.reduceEqDiff, not_true_eq_false, not_false_eq_true, or_true, true_or, or_false, false_or] at c) <;> (try (exfalso; omega)))
    | (with_reducible refine zp_lt.mpr ?_; try dsimp only)
    | fail
    all_goals refine ⟨rfl, zp_gen S rfl rfl rfl (fun T hE t0 t1 t2 => ?_)⟩
    all_goals unfold F_X12_service
    all_goals repeat' first
    | (with_reducible refine zp_some.mpr ?_; try dsimp only)
    | (with_reducible refine zp_wi.mpr ⟨fun c => ?_, fun c => ?_⟩ <;> (try simp (disch := omega) only [zadd_ok, zsub_ok, zmul_ok, zup_ap, zuA_ap, zset_ap, zuA_s, zuA_A, zup_up, and_true, true_and, and_false, false_and, reduceIte, Nat.reduceEqDiff, not_true_eq_false, not_false_eq_true, or_true, true_or, or_false, false_or, t1, t2] at c) <;> (try (exfalso; omega)) <;> (try dsimp only))
    | with_reducible refine zp_bind.mpr ?_
    | (with_reducible refine zp_if (fun c => ?_) (fun c => ?_) <;> (try simp (disch := omega) only [zadd_ok, zsub_ok, zmul_ok, zup_ap, zuA_ap, zset_ap, zuA_s, zuA_A, zup_up, and_true, true_and, and_false, false_and, reduceIte, Nat.reduceEqDiff, not_true_eq_false, not_false_eq_true, or_true, true_or, or_false, false_or, t1, t2] at c) <;> (try (exfalso; omega)))
    | (with_reducible refine zp_lt.mpr ?_; try dsimp only)
    | fail
    all_goals replace hE := hE.symm
    all_goals subst hE
    all_goals exact ⟨rfl, rfl, hT, hW, hF, hX, hO, hC, hJ, hI, hP, hK, hR, hM⟩
end SERVP
