/-! plan: the reference's line -/
def mbit (A : Nat → Int) (s : Nat) : Bool := zbit (A (s / 64)) (s % 64)
theorem mbit_set {A : Nat → Int} {s j : Nat} : mbit (zset A (s / 64) (zlor (A (s / 64)) (zlshl 1 ((s % 64 : Nat) : Int)))) j = (mbit A j || decide (j = s)) := by
  unfold mbit
  rw [zset_ap]
  by_cases h : j / 64 = s / 64
  · rw [if_pos h, zbit_set (Nat.mod_lt _ (by decide)) (Nat.mod_lt _ (by decide)), h]
    congr 1
    by_cases g : j % 64 = s % 64
    · have : j = s := by omega
      simp [this]
    · have : j ≠ s := fun z => g (by rw [z])
      simp [this, g]
  · rw [if_neg h]
    have : j ≠ s := fun z => h (by rw [z])
    simp [this]
theorem pig {f : Nat → Nat} {N M : Nat} (h1 : ∀ i, i < N → f i < M) (h2 : ∀ i j, i < j → j < N → f i ≠ f j) : N ≤ M := by
  have hn : ((List.range N).map f).Nodup := by
    rw [List.Nodup, List.pairwise_map]
    refine List.Pairwise.imp_of_mem ?_ (List.pairwise_lt_range (n := N))
    intro a b ha hb hab
    exact h2 a b hab (List.mem_range.mp hb)
  have := nodup_le M _ hn (fun a ha => by
    obtain ⟨i, hi, rfl⟩ := List.mem_map.mp ha
    exact h1 i (List.mem_range.mp hi))
  simpa using this
/-- how a pocket can lie: ages behind one another, only those that have lain as long as needed alike -/
def PkV (r a b c : Nat) : Prop := (a = 5 ∧ b = 5 ∧ c = 5) ∨ (a ≤ r ∧ ((b = 5 ∧ c = 5) ∨ ((b < a ∨ (b = a ∧ a = r)) ∧ (c = 5 ∨ c < b ∨ (c = b ∧ b = r)))))
def PkB (r i : Nat) : Bool := (i / 36 == 5 && i / 6 % 6 == 5 && i % 6 == 5) || (decide (i / 36 ≤ r) && ((i / 6 % 6 == 5 && i % 6 == 5) || ((decide (i / 6 % 6 < i / 36) || (i / 6 % 6 == i / 36 && i / 36 == r)) && (i % 6 == 5 || decide (i % 6 < i / 6 % 6) || (i % 6 == i / 6 % 6 && i / 6 % 6 == r)))))
theorem PkB_V {r a b c : Nat} (ha : a < 6) (hb : b < 6) (hc : c < 6) (h : PkV r a b c) : PkB r ((a * 6 + b) * 6 + c) = true := by
  have e1 : ((a * 6 + b) * 6 + c) / 36 = a := by omega
  have e2 : ((a * 6 + b) * 6 + c) / 6 % 6 = b := by omega
  have e3 : ((a * 6 + b) * 6 + c) % 6 = c := by omega
  unfold PkB
  rw [e1, e2, e3]
  unfold PkV at h
  simp only [Bool.or_eq_true, Bool.and_eq_true, beq_iff_eq, decide_eq_true_eq]
  omega
theorem PkB_n : ∀ r, r < 5 → cnt (PkB r) 216 ≤ 32 := by decide +kernel
theorem cnt_s (p : Nat → Bool) (n : Nat) : cnt p (n + 1) = cnt p n + (if p n then 1 else 0) := rfl
theorem rk_lt {r i j : Nat} (hij : i < j) (hi : PkB r i = true) : cnt (PkB r) i < cnt (PkB r) j := by
  have h1 := cnt_s (PkB r) i
  rw [hi] at h1
  have h2 := cnt_mono (p := PkB r) (m := i + 1) (n := j) (by omega)
  simp at h1
  omega
def pcode : PS → Nat
  | (pg, a, b, c, h, t, s) => (((((pg * 6 + a) * 6 + b) * 6 + c) * 31 + h) * 10 + 2 * t) + s
def PVal (al : Nat → Int) : PS → Prop
  | (pg, a, b, c, h, t, s) => (pg : Int) ≤ al 31 ∧ (a < 6 ∧ b < 6 ∧ c < 6) ∧ PkV (al 25).toNat a b c ∧ h ≤ 30 ∧ t ≤ 4 ∧ s ≤ 1
theorem pcode_lt {al : Nat → Int} (h31 : al 31 ≤ 8) : ∀ x : PS, PVal al x → pcode x < 602640
  | (pg, a, b, c, h, t, s), hv => by
    dsimp only [PVal] at hv
    dsimp only [pcode]
    omega
theorem pcode_inj {al : Nat → Int} : ∀ x y : PS, PVal al x → PVal al y → pcode x = pcode y → x = y
  | (pg, a, b, c, h, t, s), (pg', a', b', c', h', t', s'), hv, hv', he => by
    dsimp only [PVal] at hv hv'
    dsimp only [pcode] at he
    have e1 : pg = pg' := by omega
    have e2 : a = a' := by omega
    have e3 : b = b' := by omega
    have e4 : c = c' := by omega
    have e5 : h = h' := by omega
    have e6 : t = t' := by omega
    have e7 : s = s' := by omega
    rw [e1, e2, e3, e4, e5, e6, e7]
/-- a number below 89280 for each -/
def prank (al : Nat → Int) : PS → Nat
  | (pg, a, b, c, h, t, s) => ((pg * 5 + t) * 32 + cnt (PkB (al 25).toNat) ((a * 6 + b) * 6 + c)) * 62 + 2 * h + s
theorem prank_c {al : Nat → Int} (h25 : 0 ≤ al 25 ∧ al 25 ≤ 4) {a b c : Nat} (ha : a < 6 ∧ b < 6 ∧ c < 6) (hv : PkV (al 25).toNat a b c) : cnt (PkB (al 25).toNat) ((a * 6 + b) * 6 + c) < 32 := by
  have h1 := rk_lt (r := (al 25).toNat) (i := (a * 6 + b) * 6 + c) (j := 216) (by omega) (PkB_V ha.1 ha.2.1 ha.2.2 hv)
  have h2 := PkB_n (al 25).toNat (by omega)
  omega
theorem prank_lt {al : Nat → Int} (h31 : al 31 ≤ 8) (h25 : 0 ≤ al 25 ∧ al 25 ≤ 4) : ∀ x : PS, PVal al x → prank al x < 89280
  | (pg, a, b, c, h, t, s), hv => by
    dsimp only [PVal] at hv
    have := prank_c h25 hv.2.1 hv.2.2.1
    dsimp only [prank]
    generalize cnt (PkB (al 25).toNat) ((a * 6 + b) * 6 + c) = r at *
    omega
theorem prank_inj {al : Nat → Int} (h25 : 0 ≤ al 25 ∧ al 25 ≤ 4) : ∀ x y : PS, PVal al x → PVal al y → prank al x = prank al y → x = y
  | (pg, a, b, c, h, t, s), (pg', a', b', c', h', t', s'), hv, hv', he => by
    dsimp only [PVal] at hv hv'
    have r1 := prank_c h25 hv.2.1 hv.2.2.1
    have r2 := prank_c h25 hv'.2.1 hv'.2.2.1
    dsimp only [prank] at he
    have e0 : cnt (PkB (al 25).toNat) ((a * 6 + b) * 6 + c) = cnt (PkB (al 25).toNat) ((a' * 6 + b') * 6 + c') := by
      generalize cnt (PkB (al 25).toNat) ((a * 6 + b) * 6 + c) = r at *
      generalize cnt (PkB (al 25).toNat) ((a' * 6 + b') * 6 + c') = r' at *
      omega
    have e8 : (a * 6 + b) * 6 + c = (a' * 6 + b') * 6 + c' := by
      rcases Nat.lt_trichotomy ((a * 6 + b) * 6 + c) ((a' * 6 + b') * 6 + c') with z | z | z
      · have := rk_lt z (PkB_V hv.2.1.1 hv.2.1.2.1 hv.2.1.2.2 hv.2.2.1)
        omega
      · exact z
      · have := rk_lt z (PkB_V hv'.2.1.1 hv'.2.1.2.1 hv'.2.1.2.2 hv'.2.2.1)
        omega
    rw [e0] at he
    generalize cnt (PkB (al 25).toNat) ((a' * 6 + b') * 6 + c') = r at *
    have e1 : pg = pg' := by omega
    have e2 : a = a' := by omega
    have e3 : b = b' := by omega
    have e4 : c = c' := by omega
    have e5 : h = h' := by omega
    have e6 : t = t' := by omega
    have e7 : s = s' := by omega
    rw [e1, e2, e3, e4, e5, e6, e7]
section RFQ
variable {S : ZS} {al : Nat → Int} {N k a n : Nat} {st : Nat → PS} {par ach : Nat → Nat} {wd : Nat → List Nat}
def FRp (S V : ZS) : Prop := (∀ r, r ≠ 1 → V.1 r = S.1 r) ∧ (∀ c, c ≠ 60 → c ≠ 61 → V.1 1 c = S.1 1 c) ∧ (∀ r, r ≠ 1 → V.2 r = S.2 r) ∧ (∀ o, o ≠ 57 → o ≠ 58 → o ≠ 59 → o ≠ 60 → V.2 1 o = S.2 1 o)
theorem FRp_r (S : ZS) : FRp S S := ⟨fun _ _ => rfl, fun _ _ _ => rfl, fun _ _ => rfl, fun _ _ _ _ _ => rfl⟩
theorem FRp_t {S V U : ZS} (h : FRp S V) (k : FRp V U) : FRp S U := ⟨fun r hr => (k.1 r hr).trans (h.1 r hr), fun c h1 h2 => (k.2.1 c h1 h2).trans (h.2.1 c h1 h2), fun r hr => (k.2.2.1 r hr).trans (h.2.2.1 r hr), fun o h1 h2 h3 h4 => (k.2.2.2 o h1 h2 h3 h4).trans (h.2.2.2 o h1 h2 h3 h4)⟩
theorem lp_adds {s : Nat} {x2 x3 : Int} (hs : s < 602640) (hN : S.1 1 60 = (N : Int)) (hb : N < 90000) :
    F_X12_adds (s : Int) x2 x3 S = some (if mbit (S.2 1 57) s = true then S else (zup S.1 1 60 ((N + 1 : Nat) : Int), zuA (zuA (zuA (zuA S.2 1 57 (zset (S.2 1 57) (s / 64) (zlor (S.2 1 57 (s / 64)) (zlshl 1 ((s % 64 : Nat) : Int))))) 1 58 (zset (S.2 1 58) N (s : Int))) 1 59 (zset (S.2 1 59) N x2)) 1 60 (zset (S.2 1 60) N x3))) := by
  have f1 : zshr (s : Int) 6 = ((s / 64 : Nat) : Int) := by rw [zshr_6 (by omega) (by omega)]; omega
  have f2 : zand (s : Int) 63 = ((s % 64 : Nat) : Int) := by rw [zand_63 (by omega) (by omega)]; omega
  have f3 : zadd (N : Int) 1 = ((N + 1 : Nat) : Int) := by rw [zadd_ok (by omega) (by omega)]; rfl
  unfold F_X12_adds zlt
  rw [f1, f2, if_pos (by omega), Int.toNat_natCast]
  by_cases c : mbit (S.2 1 57) s = true
  · rw [if_pos c, if_pos]
    rw [(zbit_shr (Nat.mod_lt s (by decide))).mpr c]
    decide
  · rw [if_neg c, if_neg]
    · dsimp only
      rw [hN, if_pos (by omega), if_pos (by omega), if_pos (by omega), Int.toNat_natCast, f3]
      rw [zuA_o (show (58 : Nat) ≠ 57 by decide), zuA_o (show (59 : Nat) ≠ 58 by decide), zuA_o (show (59 : Nat) ≠ 57 by decide), zuA_o (show (60 : Nat) ≠ 59 by decide), zuA_o (show (60 : Nat) ≠ 58 by decide), zuA_o (show (60 : Nat) ≠ 57 by decide)]
    · intro z
      apply c
      have := zlcmp_0.mp z
      exact (zbit_shr (Nat.mod_lt s (by decide))).mp this
def RQ (S : ZS) (N : Nat) (st : Nat → PS) (par ach : Nat → Nat) : Prop :=
  S.1 1 60 = (N : Int) ∧ (∀ j, j < N → S.2 1 58 j = (pcode (st j) : Int)) ∧ (∀ j, j < N → S.2 1 59 j = if j = 0 then -1 else (par j : Int)) ∧ (∀ j, 0 < j → j < N → S.2 1 60 j = (ach j : Int)) ∧ (∀ s, s < 602640 → (mbit (S.2 1 57) s = true ↔ ∃ j, j < N ∧ pcode (st j) = s))
/-- the line while its k-th state x is being opened, acts before a done -/
def RI (al : Nat → Int) (S : ZS) (k a : Nat) (x : PS) : Prop :=
  ∃ N st par ach wd, Bfs (pst al) (p0 al) N st par ach wd k a ∧ k < N ∧ st k = x ∧ (∀ j, j < N → PVal al (st j)) ∧ (∀ i j, i < j → j < N → st i ≠ st j) ∧ (∀ j, j < k → pac al (st j) = false) ∧ RQ S N st par ach
theorem RI_skip {x : PS} (h : RI al S k a x) (hn : pst al x a = none) : RI al S k (a + 1) x := by
  obtain ⟨N, st, par, ach, wd, h1, h2, h3, h4, h5, h6, h7⟩ := h
  exact ⟨N, st, par, ach, wd, Bfs_skip h1 (fun _ => Or.inl (by rw [h3]; exact hn)), h2, h3, h4, h5, h6, h7⟩
theorem RI_add {x t : PS} (h31 : al 31 ≤ 8) (h25 : 0 ≤ al 25 ∧ al 25 ≤ 4) (h : RI al S k a x) (ht : pst al x a = some t) (hv : PVal al t) : zp (F_X12_adds (pcode t : Int) (k : Int) (a : Int) S) (fun V => FRp S V ∧ RI al V k (a + 1) x) := by
  obtain ⟨N, st, par, ach, wd, h1, h2, h3, h4, h5, h6, q1, q2, q3, q4, q5⟩ := h
  have hNb : N ≤ 89280 := pig (f := fun j => prank al (st j)) (fun i hi => prank_lt h31 h25 _ (h4 i hi)) (fun i j hij hj z => h5 i j hij hj (prank_inj h25 _ _ (h4 i (by omega)) (h4 j hj) z))
  have hc := pcode_lt h31 t hv
  rw [zp_eq (lp_adds (s := pcode t) (N := N) hc q1 (by omega))]
  by_cases c : mbit (S.2 1 57) (pcode t) = true
  · rw [if_pos c]
    obtain ⟨j, hj1, hj2⟩ := (q5 _ hc).mp c
    have ej : st j = t := pcode_inj _ _ (h4 j hj1) hv hj2
    exact ⟨FRp_r S, N, st, par, ach, wd, Bfs_skip h1 (fun _ => Or.inr ⟨j, hj1, by rw [h3, ej]; exact ht⟩), h2, h3, h4, h5, h6, q1, q2, q3, q4, q5⟩
  · rw [if_neg c]
    have hnew : ∀ j, j < N → st j ≠ t := fun j hj z => c ((q5 _ hc).mpr ⟨j, hj, by rw [z]⟩)
    refine ⟨⟨fun r hr => zup_R hr, fun c h1 _ => zup_k h1, fun r hr => by dsimp only; rw [zuA_R hr, zuA_R hr, zuA_R hr, zuA_R hr], fun o h1 h2 h3 h4 => by dsimp only; rw [zuA_o h4, zuA_o h3, zuA_o h2, zuA_o h1]⟩, N + 1, fun j => if j = N then t else st j, fun j => if j = N then k else par j, fun j => if j = N then a else ach j, fun j => if j = N then wd k ++ [a] else wd j, ?_, by omega, ?_, fun j hj => ?_, fun i j hij hj => ?_, fun j hj => ?_, ?_, fun j hj => ?_, fun j hj => ?_, fun j hj0 hj => ?_, fun s hs => ?_⟩
    · exact Bfs_add h1 h2 (by rw [h3]; exact ht) (fun j hj => if_neg (by omega)) (fun j hj => if_neg (by omega)) (fun j hj => if_neg (by omega)) (fun j hj => if_neg (by omega)) (if_pos rfl) (if_pos rfl) (if_pos rfl) (if_pos rfl)
    · dsimp only; rw [if_neg (by omega)]; exact h3
    · dsimp only
      by_cases e : j = N
      · rw [if_pos e]; exact hv
      · rw [if_neg e]; exact h4 j (by omega)
    · dsimp only
      rw [if_neg (show ¬ i = N by omega)]
      by_cases e : j = N
      · rw [if_pos e]; exact hnew i (by omega)
      · rw [if_neg e]; exact h5 i j hij (by omega)
    · dsimp only; rw [if_neg (by omega)]; exact h6 j hj
    · dsimp only; rw [zup_s]
    · dsimp only
      rw [zuA_o (show (58 : Nat) ≠ 60 by decide), zuA_o (show (58 : Nat) ≠ 59 by decide), zuA_s, zset_ap]
      by_cases e : j = N
      · rw [if_pos e, if_pos e]
      · rw [if_neg e, if_neg e]; exact q2 j (by omega)
    · dsimp only
      rw [zuA_o (show (59 : Nat) ≠ 60 by decide), zuA_s, zset_ap]
      by_cases e : j = N
      · rw [if_pos e, if_pos e, if_neg (by omega)]
      · rw [if_neg e, if_neg e]; exact q3 j (by omega)
    · dsimp only
      rw [zuA_s, zset_ap]
      by_cases e : j = N
      · rw [if_pos e, if_pos e]
      · rw [if_neg e, if_neg e]; exact q4 j hj0 (by omega)
    · dsimp only
      rw [zuA_o (show (57 : Nat) ≠ 60 by decide), zuA_o (show (57 : Nat) ≠ 59 by decide), zuA_o (show (57 : Nat) ≠ 58 by decide), zuA_s, mbit_set, Bool.or_eq_true, q5 s hs, decide_eq_true_eq]
      constructor
      · rintro (⟨j, hj1, hj2⟩ | z)
        · exact ⟨j, by omega, by rw [if_neg (by omega)]; exact hj2⟩
        · exact ⟨N, by omega, by rw [if_pos rfl]; exact z.symm⟩
      · rintro ⟨j, hj1, hj2⟩
        by_cases e : j = N
        · rw [if_pos e] at hj2
          exact Or.inr hj2.symm
        · rw [if_neg e] at hj2
          exact Or.inl ⟨j, by omega, hj2⟩
end RFQ
