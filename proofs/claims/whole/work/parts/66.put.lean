/-! a sheet put on the way: its place in the line -/
section PUT
variable {S : ZS} {T s : Nat} {front side : Int} {L : List Nat}
def tP (A : ZA) (T s : Nat) (front side : Int) : ZA := zuA (zuA (zuA (zuA A T 6 (zset (A T 6) s 0)) T 7 (zset (A T 7) s front)) T 8 (zset (A T 8) s side)) T 9 (zset (A T 9) s 0)
theorem lp_put8 (hs : s < 40) (hL : S.1 T 13 = (L.length : Int)) (hl : L.length < 40) (hA : ∀ i (h : i < L.length), S.2 T 13 i = (L[i] : Int)) (hb : ∀ a, a ∈ L → a < 40 ∧ a ≠ s) :
    zp (F_X8_putOnWay T (s : Int) front side S) (fun S' => ∃ k G, k ≤ L.length ∧ (∀ j (h : j < L.length), j + 1 = k → front ≤ S.2 T 7 L[j]) ∧ (∀ j (h : j < L.length), k ≤ j → S.2 T 7 L[j] < front) ∧
      S' = (zup S.1 T 13 ((L.length + 1 : Nat) : Int), zuA (tP S.2 T s front side) T 13 G) ∧ (∀ j (h : j < L.length), j < k → G j = (L[j] : Int)) ∧ G k = (s : Int) ∧ (∀ j (h : j < L.length), k ≤ j → G (j + 1) = (L[j] : Int))) := by
  have hr : (0 : Int) ≤ (s : Int) ∧ (s : Int) < 40 := by omega
  unfold F_X8_putOnWay
  rw [if_pos hr, Int.toNat_natCast]
  rw [zp_lt, zp_lt, zp_lt, zp_lt]
  dsimp only
  have e7 : zuA S.2 T 6 (zset (S.2 T 6) s 0) T 7 = S.2 T 7 := zuA_o (by decide)
  have e8 : zuA (zuA S.2 T 6 (zset (S.2 T 6) s 0)) T 7 (zset (S.2 T 7) s front) T 8 = S.2 T 8 := (zuA_o (by decide)).trans (zuA_o (by decide))
  have e9 : zuA (zuA (zuA S.2 T 6 (zset (S.2 T 6) s 0)) T 7 (zset (S.2 T 7) s front)) T 8 (zset (S.2 T 8) s side) T 9 = S.2 T 9 := (zuA_o (by decide)).trans ((zuA_o (by decide)).trans (zuA_o (by decide)))
  rw [e7, e8, e9, hL, zmin_le (by omega)]
  show zp (F_X8_putOnWay_39 T s front (L.length : Int) (S.1, tP S.2 T s front side)) _
  have h13 : tP S.2 T s front side T 13 = S.2 T 13 := (zuA_o (by decide)).trans ((zuA_o (by decide)).trans ((zuA_o (by decide)).trans (zuA_o (by decide))))
  have h7 : ∀ a, a ≠ s → tP S.2 T s front side T 7 a = S.2 T 7 a := by
    intro a ha
    unfold tP
    simp [zuA_ap, zset_ap, ha]
  generalize tP S.2 T s front side = B at h13 h7
  unfold F_X8_putOnWay_39
  refine zp_w (fun k st => ∃ G, k ≤ L.length ∧ st = ((k : Int), (S.1, zuA B T 13 G)) ∧ (∀ j (h : j < L.length), j < k → G j = (L[j] : Int)) ∧ (∀ j (h : j < L.length), k ≤ j → G (j + 1) = (L[j] : Int) ∧ S.2 T 7 L[j] < front)) (fun k st hst => ?_) L.length _ ⟨S.2 T 13, Nat.le_refl _, by rw [← h13, zuA_same], fun j h _ => hA j h, fun j h hj => by omega⟩
  obtain ⟨G, hk, rfl, g1, g2⟩ := hst
  dsimp only
  have hfin : (∀ j (h : j < L.length), j + 1 = k → front ≤ S.2 T 7 L[j]) → zp (zjn (σ := Int × ZS) (F_X8_putOnWay_84 T s (k : Int) (S.1, zuA B T 13 G))) (zor2 (fun s' => ∃ m, m < k ∧ ∃ G, m ≤ L.length ∧ s' = ((m : Int), (S.1, zuA B T 13 G)) ∧ (∀ j (h : j < L.length), j < m → G j = (L[j] : Int)) ∧ (∀ j (h : j < L.length), m ≤ j → G (j + 1) = (L[j] : Int) ∧ S.2 T 7 L[j] < front))
      (fun S' => ∃ k G, k ≤ L.length ∧ (∀ j (h : j < L.length), j + 1 = k → front ≤ S.2 T 7 L[j]) ∧ (∀ j (h : j < L.length), k ≤ j → S.2 T 7 L[j] < front) ∧
      S' = (zup S.1 T 13 ((L.length + 1 : Nat) : Int), zuA B T 13 G) ∧ (∀ j (h : j < L.length), j < k → G j = (L[j] : Int)) ∧ G k = (s : Int) ∧ (∀ j (h : j < L.length), k ≤ j → G (j + 1) = (L[j] : Int)))) := by
    intro hst
    rw [zp_in]
    unfold F_X8_putOnWay_84
    refine zp_pos (by omega) ?_
    rw [zp_lt, zp_lt, zp_some]
    refine ⟨k, zset G k s, hk, hst, fun j h hj => (g2 j h hj).2, ?_, fun j h hj => ?_, ?_, fun j h hj => ?_⟩
    · dsimp only
      rw [hL, zadd_ok (by omega) (by omega), zmin_le (by omega), zuA_s, zuA_A, Int.toNat_natCast]
      rfl
    · rw [zset_ap, if_neg (by omega)]; exact g1 j h hj
    · rw [zset_ap, if_pos rfl]
    · rw [zset_ap, if_neg (by omega)]; exact (g2 j h hj).1
  refine zp_if (fun c => ?_) (fun c => ?_)
  · obtain ⟨i, rfl⟩ : ∃ i, k = i + 1 := ⟨k - 1, by omega⟩
    have hi : i < L.length := by omega
    have e1 : zsub ((i + 1 : Nat) : Int) 1 = (i : Int) := by rw [zsub_ok (by omega) (by omega)]; omega
    have e2 : zadd ((i + 1 : Nat) : Int) (-1) = (i : Int) := by rw [zadd_ok (by omega) (by omega)]; omega
    have hh := hb L[i] (List.getElem_mem hi)
    have eg := g1 i hi (by omega)
    have e7' : zuA B T 13 G T 7 = B T 7 := zuA_o (by decide)
    simp only [e1, e2, Int.toNat_natCast, zuA_s, eg, e7', h7 _ hh.2]
    refine zp_pos (by omega) (zp_pos (by omega) ?_)
    refine zp_if (fun d => ?_) (fun d => ?_)
    · refine zp_pos (by omega) ?_
      rw [zp_lt, zp_some]
      refine ⟨i, by omega, zset G (i + 1) (L[i] : Int), by omega, by rw [zuA_A], fun j h hj => ?_, fun j h hj => ?_⟩
      · rw [zset_ap, if_neg (by omega)]; exact g1 j h (by omega)
      · by_cases e : j = i
        · subst e
          exact ⟨by rw [zset_ap, if_pos rfl], d⟩
        · rw [zset_ap, if_neg (by omega)]; exact g2 j h (by omega)
    · refine hfin fun j h hj => ?_
      have : j = i := by omega
      subst this
      omega
  · exact hfin fun j h hj => by omega
end PUT
