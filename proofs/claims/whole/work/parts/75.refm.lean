/-! a tick, the reference: a search for the least, the moves -/
def bst (c : Nat → Bool) (g : Nat → Int) : Nat → Int
  | 0 => -1
  | i + 1 => if c i = true ∧ (bst c g i = -1 ∨ g i < g (bst c g i).toNat) then (i : Int) else bst c g i
section BST
variable {c : Nat → Bool} {g : Nat → Int}
theorem bst_s (i : Nat) : bst c g (i + 1) = if c i = true ∧ (bst c g i = -1 ∨ g i < g (bst c g i).toNat) then (i : Int) else bst c g i := rfl
theorem bst_sp : ∀ n, (bst c g n = -1 ∧ ∀ o, o < n → c o = false) ∨ ∃ b : Nat, b < n ∧ bst c g n = (b : Int) ∧ c b = true ∧ ∀ o, o < n → c o = true → g b ≤ g o
  | 0 => Or.inl ⟨rfl, fun o h => by omega⟩
  | i + 1 => by
    rw [bst_s]
    rcases bst_sp i with ⟨a, b⟩ | ⟨k, a, b, d, e⟩
    · rw [a]
      cases hc : c i
      · rw [if_neg (fun z => by cases z.1)]
        refine Or.inl ⟨rfl, fun o ho => ?_⟩
        rcases Nat.lt_or_ge o i with y | y
        · exact b o y
        · have : o = i := by omega
          rw [this]; exact hc
      · rw [if_pos ⟨rfl, Or.inl rfl⟩]
        refine Or.inr ⟨i, by omega, rfl, hc, fun o ho h => ?_⟩
        rcases Nat.lt_or_ge o i with y | y
        · rw [b o y] at h; cases h
        · have : o = i := by omega
          rw [this]; omega
    · rw [b, Int.toNat_natCast]
      by_cases q : c i = true ∧ ((k : Int) = -1 ∨ g i < g k)
      · rw [if_pos q]
        refine Or.inr ⟨i, by omega, rfl, q.1, fun o ho h => ?_⟩
        have h2 : g i < g k := q.2.resolve_left (by omega)
        rcases Nat.lt_or_ge o i with y | y
        · have := e o y h; omega
        · have : o = i := by omega
          rw [this]; omega
      · rw [if_neg q]
        refine Or.inr ⟨k, by omega, rfl, d, fun o ho h => ?_⟩
        rcases Nat.lt_or_ge o i with y | y
        · exact e o y h
        · have : o = i := by omega
          subst this
          have : ¬ g o < g k := fun z => q ⟨h, Or.inr z⟩
          omega
theorem bst_none {n : Nat} (h : ∀ o, o < n → c o = false) : bst c g n = -1 := by
  rcases bst_sp (c := c) (g := g) n with ⟨a, _⟩ | ⟨k, a, _, d, _⟩
  · exact a
  · rw [h k a] at d; cases d
theorem bst_eq {n b : Nat} (hb : b < n) (hc : c b = true) (hu : ∀ o, o < n → c o = true → o ≠ b → g b < g o) : bst c g n = (b : Int) := by
  rcases bst_sp (c := c) (g := g) n with ⟨_, a⟩ | ⟨k, a, a2, d, e⟩
  · rw [a b hb] at hc; cases hc
  · by_cases q : k = b
    · rw [a2, q]
    · have h1 := e b hb hc
      have h2 := hu k a d q
      omega
theorem bst_b (n : Nat) : bst c g n = -1 ∨ (0 ≤ bst c g n ∧ bst c g n < (n : Int)) := by
  rcases bst_sp (c := c) (g := g) n with ⟨a, _⟩ | ⟨k, a, a2, _, _⟩
  · exact Or.inl a
  · exact Or.inr (by omega)
end BST
section REFM
variable {S : ZS} {s m b : Nat} {many : Nat} {now : Int} {L P : List Nat}
def ahc (A : ZA) (s : Nat) (o : Nat) : Bool := decide (A 1 33 o = 0 ∧ o ≠ s ∧ A 1 32 s < A 1 32 o)
theorem lp_ahead12 (hs : s < 40) (hm : S.1 1 27 = (m : Int)) (hm40 : m ≤ 40) : F_X12_ahead (s : Int) S = some (bst (ahc S.2 s) (S.2 1 32) m) := by
  unfold F_X12_ahead F_X12_ahead_4
  refine zw_for (fun i => (bst (ahc S.2 s) (S.2 1 32) i, (i : Int))) m rfl (fun i hi => ?_) ?_
  · have hb := bst_b (c := ahc S.2 s) (g := S.2 1 32) i
    have f1 : zadd (i : Int) 1 = ((i + 1 : Nat) : Int) := by rw [zadd_ok (by omega) (by omega)]; rfl
    rw [bst_s]
    have hc : ahc S.2 s i = decide (S.2 1 33 i = 0 ∧ i ≠ s ∧ S.2 1 32 s < S.2 1 32 i) := rfl
    generalize bst (ahc S.2 s) (S.2 1 32) i = v at hb
    simp only [hm, Int.toNat_natCast, f1, hc, decide_eq_true_iff]
    rw [if_pos (by omega), if_pos (by omega)]
    by_cases c1 : S.2 1 33 i = 0
    · rw [if_pos c1]
      by_cases c2 : i = s
      · rw [if_pos (by omega), if_neg (fun z => z.1.2.1 c2)]
      · rw [if_neg (by omega), if_pos (by omega)]
        by_cases c3 : S.2 1 32 s < S.2 1 32 i
        · rw [if_pos c3]
          by_cases c4 : v = -1
          · rw [if_pos c4, if_pos ⟨⟨c1, c2, c3⟩, Or.inl c4⟩]
          · rw [if_neg c4, if_pos (by omega)]
            by_cases c5 : S.2 1 32 i < S.2 1 32 v.toNat
            · rw [if_pos c5, if_pos ⟨⟨c1, c2, c3⟩, Or.inr c5⟩]
            · rw [if_neg c5, if_neg (fun z => z.2.elim c4 c5)]
        · rw [if_neg c3, if_neg (fun z => c3 z.1.2.2)]
    · rw [if_neg c1, if_neg (fun z => c1 z.1.1)]
  · simp only [hm]
    rw [if_neg (by omega)]
def sec (A : ZA) (o : Nat) : Bool := decide (A 1 46 o = 0)
theorem lp_sel {R : (Int × ZS) ⊕ ZS} (hm : S.1 1 27 = (m : Int)) (hm40 : m ≤ 40)
    (hR : (if bst (sec S.2) (fun o => -(S.2 1 32 o)) m = -1 then some (.inr (.inl (0, S))) else if 0 ≤ bst (sec S.2) (fun o => -(S.2 1 32 o)) m ∧ bst (sec S.2) (fun o => -(S.2 1 32 o)) m < 40 then zlt (S.1, zuA S.2 1 46 (zset (S.2 1 46) (bst (sec S.2) (fun o => -(S.2 1 32 o)) m).toNat 1)) fun S20 => (F_X12_goes (bst (sec S.2) (fun o => -(S.2 1 32 o)) m) S20).bind fun S21 => some (.inr (.inl (1, S21))) else none) = (some (.inr R) : Option ((Int × Int) ⊕ ((Int × ZS) ⊕ ZS)))) :
    F_X12_ticks_56 (-1) 0 S = some R := by
  unfold F_X12_ticks_56
  refine zw_for (fun i => (bst (sec S.2) (fun o => -(S.2 1 32 o)) i, (i : Int))) m rfl (fun i hi => ?_) ?_
  · have hb := bst_b (c := sec S.2) (g := fun o => -(S.2 1 32 o)) i
    have f1 : zadd (i : Int) 1 = ((i + 1 : Nat) : Int) := by rw [zadd_ok (by omega) (by omega)]; rfl
    rw [bst_s]
    have hc : sec S.2 i = decide (S.2 1 46 i = 0) := rfl
    generalize bst (sec S.2) (fun o => -(S.2 1 32 o)) i = v at hb
    simp only [hm, Int.toNat_natCast, f1, hc, decide_eq_true_iff]
    rw [if_pos (by omega), if_pos (by omega)]
    by_cases c1 : S.2 1 46 i = 0
    · rw [if_pos c1]
      by_cases c4 : v = -1
      · rw [if_pos c4, if_pos ⟨c1, Or.inl c4⟩]
      · rw [if_neg c4, if_pos (by omega)]
        by_cases c5 : S.2 1 32 v.toNat < S.2 1 32 i
        · rw [if_pos c5, if_pos ⟨c1, Or.inr (by omega)⟩]
        · rw [if_neg c5, if_neg (fun z => z.2.elim c4 (fun y => c5 (by omega)))]
    · rw [if_neg c1, if_neg (fun z => c1 z.1)]
  · simp only [hm]
    rw [if_neg (by omega)]
    exact hR
/-- what the reference's tick asks beside TkOK -/
def TkR (m : Nat) (p : Nat → Nat → Int) (L P : List Nat) : Prop := (∀ a, a ∈ L ↔ a < m ∧ p 33 a = 0) ∧ (∀ a, a ∈ P ↔ a < m ∧ p 33 a = 1) ∧ P.Pairwise (fun a b => p 36 a < p 36 b) ∧ ∀ a, a < m → p 33 a ≠ 3 ∧ (0 ≤ p 32 a ∧ p 32 a ≤ 9000) ∧ (10 ≤ p 31 a ∧ p 31 a ≤ 70)
theorem mvN_pk {wy ro sp wear beat cor : Nat → Int} {p : Nat → Nat → Int} (hR : TkR m p L P) (hnd : L.Nodup) {i : Nat} (hi : i ≤ L.length) {q : MS} (hq : mvN wy ro sp wear beat cor many now L p P i = q) (hI : MInv wy now p L P i q) : (∀ a, a ∈ q.2.2.1 ↔ a < m ∧ q.1 33 a = 1) ∧ q.2.2.1.Nodup := by
  obtain ⟨h1, h2, h3, _⟩ := hR
  have hPn : P.Nodup := h3.imp (fun {a b} z y => by subst y; omega)
  have hout : ∀ a, (∀ k, k < i → L.getD k 0 ≠ a) → q.1 33 a = p 33 a := fun a ha => by rw [← hq]; exact mvN_out ha
  have hin : ∀ k, k < L.length → L.getD k 0 < m ∧ p 33 (L.getD k 0) = 0 := fun k hk => (h1 _).mp (by rw [getD_el hk]; exact List.getElem_mem hk)
  obtain ⟨m1, m2, m3, m4, m5, m6⟩ := hI
  rcases m6 with ⟨a, b⟩ | ⟨k, a, b, c, d, e, f⟩
  · rw [a]
    refine ⟨fun x => ?_, hPn⟩
    rw [h2 x]
    by_cases hx : ∃ k, k < i ∧ L.getD k 0 = x
    · obtain ⟨k, hk, rfl⟩ := hx
      have := hin k (by omega)
      have := b k hk
      constructor
      · intro z; omega
      · intro z; omega
    · rw [hout x (fun k hk z => hx ⟨k, hk, z⟩)]
  · rw [b]
    have hk := hin k (by omega)
    refine ⟨fun x => ?_, ?_⟩
    · rw [List.mem_append, h2 x, List.mem_singleton]
      by_cases hx : ∃ k, k < i ∧ L.getD k 0 = x
      · obtain ⟨k', hk', rfl⟩ := hx
        have h0 := hin k' (by omega)
        by_cases ek : k' = k
        · subst ek
          exact ⟨fun _ => ⟨h0.1, c⟩, fun _ => Or.inr rfl⟩
        · have := d k' hk' ek
          constructor
          · rintro (z | z)
            · omega
            · rw [z] at this; exact absurd c this
          · intro z; exact absurd z.2 this
      · rw [hout x (fun k hk z => hx ⟨k, hk, z⟩)]
        constructor
        · rintro (z | z)
          · exact z
          · exact absurd ⟨k, a, z.symm⟩ hx
        · exact fun z => Or.inl z
    · refine List.nodup_append.mpr ⟨hPn, by simp, ?_⟩
      intro x hx y hy
      have hy : y = L.getD k 0 := by simpa using hy
      rw [hy]
      intro z
      have := (h2 x).mp hx
      rw [z] at this
      omega
theorem lp_tk48 {Q : ZS → Prop} (hm : S.1 1 27 = (m : Int)) (t28 : S.1 1 28 = now) {now0 : Int} (hn : now = now0 + 1) (bn : 0 ≤ now ∧ now < 2147483648)
    (b0 : 40 ≤ S.2 1 4 0 ∧ S.2 1 4 0 ≤ 300) (b1 : 0 ≤ S.2 1 4 1 ∧ S.2 1 4 1 ≤ 300) (H : DrOK (S.2 1 4) (S.2 1 6) (S.2 1 7) (S.2 1 24) (S.2 1 25)) (C : CoOK (S.2 1 26) many) (k3 : S.1 1 26 = (many : Int))
    (hK : TkOK (S.2 1 4) (S.2 1 6) m now0 (S.2 1) L P) (hR : TkR m (S.2 1) L P) (hin : ∀ a, a ∈ L → S.2 1 32 a - 10 * S.2 1 31 a < 10 * S.2 1 4 0) (h46 : ∀ a, a < m → (S.2 1 46 a = 0 ↔ a ∈ L))
    (hQ : ∀ V : ZS, V.1 = S.1 → (∀ r, r ≠ 1 → V.2 r = S.2 r) → (∀ o, o ≠ 46 → V.2 1 o = (mvN (S.2 1 4) (S.2 1 6) (S.2 1 7) (S.2 1 24) (S.2 1 25) (S.2 1 26) many now L (S.2 1) P L.length).1 o) → zp (F_X12_ticks_136 0 V) Q) :
    zp (F_X12_ticks_48 1 S) Q := by
  have hnd := TkOK_nd hK
  have hinv := TkOK_inv (now := now) (cor := S.2 1 26) (many := many) H hK
  have hK2 := hK
  obtain ⟨t1, t2, t3, t4, t5, t6, t7⟩ := hK
  unfold F_X12_ticks_48
  refine zp_w (fun d st => (∃ i V, d = L.length - i + 1 ∧ i ≤ L.length ∧ st = ((1 : Int), V) ∧ V.1 = S.1 ∧ (∀ r, r ≠ 1 → V.2 r = S.2 r) ∧ (∀ o, o ≠ 46 → V.2 1 o = (mvN (S.2 1 4) (S.2 1 6) (S.2 1 7) (S.2 1 24) (S.2 1 25) (S.2 1 26) many now L (S.2 1) P i).1 o) ∧ (∀ a, a < m → (V.2 1 46 a = 0 ↔ ∃ j, i ≤ j ∧ j < L.length ∧ L.getD j 0 = a))) ∨
      (∃ V, st = ((0 : Int), V) ∧ V.1 = S.1 ∧ (∀ r, r ≠ 1 → V.2 r = S.2 r) ∧ (∀ o, o ≠ 46 → V.2 1 o = (mvN (S.2 1 4) (S.2 1 6) (S.2 1 7) (S.2 1 24) (S.2 1 25) (S.2 1 26) many now L (S.2 1) P L.length).1 o))) (fun d st hst => ?_) (L.length + 1) _ (Or.inl ⟨0, S, by omega, by omega, rfl, rfl, fun r _ => rfl, fun o _ => rfl, fun a ha => ?_⟩)
  rotate_left 1
  · rw [h46 a ha]
    constructor
    · intro z
      obtain ⟨j, hj, rfl⟩ := List.getElem_of_mem z
      exact ⟨j, by omega, hj, getD_el hj⟩
    · rintro ⟨j, _, hj, rfl⟩
      rw [getD_el hj]
      exact List.getElem_mem hj
  rcases hst with ⟨i, V, hd, hi, rfl, v1, v2, v3, v4⟩ | ⟨V, rfl, v1, v2, v3⟩
  rotate_left 1
  · refine zp_pos rfl (zp_in.mpr (zp_mono (hQ V v1 v2 v3) fun W hW => zor2_r.mpr hW))
  have hI := hinv i hi
  have hpk := mvN_pk hR hnd hi rfl hI
  have hcell : ∀ o j, i ≤ j → j < L.length → (mvN (S.2 1 4) (S.2 1 6) (S.2 1 7) (S.2 1 24) (S.2 1 25) (S.2 1 26) many now L (S.2 1) P i).1 o (L.getD j 0) = S.2 1 o (L.getD j 0) := fun o j h1 h2 => mvN_rest hnd h2 h1
  have hmo : ∀ o, o ≠ 32 → o ≠ 35 → o ≠ 33 → o ≠ 36 → o ≠ 46 → V.2 1 o = S.2 1 o := by
    intro o h1 h2 h3 h4 h5
    rw [v3 o h5]
    funext a
    exact mvN_o h1 h2 h3 h4 i
  have vm : V.1 1 27 = (m : Int) := by rw [v1]; exact hm
  refine zp_neg (by dsimp only; decide) ?_
  rcases Nat.lt_or_ge i L.length with hil | hil
  · have hdm : L.length - (i + 1) + 1 < d := by omega
    have hi1 : i + 1 ≤ L.length := hil
    have e : mvN (S.2 1 4) (S.2 1 6) (S.2 1 7) (S.2 1 24) (S.2 1 25) (S.2 1 26) many now L (S.2 1) P (i + 1) = mv1 (S.2 1 4) (S.2 1 6) (S.2 1 7) (S.2 1 24) (S.2 1 25) (S.2 1 26) many now (mvN (S.2 1 4) (S.2 1 6) (S.2 1 7) (S.2 1 24) (S.2 1 25) (S.2 1 26) many now L (S.2 1) P i) (L.getD i 0) := rfl
    have hmem : L.getD i 0 ∈ L := by rw [getD_el hil]; exact List.getElem_mem hil
    obtain ⟨hb1, hb2, hb3, hb4, hb5, hb6⟩ := t2 _ hmem
    have hsin := hin _ hmem
    have hbeh : ∀ j, i < j → j < L.length → S.2 1 32 (L.getD j 0) ≤ S.2 1 32 (L.getD i 0) - 10 * S.2 1 31 (L.getD i 0) := by
      intro j h1 h2
      rw [getD_el hil, getD_el h2]
      exact List.pairwise_iff_getElem.mp t3 i j hil h2 h1
    have hjm : ∀ j, j < L.length → L.getD j 0 ∈ L := fun j hj => by rw [getD_el hj]; exact List.getElem_mem hj
    have hout : ∀ o a, (∀ k, k < i → L.getD k 0 ≠ a) → (mvN (S.2 1 4) (S.2 1 6) (S.2 1 7) (S.2 1 24) (S.2 1 25) (S.2 1 26) many now L (S.2 1) P i).1 o a = S.2 1 o a := fun o a ha => mvN_out ha
    have hb3' : (P.length : Int) ≤ S.2 1 4 3 ∨ ∀ a, a ∈ L → S.2 1 37 a = 0 := by
      rcases t7 with z | z
      · exact Or.inr z.1
      · exact Or.inl z.2.2
    have hci := fun o => hcell o i (Nat.le_refl i) hil
    obtain ⟨s, hs⟩ : ∃ s, L.getD i 0 = s := ⟨_, rfl⟩
    rw [hs] at e hmem hb1 hb2 hb3 hb4 hb5 hb6 hsin hbeh hci
    -- it is the one that is chosen
    have hsel : bst (sec V.2) (fun o => -(V.2 1 32 o)) m = (s : Int) := by
      refine bst_eq hb1 (decide_eq_true ((v4 s hb1).mpr ⟨i, Nat.le_refl i, hil, hs⟩)) (fun o ho hc hne => ?_)
      obtain ⟨j, h1, h2, h3⟩ := (v4 o ho).mp (of_decide_eq_true hc)
      have hij : i < j := by
        rcases Nat.lt_or_ge i j with y | y
        · exact y
        · have : j = i := by omega
          rw [this, hs] at h3
          exact absurd h3.symm hne
      have := hbeh j hij h2
      rw [v3 32 (by decide), hci 32, ← h3, hcell 32 j h1 h2]
      omega
    generalize hqd : mvN (S.2 1 4) (S.2 1 6) (S.2 1 7) (S.2 1 24) (S.2 1 25) (S.2 1 26) many now L (S.2 1) P i = q at *
    obtain ⟨pi, N, Pk, lim⟩ := q
    obtain ⟨m1, m2, m3, m4, m5, m6⟩ := hI
    dsimp only at *
    have k31 : ∀ a, pi 31 a = S.2 1 31 a := fun a => by
      have := congrFun (hmo 31 (by decide) (by decide) (by decide) (by decide) (by decide)) a
      rw [v3 31 (by decide)] at this
      exact this
    have k34 : ∀ a, pi 34 a = S.2 1 34 a := fun a => by
      have := congrFun (hmo 34 (by decide) (by decide) (by decide) (by decide) (by decide)) a
      rw [v3 34 (by decide)] at this
      exact this
    have k37 : ∀ a, pi 37 a = S.2 1 37 a := fun a => by
      have := congrFun (hmo 37 (by decide) (by decide) (by decide) (by decide) (by decide)) a
      rw [v3 37 (by decide)] at this
      exact this
    have hah : ∃ r, F_X12_ahead (s : Int) (V.1, zuA V.2 1 46 (zset (V.2 1 46) s 1)) = some r ∧ ((r = -1 ∧ lim = 1000000) ∨ ∃ a : Nat, a < 40 ∧ r = (a : Int) ∧ lim = V.2 1 32 a - 10 * V.2 1 31 a ∧ (0 ≤ V.2 1 32 a ∧ V.2 1 32 a ≤ 10000) ∧ (10 ≤ V.2 1 31 a ∧ V.2 1 31 a ≤ 70)) := by
      refine ⟨_, lp_ahead12 (by omega) vm t1, ?_⟩
      have hcN : ∀ o, o < m → (ahc (zuA V.2 1 46 (zset (V.2 1 46) s 1)) s o = true ↔ o ∈ N) := by
        intro o ho
        have h0 : ahc (zuA V.2 1 46 (zset (V.2 1 46) s 1)) s o = decide (pi 33 o = 0 ∧ o ≠ s ∧ pi 32 s < pi 32 o) := by
          rw [← v3 33 (by decide), ← v3 32 (by decide)]
          rfl
        rw [h0, decide_eq_true_iff, m1 o, hci 32]
        constructor
        · rintro ⟨y1, y2, y3⟩
          refine ⟨?_, y1⟩
          by_cases hx : ∃ k, k < i ∧ L.getD k 0 = o
          · exact hx
          · exfalso
            have ho33 := hout 33 o (fun k hk z => hx ⟨k, hk, z⟩)
            have ho32 := hout 32 o (fun k hk z => hx ⟨k, hk, z⟩)
            have : o ∈ L := (hR.1 o).mpr ⟨ho, by omega⟩
            obtain ⟨j, hj, hj2⟩ := List.getElem_of_mem this
            rw [← getD_el hj] at hj2
            rcases Nat.lt_or_ge i j with w | w
            · have := hbeh j w hj
              rw [hj2] at this
              omega
            · rcases Nat.lt_or_ge j i with w2 | w2
              · exact hx ⟨j, w2, hj2⟩
              · have : j = i := by omega
                rw [this, hs] at hj2
                exact y2 hj2.symm
        · rintro ⟨hx, y1⟩
          have hoN := (m1 o).mpr ⟨hx, y1⟩
          have h3 := m3 o hoN i (Nat.le_refl i) hil
          rw [hs] at h3
          obtain ⟨k, hk, hk2⟩ := hx
          have hkb := (t2 _ (hjm k (by omega))).2.2.2.1
          rw [hk2] at hkb
          refine ⟨y1, fun z => ?_, by omega⟩
          subst z
          have := nd_ne hnd (show k < L.length by omega) hil (by omega)
          rw [hk2, hs] at this
          exact this rfl
      rcases m4 with ⟨y1, y2⟩ | ⟨N', a, y1, y2⟩
      · refine Or.inl ⟨bst_none fun o ho => ?_, y2⟩
        cases hc : ahc (zuA V.2 1 46 (zset (V.2 1 46) s 1)) s o
        · rfl
        · have := (hcN o ho).mp hc
          rw [y1] at this
          cases this
      · have ha : a ∈ N := by rw [y1]; simp
        have ha2 := (m1 a).mp ha
        obtain ⟨⟨k, hk, hk2⟩, _⟩ := ha2
        have hkb := t2 _ (hjm k (by omega))
        have h5 := (m5 k hk).1
        rw [hk2] at hkb h5
        refine Or.inr ⟨a, by omega, bst_eq hkb.1 ((hcN a hkb.1).mpr ha) (fun o ho hc hne => ?_), ?_, ?_, ?_⟩
        · have hoN := (hcN o ho).mp hc
          have e32 : ∀ x, zuA V.2 1 46 (zset (V.2 1 46) s 1) 1 32 x = pi 32 x := fun x => by rw [zuA_o (by decide), v3 32 (by decide)]
          show zuA V.2 1 46 (zset (V.2 1 46) s 1) 1 32 a < zuA V.2 1 46 (zset (V.2 1 46) s 1) 1 32 o
          rw [e32, e32]
          rw [y1] at hoN
          rcases List.mem_append.mp hoN with w | w
          · rw [y1] at m2
            have h6 := (List.pairwise_append.mp m2).2.2 o w a (by simp)
            have hoL : o ∈ N := by rw [y1]; exact List.mem_append.mpr (Or.inl w)
            obtain ⟨⟨k', hk', hk2'⟩, _⟩ := (m1 o).mp hoL
            have hkb' := (t2 _ (hjm k' (by omega))).2.2.2.1
            rw [hk2'] at hkb'
            omega
          · have : o = a := by simpa using w
            exact absurd this hne
        · rw [v3 32 (by decide), v3 31 (by decide), k31]
          exact y2
        · rw [v3 32 (by decide)]
          omega
        · rw [v3 31 (by decide), k31]
          exact hkb.2.2.2.1
    have hcnt : cnt (fun e => decide (zuA V.2 1 46 (zset (V.2 1 46) s 1) 1 33 e = 1)) m = Pk.length := by
      rw [zuA_o (by decide), v3 33 (by decide)]
      exact (len_cnt m Pk hpk.2 (fun a => by rw [hpk.1 a, decide_eq_true_iff])).symm
    have hpkl : S.2 1 37 s = 1 → (Pk.length : Int) ≤ S.2 1 4 3 := by
      intro z
      rcases hb3' with y | y
      · rcases m6 with ⟨a, _⟩ | ⟨k, _, b, _, _, f, _⟩
        · rw [a]; exact y
        · rw [b, List.length_append, List.length_singleton]; omega
      · rw [y s hmem] at z; omega
    have g4 : V.2 1 4 = S.2 1 4 := hmo 4 (by decide) (by decide) (by decide) (by decide) (by decide)
    have g6 : V.2 1 6 = S.2 1 6 := hmo 6 (by decide) (by decide) (by decide) (by decide) (by decide)
    have g7 : V.2 1 7 = S.2 1 7 := hmo 7 (by decide) (by decide) (by decide) (by decide) (by decide)
    have g24 : V.2 1 24 = S.2 1 24 := hmo 24 (by decide) (by decide) (by decide) (by decide) (by decide)
    have g25 : V.2 1 25 = S.2 1 25 := hmo 25 (by decide) (by decide) (by decide) (by decide) (by decide)
    have g26 : V.2 1 26 = S.2 1 26 := hmo 26 (by decide) (by decide) (by decide) (by decide) (by decide)
    obtain ⟨X, hX⟩ : ∃ X : ZS, X = (V.1, zuA V.2 1 46 (zset (V.2 1 46) s 1)) := ⟨_, rfl⟩
    have X1 : X.1 = S.1 := by rw [hX]; exact v1
    have Xo : ∀ o, o ≠ 46 → X.2 1 o = V.2 1 o := fun o ho => by rw [hX]; exact zuA_o ho
    have x4 : X.2 1 4 = S.2 1 4 := (Xo 4 (by decide)).trans g4
    have x6 : X.2 1 6 = S.2 1 6 := (Xo 6 (by decide)).trans g6
    have x7 : X.2 1 7 = S.2 1 7 := (Xo 7 (by decide)).trans g7
    have x24 : X.2 1 24 = S.2 1 24 := (Xo 24 (by decide)).trans g24
    have x25 : X.2 1 25 = S.2 1 25 := (Xo 25 (by decide)).trans g25
    have x26 : X.2 1 26 = S.2 1 26 := (Xo 26 (by decide)).trans g26
    have xp : ∀ o, o ≠ 46 → X.2 1 o = pi o := fun o ho => (Xo o ho).trans (v3 o ho)
    rw [← hX] at hah
    have hcnt' : cnt (fun e => decide (X.2 1 33 e = 1)) m = Pk.length := by rw [hX]; exact hcnt
    have hgo := lp_goes12 (S := X) (s := s) (m := m) (p := Pk.length) (many := many) (now := now) (h := pi 32 s) (ln := pi 31 s) (side := pi 34 s) (turned := pi 37 s) (st := pi 35 s) (limit := lim) (q := tqq (S.2 1 4) (S.2 1 6) (S.2 1 7) (S.2 1 24) (S.2 1 25) (S.2 1 26) many now (pi 31 s) (pi 32 s) (pi 35 s) (pi 34 s) (pi 37 s) lim)
      (by omega) (by rw [X1]; exact hm) t1 (by rw [X1]; exact t28) bn hcnt' (by rw [x4]; rw [hci 37]; exact hpkl) (by rw [x4]; exact b0) (by rw [x4]; exact b1)
      (by rw [xp 32 (by decide)]) (by rw [xp 31 (by decide)]) (by rw [xp 34 (by decide)]) (by rw [xp 37 (by decide)]) (by rw [xp 35 (by decide)]) (by rw [xp 33 (by decide), hci 33]; exact hb2)
      (by rw [hci 32]; exact hb3) (by rw [hci 31]; exact hb4) (by rw [hci 37]; exact hb5) (by rw [hci 35]; exact hb6) (by rw [x4, hci 32, hci 31]; exact hsin) (by rw [x4, x6, x7, x24, x25]; exact H) (by rw [x26]; exact C) (by rw [X1]; exact k3)
      (by
        obtain ⟨r, hr1, hr2⟩ := hah
        refine ⟨r, hr1, hr2.imp id (fun ⟨a, z1, z2, z3, z4, z5⟩ => ⟨a, z1, z2, ?_, ?_, ?_⟩)⟩
        · rw [Xo 32 (by decide), Xo 31 (by decide)]; exact z3
        · rw [Xo 32 (by decide)]; exact z4
        · rw [Xo 31 (by decide)]; exact z5)
      (by rw [x4, x6, x7, x24, x25, x26])
    rw [x4] at hgo
    have hsl := lp_sel (S := V) (m := m) (R := .inl (1, (X.1, mA X.2 s (tqq (S.2 1 4) (S.2 1 6) (S.2 1 7) (S.2 1 24) (S.2 1 25) (S.2 1 26) many now (pi 31 s) (pi 32 s) (pi 35 s) (pi 34 s) (pi 37 s) lim).1 (if twt (S.2 1 4) (pi 31 s) (tqq (S.2 1 4) (S.2 1 6) (S.2 1 7) (S.2 1 24) (S.2 1 25) (S.2 1 26) many now (pi 31 s) (pi 32 s) (pi 35 s) (pi 34 s) (pi 37 s) lim).1 (pi 34 s) (pi 37 s) then 0 else (tqq (S.2 1 4) (S.2 1 6) (S.2 1 7) (S.2 1 24) (S.2 1 25) (S.2 1 26) many now (pi 31 s) (pi 32 s) (pi 35 s) (pi 34 s) (pi 37 s) lim).2)
      (if twt (S.2 1 4) (pi 31 s) (tqq (S.2 1 4) (S.2 1 6) (S.2 1 7) (S.2 1 24) (S.2 1 25) (S.2 1 26) many now (pi 31 s) (pi 32 s) (pi 35 s) (pi 34 s) (pi 37 s) lim).1 (pi 34 s) (pi 37 s) ∧ (Pk.length : Int) < S.2 1 4 3 then 1 else if 10 * S.2 1 4 0 ≤ (tqq (S.2 1 4) (S.2 1 6) (S.2 1 7) (S.2 1 24) (S.2 1 25) (S.2 1 26) many now (pi 31 s) (pi 32 s) (pi 35 s) (pi 34 s) (pi 37 s) lim).1 - 10 * pi 31 s then 2 else 0)
      (if twt (S.2 1 4) (pi 31 s) (tqq (S.2 1 4) (S.2 1 6) (S.2 1 7) (S.2 1 24) (S.2 1 25) (S.2 1 26) many now (pi 31 s) (pi 32 s) (pi 35 s) (pi 34 s) (pi 37 s) lim).1 (pi 34 s) (pi 37 s) ∧ (Pk.length : Int) < S.2 1 4 3 then now else X.2 1 36 s)))) vm t1 (by
        rw [hsel, if_neg (by omega), if_pos (by omega), Int.toNat_natCast, ← hX]
        unfold zlt
        dsimp only
        rw [hgo]
        rfl)
    rw [zp_eq hsl, zor2_l]
    refine ⟨L.length - (i + 1) + 1, hdm, Or.inl ⟨i + 1, _, rfl, hi1, rfl, X1, fun r hr => ?_, fun o ho => ?_, fun a ha => ?_⟩⟩
    · funext o j
      dsimp only
      rw [mA_ap, if_neg (fun z => hr z.1), hX]
      show zuA V.2 1 46 (zset (V.2 1 46) s 1) r o j = _
      rw [zuA_R hr, v2 r hr]
    · rw [e]
      unfold mv1 mvp mvq
      funext j
      dsimp only
      rw [mA_ap, xp o ho, xp 36 (by decide)]
      unfold pmv
      simp only [true_and]
    · dsimp only
      have e46 : mA X.2 s (tqq (S.2 1 4) (S.2 1 6) (S.2 1 7) (S.2 1 24) (S.2 1 25) (S.2 1 26) many now (pi 31 s) (pi 32 s) (pi 35 s) (pi 34 s) (pi 37 s) lim).1 (if twt (S.2 1 4) (pi 31 s) (tqq (S.2 1 4) (S.2 1 6) (S.2 1 7) (S.2 1 24) (S.2 1 25) (S.2 1 26) many now (pi 31 s) (pi 32 s) (pi 35 s) (pi 34 s) (pi 37 s) lim).1 (pi 34 s) (pi 37 s) then 0 else (tqq (S.2 1 4) (S.2 1 6) (S.2 1 7) (S.2 1 24) (S.2 1 25) (S.2 1 26) many now (pi 31 s) (pi 32 s) (pi 35 s) (pi 34 s) (pi 37 s) lim).2)
          (if twt (S.2 1 4) (pi 31 s) (tqq (S.2 1 4) (S.2 1 6) (S.2 1 7) (S.2 1 24) (S.2 1 25) (S.2 1 26) many now (pi 31 s) (pi 32 s) (pi 35 s) (pi 34 s) (pi 37 s) lim).1 (pi 34 s) (pi 37 s) ∧ (Pk.length : Int) < S.2 1 4 3 then 1 else if 10 * S.2 1 4 0 ≤ (tqq (S.2 1 4) (S.2 1 6) (S.2 1 7) (S.2 1 24) (S.2 1 25) (S.2 1 26) many now (pi 31 s) (pi 32 s) (pi 35 s) (pi 34 s) (pi 37 s) lim).1 - 10 * pi 31 s then 2 else 0)
          (if twt (S.2 1 4) (pi 31 s) (tqq (S.2 1 4) (S.2 1 6) (S.2 1 7) (S.2 1 24) (S.2 1 25) (S.2 1 26) many now (pi 31 s) (pi 32 s) (pi 35 s) (pi 34 s) (pi 37 s) lim).1 (pi 34 s) (pi 37 s) ∧ (Pk.length : Int) < S.2 1 4 3 then now else X.2 1 36 s) 1 46 a = if a = s then 1 else V.2 1 46 a := by
        rw [mA_ap]
        simp only [true_and, Nat.reduceEqDiff, reduceIte]
        rw [hX]
        simp only [zuA_s, zset_ap]
        split <;> rfl
      rw [e46]
      by_cases ea : a = s
      · rw [if_pos ea]
        constructor
        · intro z; omega
        · rintro ⟨j, h1, h2, h3⟩
          rw [ea, ← hs] at h3
          exact absurd h3 (nd_ne hnd h2 hil (by omega))
      · rw [if_neg ea, v4 a ha]
        constructor
        · rintro ⟨j, h1, h2, h3⟩
          refine ⟨j, ?_, h2, h3⟩
          rcases Nat.lt_or_ge i j with w | w
          · omega
          · have : j = i := by omega
            rw [this, hs] at h3
            exact absurd h3.symm ea
        · rintro ⟨j, h1, h2, h3⟩
          exact ⟨j, by omega, h2, h3⟩
  · have : i = L.length := by omega
    subst this
    have hsel : bst (sec V.2) (fun o => -(V.2 1 32 o)) m = -1 := by
      refine bst_none fun o ho => decide_eq_false fun z => ?_
      obtain ⟨j, h1, h2, _⟩ := (v4 o ho).mp z
      omega
    have hsl := lp_sel (S := V) (m := m) (R := .inl (0, V)) vm t1 (by rw [hsel, if_pos rfl])
    rw [zp_eq hsl, zor2_l]
    exact ⟨0, by omega, Or.inr ⟨V, rfl, v1, v2, v3⟩⟩
end REFM
