/-! creases -/
def crl (ro : Nat → Int) (h len : Int) : Nat → List Int
  | 0 => []
  | r + 1 => crl ro h len r ++ (if 0 ≤ h - ro r ∧ h - ro r < len then [h - ro r] else [])
section CRL
variable {ro : Nat → Int} {h len : Int}
theorem crl_len : ∀ n, (crl ro h len n).length ≤ n
  | 0 => Nat.le_refl 0
  | n + 1 => by
    have := crl_len n
    unfold crl
    rw [List.length_append]
    split <;> simp <;> omega
theorem crl_nn : ∀ n, ∀ x ∈ crl ro h len n, 0 ≤ x
  | 0, x, hx => by cases hx
  | n + 1, x, hx => by
    unfold crl at hx
    rcases List.mem_append.mp hx with q | q
    · exact crl_nn n x q
    · split at q
      · rename_i c
        rw [List.mem_singleton.mp q]
        exact c.1
      · cases q
def crp (ro : Nat → Int) (h len : Int) (k : Nat) (r : Nat) : Bool := decide ((0 ≤ h - ro r ∧ h - ro r < len) ∧ (crl ro h len r).length = k)
theorem crl_fnd (k : Nat) : ∀ n, (k < (crl ro h len n).length ↔ fnd (crp ro h len k) n < n) ∧ (crl ro h len n).getD k (-1) = if fnd (crp ro h len k) n < n then h - ro (fnd (crp ro h len k) n) else -1
  | 0 => ⟨by simp [crl], by simp [crl]⟩
  | n + 1 => by
    obtain ⟨i1, i2⟩ := crl_fnd k n
    have hl := fnd_le (crp ro h len k) n
    have e : fnd (crp ro h len k) (n + 1) = if fnd (crp ro h len k) n < n then fnd (crp ro h len k) n else if crp ro h len k n then n else n + 1 := rfl
    have ec : crl ro h len (n + 1) = crl ro h len n ++ (if 0 ≤ h - ro n ∧ h - ro n < len then [h - ro n] else []) := rfl
    by_cases c : k < (crl ro h len n).length
    · have c2 := i1.mp c
      rw [if_pos c2] at e i2
      rw [e, if_pos (show fnd (crp ro h len k) n < n + 1 by omega), ec]
      refine ⟨⟨fun _ => by omega, fun _ => by rw [List.length_append]; omega⟩, ?_⟩
      rw [← i2, List.getD_eq_getElem?_getD, List.getD_eq_getElem?_getD, List.getElem?_append_left c]
    · have c2 : ¬fnd (crp ro h len k) n < n := fun z => c (i1.mpr z)
      rw [if_neg c2] at e
      by_cases d : 0 ≤ h - ro n ∧ h - ro n < len
      · by_cases d2 : (crl ro h len n).length = k
        · have p : crp ro h len k n = true := decide_eq_true ⟨d, d2⟩
          rw [if_pos p] at e
          rw [e, if_pos (show n < n + 1 by omega), ec, if_pos d]
          refine ⟨⟨fun _ => by omega, fun _ => by rw [List.length_append, List.length_singleton]; omega⟩, ?_⟩
          rw [List.getD_eq_getElem?_getD, ← d2, List.getElem?_append_right (Nat.le_refl _), Nat.sub_self]
          rfl
        · have p : ¬crp ro h len k n = true := fun z => d2 (of_decide_eq_true z).2
          rw [if_neg p] at e
          rw [e, if_neg (show ¬n + 1 < n + 1 by omega), ec, if_pos d]
          refine ⟨⟨fun z => ?_, fun z => by omega⟩, ?_⟩
          · rw [List.length_append, List.length_singleton] at z; omega
          · rw [List.getD_eq_getElem?_getD, List.getElem?_eq_none (by rw [List.length_append, List.length_singleton]; omega)]
            rfl
      · have p : ¬crp ro h len k n = true := fun z => d (of_decide_eq_true z).1
        rw [if_neg p] at e
        rw [e, if_neg (show ¬n + 1 < n + 1 by omega), ec, if_neg d]
        refine ⟨⟨fun z => ?_, fun z => by omega⟩, ?_⟩
        · rw [List.length_append, List.length_nil] at z; omega
        · rw [List.getD_eq_getElem?_getD, List.getElem?_eq_none (by rw [List.length_append, List.length_nil]; omega)]
          rfl
/-- the first so many of a list are a row's -/
def crq (ro : Nat → Int) (h len : Int) (row : List Int) (r : Nat) : Bool := decide ((0 ≤ h - ro r ∧ h - ro r < len) ∧ row.getD (crl ro h len r).length (-1) ≠ h - ro r)
theorem crl_row (row : List Int) : ∀ n, (∀ r, r < n → crq ro h len row r = false) ↔ ∀ i, i < (crl ro h len n).length → row.getD i (-1) = (crl ro h len n).getD i (-1)
  | 0 => ⟨fun _ i hi => by simp [crl] at hi, fun _ r hr => by omega⟩
  | n + 1 => by
    have ih := crl_row row n
    have ec : crl ro h len (n + 1) = crl ro h len n ++ (if 0 ≤ h - ro n ∧ h - ro n < len then [h - ro n] else []) := rfl
    have el : ∀ i, i < (crl ro h len n).length → (crl ro h len (n + 1)).getD i (-1) = (crl ro h len n).getD i (-1) := by
      intro i hi
      rw [ec, List.getD_eq_getElem?_getD, List.getD_eq_getElem?_getD, List.getElem?_append_left hi]
    by_cases d : 0 ≤ h - ro n ∧ h - ro n < len
    · have er : (crl ro h len (n + 1)).getD (crl ro h len n).length (-1) = h - ro n := by
        rw [ec, if_pos d, List.getD_eq_getElem?_getD, List.getElem?_append_right (Nat.le_refl _), Nat.sub_self]
        rfl
      have ln : (crl ro h len (n + 1)).length = (crl ro h len n).length + 1 := by rw [ec, if_pos d, List.length_append, List.length_singleton]
      constructor
      · intro H i hi
        rw [ln] at hi
        by_cases q : i < (crl ro h len n).length
        · rw [el i q]
          exact ih.mp (fun r hr => H r (by omega)) i q
        · have qe : i = (crl ro h len n).length := by omega
          subst qe
          rw [er]
          have := of_decide_eq_false (H n (by omega))
          exact Classical.byContradiction fun z => this ⟨d, z⟩
      · intro H r hr
        by_cases q : r < n
        · exact ih.mpr (fun i hi => by rw [H i (by omega), el i hi]) r q
        · have qe : r = n := by omega
          subst qe
          refine decide_eq_false fun z => z.2 ?_
          rw [H _ (by omega), er]
    · have ln : (crl ro h len (n + 1)).length = (crl ro h len n).length := by rw [ec, if_neg d, List.length_append, List.length_nil]; omega
      constructor
      · intro H i hi
        rw [ln] at hi
        rw [el i hi]
        exact ih.mp (fun r hr => H r (by omega)) i hi
      · intro H r hr
        by_cases q : r < n
        · exact ih.mpr (fun i hi => by rw [H i (by omega), el i hi]) r q
        · have qe : r = n := by omega
          subst qe
          exact decide_eq_false fun z => d z.1
/-- just these creases -/
def crf (ro : Nat → Int) (h len : Int) (n : Nat) (a b c : Int) : Bool := decide ((crl ro h len n).getD 0 (-1) = a ∧ (crl ro h len n).getD 1 (-1) = b ∧ (crl ro h len n).getD 2 (-1) = c ∧ (crl ro h len n).getD 3 (-1) = -1)
def crt (a b c : Int) : Nat := if a = -1 then 0 else if b = -1 then 1 else if c = -1 then 2 else 3
theorem crf_iff {n : Nat} {a b c : Int} (hb : b < a ∨ (a = -1 ∧ b = -1)) (hc : c < b ∨ (b = -1 ∧ c = -1)) (h1 : -1 ≤ c) :
    crf ro h len n a b c = true ↔ (∀ r, r < n → crq ro h len [a, b, c] r = false) ∧ (crl ro h len n).length = crt a b c := by
  rw [crl_row]
  have nn := crl_nn (ro := ro) (h := h) (len := len) n
  unfold crf
  rw [decide_eq_true_iff]
  generalize crl ro h len n = l at nn ⊢
  unfold crt
  match l, nn with
  | [], nn =>
    show ((-1 : Int) = a ∧ (-1 : Int) = b ∧ (-1 : Int) = c ∧ (-1 : Int) = -1) ↔ (∀ i, i < 0 → [a, b, c].getD i (-1) = ([] : List Int).getD i (-1)) ∧ 0 = if a = -1 then 0 else if b = -1 then 1 else if c = -1 then 2 else 3
    constructor
    · rintro ⟨q0, q1, q2, _⟩
      refine ⟨fun i hi => ?_, ?_⟩
      · omega
      · (repeat' split) <;> omega
    · rintro ⟨H, q⟩
      (repeat' split at q) <;> omega
  | [x], nn =>
    have x0 := nn x (by simp)
    show (x = a ∧ (-1 : Int) = b ∧ (-1 : Int) = c ∧ (-1 : Int) = -1) ↔ (∀ i, i < 1 → [a, b, c].getD i (-1) = ([x] : List Int).getD i (-1)) ∧ 1 = if a = -1 then 0 else if b = -1 then 1 else if c = -1 then 2 else 3
    constructor
    · rintro ⟨q0, q1, q2, _⟩
      refine ⟨fun i hi => ?_, ?_⟩
      · rcases (show i = 0 by omega) with rfl
        · exact q0.symm
      · (repeat' split) <;> omega
    · rintro ⟨H, q⟩
      have h0' : a = x := H 0 (by omega)
      (repeat' split at q) <;> omega
  | [x, y], nn =>
    have x0 := nn x (by simp)
    have y0 := nn y (by simp)
    show (x = a ∧ y = b ∧ (-1 : Int) = c ∧ (-1 : Int) = -1) ↔ (∀ i, i < 2 → [a, b, c].getD i (-1) = ([x, y] : List Int).getD i (-1)) ∧ 2 = if a = -1 then 0 else if b = -1 then 1 else if c = -1 then 2 else 3
    constructor
    · rintro ⟨q0, q1, q2, _⟩
      refine ⟨fun i hi => ?_, ?_⟩
      · rcases (show i = 0 ∨ i = 1 by omega) with rfl | rfl
        · exact q0.symm
        · exact q1.symm
      · (repeat' split) <;> omega
    · rintro ⟨H, q⟩
      have h0' : a = x := H 0 (by omega)
      have h1' : b = y := H 1 (by omega)
      (repeat' split at q) <;> omega
  | [x, y, z], nn =>
    have x0 := nn x (by simp)
    have y0 := nn y (by simp)
    have z0 := nn z (by simp)
    show (x = a ∧ y = b ∧ z = c ∧ (-1 : Int) = -1) ↔ (∀ i, i < 3 → [a, b, c].getD i (-1) = ([x, y, z] : List Int).getD i (-1)) ∧ 3 = if a = -1 then 0 else if b = -1 then 1 else if c = -1 then 2 else 3
    constructor
    · rintro ⟨q0, q1, q2, _⟩
      refine ⟨fun i hi => ?_, ?_⟩
      · rcases (show i = 0 ∨ i = 1 ∨ i = 2 by omega) with rfl | rfl | rfl
        · exact q0.symm
        · exact q1.symm
        · exact q2.symm
      · (repeat' split) <;> omega
    · rintro ⟨H, q⟩
      have h0' : a = x := H 0 (by omega)
      have h1' : b = y := H 1 (by omega)
      have h2' : c = z := H 2 (by omega)
      (repeat' split at q) <;> omega
  | x :: y :: z :: u :: t, nn =>
    have u0 := nn u (by simp)
    show (x = a ∧ y = b ∧ z = c ∧ u = -1) ↔ (∀ i, i < t.length + 1 + 1 + 1 + 1 → [a, b, c].getD i (-1) = (x :: y :: z :: u :: t).getD i (-1)) ∧ t.length + 1 + 1 + 1 + 1 = if a = -1 then 0 else if b = -1 then 1 else if c = -1 then 2 else 3
    constructor
    · rintro ⟨_, _, _, q⟩; omega
    · rintro ⟨H, q⟩
      exfalso
      (repeat' split at q) <;> omega
end CRL
section CRE
variable {S : ZS} {W n : Nat} {h len a b c : Int}
theorem lp_creaseOf {ro : Nat → Int} (k : Nat) (hk : k < 4) (hn : n ≤ 10) (hm : S.2 1 4 6 = (n : Int)) (hro : ∀ r, r < n → S.2 1 6 r = ro r ∧ 1 ≤ ro r ∧ ro r ≤ 300) (hh : 0 ≤ h ∧ h ≤ 300) (hl : 10 ≤ len ∧ len ≤ 60) :
    F_X12_creaseOf h len (k : Int) S = some ((crl ro h len n).getD k (-1)) := by
  unfold F_X12_creaseOf F_X12_creaseOf_6
  rw [(crl_fnd k n).2]
  refine zw_fnd (crp ro h len k) (fun r => (((crl ro h len r).length : Int), (r : Int))) n (fun r => h - ro r) (-1) rfl (fun r hr hp => ?_) (fun r hr hp => ?_) ?_
  · obtain ⟨q1, q2, q3⟩ := hro r hr
    have hp := of_decide_eq_false hp
    have hlen := crl_len (ro := ro) (h := h) (len := len) r
    simp (disch := omega) only [hm, if_pos, Int.toNat_natCast, q1]
    rw [zsub_ok (by omega) (by omega), zadd_ok (by omega) (by omega), zadd_ok (by omega) (by omega)]
    have ec : crl ro h len (r + 1) = crl ro h len r ++ (if 0 ≤ h - ro r ∧ h - ro r < len then [h - ro r] else []) := rfl
    by_cases d : 0 ≤ h - ro r ∧ h - ro r < len
    · rw [if_pos (by omega), if_neg (by omega), if_neg (fun z => hp ⟨d, by omega⟩), ec, if_pos d, List.length_append, List.length_singleton]
      rfl
    · rw [ec, if_neg d, List.append_nil]
      by_cases d2 : h - len < ro r
      · rw [if_pos d2, if_pos (by omega)]
        rfl
      · rw [if_neg d2]
        rfl
  · obtain ⟨q1, q2, q3⟩ := hro r hr
    have hp := of_decide_eq_true hp
    simp (disch := omega) only [hm, if_pos, if_neg, zsub_ok, Int.toNat_natCast, q1]
  · simp (disch := omega) only [hm, if_neg]
theorem lp_creasesAre {ro : Nat → Int} (hn : n ≤ 10) (hm : S.1 W 1 = (n : Int)) (hro : ∀ r, r < n → S.2 W 3 r = ro r ∧ 1 ≤ ro r ∧ ro r ≤ 300) (hh : 0 ≤ h ∧ h ≤ 300)
    (hb : b < a ∨ (a = -1 ∧ b = -1)) (hc : c < b ∨ (b = -1 ∧ c = -1)) (h1 : -1 ≤ c) :
    F_X10_creasesAre W h len a b c S = some (if crf ro h len n a b c then 1 else 0) := by
  unfold F_X10_creasesAre F_X10_creasesAre_6
  have key : ∀ (v : Int), (if crf ro h len n a b c then (1 : Int) else 0) = if fnd (crq ro h len [a, b, c]) n < n then 0 else (if (crl ro h len n).length = crt a b c then 1 else 0) := by
    intro _
    have hi := crf_iff (ro := ro) (h := h) (len := len) (n := n) hb hc h1
    have hl := fnd_le (crq ro h len [a, b, c]) n
    by_cases q : fnd (crq ro h len [a, b, c]) n < n
    · rw [if_pos q, if_neg]
      intro z
      have := (hi.mp z).1 _ q
      rw [fnd_yes q] at this
      cases this
    · rw [if_neg q]
      have hno : ∀ r, r < n → crq ro h len [a, b, c] r = false := fun r hr => fnd_no (p := crq ro h len [a, b, c]) (n := n) (by omega)
      by_cases q2 : (crl ro h len n).length = crt a b c
      · rw [if_pos q2, if_pos (hi.mpr ⟨hno, q2⟩)]
      · rw [if_neg q2, if_neg (fun z => q2 (hi.mp z).2)]
  rw [key 0]
  refine zw_fnd (crq ro h len [a, b, c]) (fun r => (((crl ro h len r).length : Int), (r : Int))) n (fun _ => 0) _ rfl (fun r hr hp => ?_) (fun r hr hp => ?_) ?_
  · obtain ⟨q1, q2, q3⟩ := hro r hr
    have hp := of_decide_eq_false hp
    have hlen := crl_len (ro := ro) (h := h) (len := len) r
    simp (disch := omega) only [hm, if_pos, Int.toNat_natCast, q1]
    rw [zsub_ok (by omega) (by omega), zadd_ok (by omega) (by omega), zadd_ok (by omega) (by omega)]
    have ec : crl ro h len (r + 1) = crl ro h len r ++ (if 0 ≤ h - ro r ∧ h - ro r < len then [h - ro r] else []) := rfl
    by_cases d : 0 ≤ h - ro r ∧ h - ro r < len
    · have hd : [a, b, c].getD (crl ro h len r).length (-1) = h - ro r := Classical.byContradiction fun z => hp ⟨d, z⟩
      rw [if_neg (by omega), if_pos d.2, ec, if_pos d, List.length_append, List.length_singleton]
      generalize (crl ro h len r).length = L at hd ⊢
      match L, hd with
      | 0, hd => rw [if_pos (by omega), if_pos (show a = h - ro r from hd)]; rfl
      | 1, hd => rw [if_neg (by omega), if_pos (by omega), if_pos (show b = h - ro r from hd)]; rfl
      | 2, hd => rw [if_neg (by omega), if_neg (by omega), if_pos (by omega), if_pos (show c = h - ro r from hd)]; rfl
      | L + 3, hd => rw [if_neg (by omega), if_neg (by omega), if_neg (by omega), if_pos (show (-1 : Int) = h - ro r from hd)]; rfl
    · rw [ec, if_neg d, List.append_nil]
      by_cases d2 : h - ro r < 0
      · rw [if_pos d2]
        rfl
      · rw [if_neg d2, if_neg (by omega)]
        rfl
  · obtain ⟨q1, q2, q3⟩ := hro r hr
    obtain ⟨d, hd⟩ := of_decide_eq_true hp
    simp (disch := omega) only [hm, if_pos, Int.toNat_natCast, q1]
    rw [zsub_ok (by omega) (by omega), if_neg (by omega), if_pos d.2]
    generalize (crl ro h len r).length = L at hd ⊢
    match L, hd with
    | 0, hd => rw [if_pos (by omega), if_neg (show ¬a = h - ro r from hd)]
    | 1, hd => rw [if_neg (by omega), if_pos (by omega), if_neg (show ¬b = h - ro r from hd)]
    | 2, hd => rw [if_neg (by omega), if_neg (by omega), if_pos (by omega), if_neg (show ¬c = h - ro r from hd)]
    | L + 3, hd => rw [if_neg (by omega), if_neg (by omega), if_neg (by omega), if_neg (show ¬(-1 : Int) = h - ro r from hd)]
  · simp (disch := omega) only [hm, if_neg]
    unfold crt
    generalize (crl ro h len n).length = L
    by_cases qa : a = -1
    · rw [if_pos qa, if_pos qa]
      by_cases e : L = 0
      · rw [if_pos (by omega), if_pos e]
      · rw [if_neg (by omega), if_neg e]
    rw [if_neg qa, if_neg qa]
    by_cases qb : b = -1
    · rw [if_pos qb, if_pos qb]
      by_cases e : L = 1
      · rw [if_pos (by omega), if_pos e]
      · rw [if_neg (by omega), if_neg e]
    rw [if_neg qb, if_neg qb]
    by_cases qc : c = -1
    · rw [if_pos qc, if_pos qc]
      by_cases e : L = 2
      · rw [if_pos (by omega), if_pos e]
      · rw [if_neg (by omega), if_neg e]
    rw [if_neg qc, if_neg qc]
    by_cases e : L = 3
    · rw [if_pos (by omega), if_pos e]
    · rw [if_neg (by omega), if_neg e]
end CRE
section CRO
variable {S : ZS} {n m : Nat} {len a b c x : Int}
def crh (ro : Nat → Int) (len : Int) (n : Nat) (a b c : Int) (i : Nat) : Bool := crf ro ((i : Int) + 1) len n a b c
def crx (ro : Nat → Int) (len : Int) (n : Nat) (a b c x : Int) (i : Nat) : Bool := decide (crh ro len n a b c i = true ∧ (cnt (crh ro len n a b c) i : Int) = x)
def crr (ro : Nat → Int) (len : Int) (n : Nat) (a b c x : Int) (m : Nat) : Int :=
  if fnd (crx ro len n a b c x) m < m then (fnd (crx ro len n a b c x) m : Int) + 1 else if x = -1 then (cnt (crh ro len n a b c) m : Int) else -1
theorem lp_crease11 {W : Nat} {ro : Nat → Int} (hw1 : W = 19 ∨ W = 20) (hw2 : (S.1 2 11).toNat = W) (hn : n ≤ 10) (hm : S.1 W 1 = (n : Int)) (hL : S.1 W 0 = (m : Int)) (hm3 : m ≤ 300) (hro : ∀ r, r < n → S.2 W 3 r = ro r ∧ 1 ≤ ro r ∧ ro r ≤ 300)
    (hb : b < a ∨ (a = -1 ∧ b = -1)) (hc : c < b ∨ (b = -1 ∧ c = -1)) (h1 : -1 ≤ c) :
    F_X11_crease_26 len a b c x 0 1 S = some (crr ro len n a b c x m) := by
  unfold F_X11_crease_26 crr
  rw [hw2]
  refine zw_fnd (crx ro len n a b c x) (fun i => ((cnt (crh ro len n a b c) i : Int), (i : Int) + 1)) m (fun i => (i : Int) + 1) _ rfl (fun i hi hp => ?_) (fun i hi hp => ?_) ?_
  · have hp := of_decide_eq_false hp
    have hcl := cnt_le (crh ro len n a b c) i
    have ec : cnt (crh ro len n a b c) (i + 1) = cnt (crh ro len n a b c) i + (if crh ro len n a b c i then 1 else 0) := rfl
    dsimp only
    rw [if_pos hw1, if_neg (by omega), lp_creasesAre hn hm hro (by omega) hb hc h1, Option.bind_some]
    by_cases q : crh ro len n a b c i = true
    · have q' : crf ro ((i : Int) + 1) len n a b c = true := q
      rw [q', if_pos rfl, if_neg (by decide), if_neg (fun z => hp ⟨q, z⟩), ec, q, if_pos rfl, zadd_ok (by omega) (by omega), zadd_ok (by omega) (by omega)]
      rfl
    · have q' : ¬crf ro ((i : Int) + 1) len n a b c = true := q
      rw [if_neg q', if_pos rfl, ec, if_neg q, zadd_ok (by omega) (by omega)]
      rfl
  · have hp := of_decide_eq_true hp
    dsimp only
    have q' : crf ro ((i : Int) + 1) len n a b c = true := hp.1
    rw [if_pos hw1, if_neg (by omega), lp_creasesAre hn hm hro (by omega) hb hc h1, Option.bind_some, q', if_pos rfl, if_neg (by decide), if_pos hp.2]
  · dsimp only
    rw [if_pos hw1, if_pos (by omega)]
    by_cases q : x = -1
    · rw [if_pos q, if_pos q]
    · rw [if_neg q, if_neg q]
theorem lp_crease12 {ro : Nat → Int} (hn : n ≤ 10) (hm : S.2 1 4 6 = (n : Int)) (hL : S.2 1 4 0 = (m : Int)) (hm3 : m ≤ 300) (hro : ∀ r, r < n → S.2 1 6 r = ro r ∧ 1 ≤ ro r ∧ ro r ≤ 300) (hl : 10 ≤ len ∧ len ≤ 60) :
    F_X12_crease_105 len a b c x 0 1 S = some (crr ro len n a b c x m, S) := by
  unfold F_X12_crease_105
  have e0 : ∀ i : Nat, i < m → ∀ k : Nat, k < 4 → F_X12_creaseOf ((i : Int) + 1) len (k : Int) S = some ((crl ro ((i : Int) + 1) len n).getD k (-1)) := fun i hi k hk => lp_creaseOf k hk hn hm hro (by omega) hl
  have ez : ∀ R : Int, (some (R, S) : Option (Int × ZS)) = (some R).map (fun r => (r, S)) := fun R => rfl
  have eR : (crr ro len n a b c x m, S) = if fnd (crx ro len n a b c x) m < m then ((fnd (crx ro len n a b c x) m : Int) + 1, S) else (if x = -1 then (cnt (crh ro len n a b c) m : Int) else -1, S) := by
    unfold crr
    split <;> rfl
  rw [eR]
  refine zw_fnd (crx ro len n a b c x) (fun i => ((cnt (crh ro len n a b c) i : Int), (i : Int) + 1)) m (fun i => ((i : Int) + 1, S)) _ rfl (fun i hi hp => ?_) (fun i hi hp => ?_) ?_
  · have hp := of_decide_eq_false hp
    have hcl := cnt_le (crh ro len n a b c) i
    have ec : cnt (crh ro len n a b c) (i + 1) = cnt (crh ro len n a b c) i + (if crh ro len n a b c i then 1 else 0) := rfl
    have f0 : F_X12_creaseOf ((i : Int) + 1) len 0 S = _ := e0 i hi 0 (by omega)
    have f1 : F_X12_creaseOf ((i : Int) + 1) len 1 S = _ := e0 i hi 1 (by omega)
    have f2 : F_X12_creaseOf ((i : Int) + 1) len 2 S = _ := e0 i hi 2 (by omega)
    have f3 : F_X12_creaseOf ((i : Int) + 1) len 3 S = _ := e0 i hi 3 (by omega)
    have eh : crh ro len n a b c i = decide ((crl ro ((i : Int) + 1) len n).getD 0 (-1) = a ∧ (crl ro ((i : Int) + 1) len n).getD 1 (-1) = b ∧ (crl ro ((i : Int) + 1) len n).getD 2 (-1) = c ∧ (crl ro ((i : Int) + 1) len n).getD 3 (-1) = -1) := rfl
    dsimp only
    rw [if_neg (by omega), f0, Option.bind_some, f1, Option.bind_some, f2, Option.bind_some, f3, Option.bind_some]
    by_cases q0 : (crl ro ((i : Int) + 1) len n).getD 0 (-1) = a ∧ (crl ro ((i : Int) + 1) len n).getD 1 (-1) = b ∧ (crl ro ((i : Int) + 1) len n).getD 2 (-1) = c ∧ (crl ro ((i : Int) + 1) len n).getD 3 (-1) = -1
    · have q : crh ro len n a b c i = true := eh.trans (decide_eq_true q0)
      rw [if_pos q0.1, if_pos q0.2.1, if_pos q0.2.2.1, if_pos q0.2.2.2, if_neg (fun z => hp ⟨q, z⟩), ec, q, if_pos rfl, zadd_ok (by omega) (by omega), zadd_ok (by omega) (by omega)]
      rfl
    · have q : crh ro len n a b c i = false := eh.trans (decide_eq_false q0)
      have ec' : cnt (crh ro len n a b c) (i + 1) = cnt (crh ro len n a b c) i := by rw [ec, q]; rfl
      have ez : zadd ((i : Int) + 1) 1 = (i : Int) + 1 + 1 := zadd_ok (by omega) (by omega)
      rw [ec', ez]
      by_cases r0 : (crl ro ((i : Int) + 1) len n).getD 0 (-1) = a
      · rw [if_pos r0]
        by_cases r1 : (crl ro ((i : Int) + 1) len n).getD 1 (-1) = b
        · rw [if_pos r1]
          by_cases r2 : (crl ro ((i : Int) + 1) len n).getD 2 (-1) = c
          · rw [if_pos r2, if_neg (fun z => q0 ⟨r0, r1, r2, z⟩)]
            rfl
          · rw [if_neg r2]; rfl
        · rw [if_neg r1]; rfl
      · rw [if_neg r0]; rfl
  · have hp := of_decide_eq_true hp
    have f0 : F_X12_creaseOf ((i : Int) + 1) len 0 S = _ := e0 i hi 0 (by omega)
    have f1 : F_X12_creaseOf ((i : Int) + 1) len 1 S = _ := e0 i hi 1 (by omega)
    have f2 : F_X12_creaseOf ((i : Int) + 1) len 2 S = _ := e0 i hi 2 (by omega)
    have f3 : F_X12_creaseOf ((i : Int) + 1) len 3 S = _ := e0 i hi 3 (by omega)
    have q0 := of_decide_eq_true (show decide ((crl ro ((i : Int) + 1) len n).getD 0 (-1) = a ∧ (crl ro ((i : Int) + 1) len n).getD 1 (-1) = b ∧ (crl ro ((i : Int) + 1) len n).getD 2 (-1) = c ∧ (crl ro ((i : Int) + 1) len n).getD 3 (-1) = -1) = true from hp.1)
    dsimp only
    rw [if_neg (by omega), f0, Option.bind_some, f1, Option.bind_some, f2, Option.bind_some, f3, Option.bind_some, if_pos q0.1, if_pos q0.2.1, if_pos q0.2.2.1, if_pos q0.2.2.2, if_pos hp.2]
  · dsimp only
    rw [if_pos (by omega)]
    by_cases q : x = -1
    · rw [if_pos q, if_pos q]
    · rw [if_neg q, if_neg q]
end CRO
section CRP
variable {n : Nat} {S : ZS} {x1 x2 x3 x4 x5 : Int}
theorem pair_crease (h : Inv n S) : PairI n S (F_X11_crease x1 x2 x3 x4 x5) (F_X12_crease x1 x2 x3 x4 x5) := by
  obtain ⟨hT, hW, hF, hX, hO, hC, hJ, hI, hP, hK, hR, hM⟩ := h
  have hX := InvX_up hX
  obtain ⟨hWo, hWd⟩ := id hW
  obtain ⟨⟨g1, g2⟩, ⟨g3, g4⟩, ⟨g5, g6⟩, g7, g8, g9, g10, g11, g12⟩ := id hWo
  obtain ⟨W, hw1, hw2, hWR⟩ : ∃ W : Nat, (W = 19 ∨ W = 20) ∧ (S.1 2 11).toNat = W ∧ WayR (S.1 W) (S.2 W) (S.2 1 4) (S.2 1 6) (S.2 1 7) (S.2 1 10) := by
    rcases hWd with ⟨q1, q2, q3⟩ | ⟨q1, q2, q3⟩
    · exact ⟨19, Or.inl rfl, by rw [q1]; rfl, q3⟩
    · exact ⟨20, Or.inr rfl, by rw [q1]; rfl, q3⟩
  obtain ⟨w0, w1, w2, w3, w4, w5, w6, w7, w8, w9⟩ := id hWR
  obtain ⟨k, hk⟩ : ∃ k : Nat, S.2 1 4 6 = (k : Int) := ⟨_, (Int.toNat_of_nonneg g3).symm⟩
  obtain ⟨m, hm⟩ : ∃ m : Nat, S.2 1 4 0 = (m : Int) := ⟨_, (Int.toNat_of_nonneg (by omega)).symm⟩
  have c11 : (10 ≤ x1 ∧ x1 ≤ 60) ∧ (-1 ≤ x4) ∧ (x3 < x2 ∨ (x2 = -1 ∧ x3 = -1)) ∧ (x4 < x3 ∨ (x3 = -1 ∧ x4 = -1)) → F_X11_crease_26 x1 x2 x3 x4 x5 0 1 S = some (crr (S.2 1 6) x1 k x2 x3 x4 x5 m) := fun q =>
    lp_crease11 hw1 hw2 (by omega) (by omega) (by omega) (by omega) (fun r hr => ⟨(w8 r (by omega)).1, (g9 r (by omega)).1, by have := (g9 r (by omega)).2.1; omega⟩) q.2.2.1 q.2.2.2 q.2.1
  have c12 : (10 ≤ x1 ∧ x1 ≤ 60) → F_X12_crease_105 x1 x2 x3 x4 x5 0 1 (zup S.1 1 0 0, S.2) = some (crr (S.2 1 6) x1 k x2 x3 x4 x5 m, (zup S.1 1 0 0, S.2)) := fun q =>
    lp_crease12 (S := (zup S.1 1 0 0, S.2)) (ro := S.2 1 6) (by omega) hk hm (by omega) (fun r hr => ⟨rfl, (g9 r (by omega)).1, by have := (g9 r (by omega)).2.1; omega⟩) q
  clear g9 g10 g11 g12 w8 w9
  unfold PairI F_X11_crease F_X11_isSheetLength F_X11_isCreaseRow F_X11_isCrease F_X11_falls
  repeat' first
    | (with_reducible refine zp_some.mpr ?_; try dsimp only)
    | (with_reducible refine zp_wi.mpr ⟨fun c => ?_, fun c => ?_⟩ <;> (try simp (disch := omega) only [zadd_ok, zsub_ok, zmul_ok, zup_ap, zuA_ap, zset_ap, zuA_s, zuA_A, zup_up, and_true, true_and, and_false, false_and, reduceIte, Nat.reduceEqDiff, not_true_eq_false, not_false_eq_true, or_true, true_or, or_false, false_or] at c) <;> (try (exfalso; omega)) <;> (try dsimp only))
    | with_reducible refine zp_bind.mpr ?_
    | (with_reducible refine zp_if (fun c => ?_) (fun c => ?_) <;> (try simp (disch := omega) only [zadd_ok, zsub_ok, zmul_ok, zup_ap, zuA_ap, zset_ap, zuA_s, zuA_A, zup_up, and_true, true_and, and_false, false_and, reduceIte, Nat.reduceEqDiff, not_true_eq_false, not_false_eq_true, or_true, true_or, or_false, false_or] at c) <;> (try (exfalso; omega)))
    | (with_reducible refine zp_lt.mpr ?_; try dsimp only)
    | fail
  all_goals try rw [zp_eq (c11 ⟨by omega, by omega, by omega, by omega⟩)]
  all_goals unfold F_X12_crease F_X12_crease_58 F_X12_crease_74
  all_goals repeat' first
    | (with_reducible refine zp_some.mpr ?_; try dsimp only)
    | (with_reducible refine zp_wi.mpr ⟨fun c => ?_, fun c => ?_⟩ <;> (try simp (disch := omega) only [zadd_ok, zsub_ok, zmul_ok, zup_ap, zuA_ap, zset_ap, zuA_s, zuA_A, zup_up, and_true, true_and, and_false, false_and, reduceIte, Nat.reduceEqDiff, not_true_eq_false, not_false_eq_true, or_true, true_or, or_false, false_or] at c) <;> (try (exfalso; omega)) <;> (try dsimp only))
    | with_reducible refine zp_bind.mpr ?_
    | (with_reducible refine zp_if (fun c => ?_) (fun c => ?_) <;> (try simp (disch := omega) only [zadd_ok, zsub_ok, zmul_ok, zup_ap, zuA_ap, zset_ap, zuA_s, zuA_A, zup_up, and_true, true_and, and_false, false_and, reduceIte, Nat.reduceEqDiff, not_true_eq_false, not_false_eq_true, or_true, true_or, or_false, false_or] at c) <;> (try (exfalso; omega)))
    | (with_reducible refine zp_lt.mpr ?_; try dsimp only)
    | fail
  all_goals try rw [zp_eq (c12 (by omega))]
  all_goals exact ⟨rfl, rfl, hT, hW, hF, hX, hO, hC, hJ, hI, hP, hK, hR, hM⟩
end CRP
