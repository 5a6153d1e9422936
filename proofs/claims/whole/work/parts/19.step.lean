/-! one step, any instruction -/
section
variable {p : ZP} {ls st ls' st' : List ZV} {μ μ' : ZM}
theorem zop_len {i : Instr} (h : zop i p ls st μ = some (ls', st', μ')) : ls'.length = ls.length := by
  have stI : ∀ n, zstI n ls st μ = some (ls', st', μ') → ls'.length = ls.length := fun n h => by
    unfold zstI at h; (repeat' split at h) <;> first | (cases h; done) | (cases h; exact zst1_len _ _ _)
  have stA : ∀ n, zstA n ls st μ = some (ls', st', μ') → ls'.length = ls.length := fun n h => by
    unfold zstA at h; (repeat' split at h) <;> first | (cases h; done) | (cases h; exact zst1_len _ _ _)
  have stL : ∀ n, zstL n ls st μ = some (ls', st', μ') → ls'.length = ls.length := fun n h => by
    unfold zstL at h; (repeat' split at h) <;> first | (cases h; done) | (rename_i hi; cases h; exact zst2_len _ _ _ hi)
  unfold zop at h
  split at h
  all_goals first
    | exact stI _ h
    | exact stA _ h
    | exact stL _ h
    | (cases h; done)
    | (cases h; rfl)
    | (unfold zldI at h; (repeat' split at h) <;> first | (cases h; done) | (cases h; rfl))
    | (unfold zldL at h; (repeat' split at h) <;> first | (cases h; done) | (cases h; rfl))
    | (unfold zldA at h; (repeat' split at h) <;> first | (cases h; done) | (cases h; rfl))
    | (unfold zaldN at h; (repeat' split at h) <;> first | (cases h; done) | (cases h; rfl))
    | (unfold zbald at h; (repeat' split at h) <;> first | (cases h; done) | (cases h; rfl))
    | (unfold zaald at h; (repeat' split at h) <;> first | (cases h; done) | (cases h; rfl))
    | (unfold zastI at h; (repeat' split at h) <;> first | (cases h; done) | (cases h; rfl))
    | (unfold zastB at h; (repeat' split at h) <;> first | (cases h; done) | (cases h; rfl))
    | (unfold zastL at h; (repeat' split at h) <;> first | (cases h; done) | (cases h; rfl))
    | (unfold zaast at h; (repeat' split at h) <;> first | (cases h; done) | (cases h; rfl))
    | (unfold zalen at h; (repeat' split at h) <;> first | (cases h; done) | (cases h; rfl))
    | (unfold zgetf at h; (repeat' split at h) <;> first | (cases h; done) | (cases h; rfl))
    | (unfold zputf at h; (repeat' split at h) <;> first | (cases h; done) | (cases h; rfl))
    | (unfold znewa at h; (repeat' split at h) <;> first | (cases h; done) | (cases h; rfl))
    | (unfold znewo at h; (repeat' split at h) <;> first | (cases h; done) | (cases h; rfl))
    | (unfold zmulti at h; (repeat' split at h) <;> first | (cases h; done) | (cases h; rfl))
    | (unfold zbin at h; (repeat' split at h) <;> first | (cases h; done) | (cases h; rfl))
    | (unfold zbind at h; (repeat' split at h) <;> first | (cases h; done) | (cases h; rfl))
    | (unfold zun at h; (repeat' split at h) <;> first | (cases h; done) | (cases h; rfl))
    | (unfold zlbin at h; (repeat' split at h) <;> first | (cases h; done) | (cases h; rfl))
    | (unfold zlsh at h; (repeat' split at h) <;> first | (cases h; done) | (cases h; rfl))
    | (unfold zistat zbin zcopy at h; (repeat' split at h) <;> first | (cases h; done) | (cases h; rfl))
    | (split at h <;> first | (cases h; done) | (cases h; rfl) | (cases h; exact zst1_len _ _ _) | (split at h <;> first | (cases h; done) | (cases h; rfl)))
end
theorem zfix_in {w : Cond} (h : w ∈ zfix) : w ∈ zgood := by
  have h1 := List.all_eq_true.mp zfix_ok w h
  rw [Bool.and_eq_true, decide_eq_true_eq] at h1
  exact List.mem_filter.mpr h1
theorem zc8 {n : Int} (h1 : -128 ≤ n) (h2 : n < 128) : (Int8.ofInt n).toInt32 = Int32.ofInt n := by
  apply Int32.toInt_inj.mp
  rw [Int8.toInt_toInt32, Int8.toInt_ofInt_of_le (by omega) (by omega), zI32_to (by unfold zI32; omega)]
theorem zc16 {n : Int} (h1 : -32768 ≤ n) (h2 : n < 32768) : (Int16.ofInt n).toInt32 = Int32.ofInt n := by
  apply Int32.toInt_inj.mp
  rw [Int16.toInt_toInt32, Int16.toInt_ofInt_of_le (by omega) (by omega), zI32_to (by unfold zI32; omega)]
theorem zi2l_eq {x : Int} (h : zI32 x) : (Int32.ofInt x).toInt64 = Int64.ofInt x := by
  apply Int64.toInt_inj.mp
  rw [Int32.toInt_toInt64, zI32_to h, zI64_to (by unfold zI32 at h; unfold zI64; omega)]
theorem zlcmp_eq {x y : Int} (hx : zI64 x) (hy : zI64 y) : lg_cmp (Int64.ofInt x) (Int64.ofInt y) = Int32.ofInt (zlcmp x y) := by
  unfold lg_cmp zlcmp
  simp only [gt_iff_lt, Int64.lt_iff_toInt_lt, ← Int64.toInt_inj, zI64_to hx, zI64_to hy]
  by_cases h1 : x < y
  · rw [if_pos h1, if_neg (by omega), if_neg (by omega)]; rfl
  · by_cases h2 : x = y
    · rw [if_neg h1, if_pos h2, if_neg (by omega), if_pos h2]; rfl
    · have h3 : y < x := by omega
      simp only [if_neg h1, if_neg h2, if_pos h3]; rfl
theorem zlcmp_ok (x y : Int) : zI32 (zlcmp x y) := by
  unfold zlcmp zI32
  split
  · omega
  · split <;> omega
section ZT1
variable {D : va_G} {cA : Nat → ClassId} {e0 : Nat → Nat → Option Nat} {bS nS : Nat} {xS : Nat → Int} {A : Nat → Prop} {p : Program} {l : Launch} {e : Env} {R : Room} {s : State} {m : MethodId} {args : Array Value} {below : List Frame} {meth : Method} {c : Code} {Q : State → Prop} {L0 : List (Nat × Nat)} {ad0 : Nat → Nat → Nat} {u0 v0 : Nat}
variable {own nm : String} {cc : ByteArray} {nL pc : Nat} {lsv stv lsv' stv' : List ZV} {μ μ' : ZM}
theorem zlen1 {i : Instr} {n k : Nat} (h : zlenok i n = true) (hi : zlenok i n = (n == k)) : n = k := by
  rw [hi] at h
  simpa using h
theorem z_op (F : zFr D cA e0 bS nS xS A p s m args meth c own nm cc nL) {cx n : Nat} {i : Instr} {pl : ZP} {ret : Option FieldType} (hn0 : ∀ r, e0 0 r = none) (hcx : cx < 20) (how : own = zown cx) (hck : zck cx nm ret i pl = true) (hlk : zlenok i n = true) (hdg : decode cc pc = .ok (i, n)) (hz : zop i pl lsv stv μ = some (lsv', stv', μ'))
    (hfr : 1 ≤ R.frames ∧ 37 ≤ R.locals) (hlen : lsv.length = nL) (hR : μ'.2.2.2.2.1 ≤ R.cells + u0 ∧ μ'.2.2.2.2.2 ≤ R.slots + v0) (hnc : ∀ ix, i = .invokevirtual ix → False) (hnt : ∀ ix, i = .invokespecial ix ∨ i = .invokestatic ix → pl.2.2 ≠ 0)
    (kk : zcont D cA e0 bS nS xS A p l e R s m args below meth c Q L0 ad0 u0 v0 (pc + n) lsv' stv' μ') : zcont D cA e0 bS nS xS A p l e R s m args below meth c Q L0 ad0 u0 v0 pc lsv stv μ := by
  have hx := F.1
  have hb := F.2.1
  have hown := F.2.2.2.1
  have hts := F.2.2.2.2.1
  have hE := F.2.2.2.2.2.1
  have hzz : ∀ k, k < 10 → ∃ q q', e0 4 k = some q ∧ e0 5 k = some q' := fun k hk => by
    obtain ⟨adK, adV, hK, -⟩ := F.2.2.2.2.2.2.1.1
    exact ⟨_, _, (hK k hk).1, (hK k hk).2⟩
  have hle := zop_le hz
  cases i with
  | aload k => cases zlen1 (k := 2) hlk rfl; exact zo_ldA hzz hz (fun hl k => lv_aload hx hb hdg hl k) kk
  | aload_n k => cases zlen1 (k := 1) hlk rfl; exact zo_ldA hzz hz (fun hl k => lv_aload_n hx hb hdg rfl hl k) kk
  | iload k => cases zlen1 (k := 2) hlk rfl; exact zo_ldI hz (fun hl k => lv_iload hx hb hdg hl k) kk
  | iload_n k => cases zlen1 (k := 1) hlk rfl; exact zo_ldI hz (fun hl k => lv_iload_n hx hb hdg rfl hl k) kk
  | lload k => cases zlen1 (k := 2) hlk rfl; exact zo_ldL hz (fun hl k => lv_lload hx hb hdg hl k) kk
  | lload_n k => cases zlen1 (k := 1) hlk rfl; exact zo_ldL hz (fun hl k => lv_lload_n hx hb hdg rfl hl k) kk
  | istore k => cases zlen1 (k := 2) hlk rfl; exact zo_stI hz (fun h hi k => lv_istore hx hb hdg h hi rfl k) kk
  | istore_n k => cases zlen1 (k := 1) hlk rfl; exact zo_stI hz (fun h hi k => lv_istore_n hx hb hdg rfl h hi rfl k) kk
  | lstore k => cases zlen1 (k := 2) hlk rfl; exact zo_stL hz (fun h hi k => lv_lstore hx hb hdg h hi rfl k) kk
  | lstore_n k => cases zlen1 (k := 1) hlk rfl; exact zo_stL hz (fun h hi k => lv_lstore_n hx hb hdg rfl h hi rfl k) kk
  | astore k => cases zlen1 (k := 2) hlk rfl; exact zo_stA hz (fun h hi k => lv_astore hx hb hdg h hi rfl k) kk
  | astore_n k => cases zlen1 (k := 1) hlk rfl; exact zo_stA hz (fun h hi k => lv_astore_n hx hb hdg rfl h hi rfl k) kk
  | iinc k v =>
    cases zlen1 (k := 3) hlk rfl
    simp only [zop] at hz
    split at hz
    · rename_i x hxk
      cases hz
      intro L ad H locs ls cells slots hext hrel hl hlv hsv hc hs
      have hkl : k < lsv.length := (List.getElem?_eq_some_iff.mp hxk).1
      have hm : (k, Value.int (Int32.ofInt x)) ∈ zpairs e0 ad 0 lsv := (zpairs_mem lsv 0).mpr ⟨k, .inl x, by simp, hxk, (fun q => by cases q), rfl⟩
      obtain ⟨i9, hi9⟩ := List.getElem?_of_mem hm
      refine lv_iinc hx hb hdg hl hi9 rfl hkl rfl fun ls' hl' => ?_
      have e9 : Value.int (Int32.ofInt x + Int32.ofInt v) = zcv e0 ad (.inl (zadd x v)) := by unfold zadd; rw [zcv_int]
      rw [e9] at hl'
      exact kk L ad H locs ls' cells slots hext hrel (zlv_st1 hl') (zst1_ok hlv (show zI32 _ from zI32_of _)) hsv hc hs
    · cases hz
  | iconst k =>
    cases zlen1 (k := 1) hlk rfl
    simp only [zck, Bool.and_eq_true, decide_eq_true_eq] at hck
    cases hz
    exact zo_ic (len := 1) hck rfl (fun k => lv_iconst hx hb hdg rfl k) kk
  | bipush k =>
    cases zlen1 (k := 2) hlk rfl
    simp only [zck, Bool.and_eq_true, decide_eq_true_eq] at hck
    cases hz
    exact zo_ic (len := 2) (by unfold zI32; omega) rfl (fun k => lv_bipush hx hb hdg (zc8 hck.1 hck.2) k) kk
  | sipush k =>
    cases zlen1 (k := 3) hlk rfl
    simp only [zck, Bool.and_eq_true, decide_eq_true_eq] at hck
    cases hz
    exact zo_ic (len := 3) (by unfold zI32; omega) rfl (fun k => lv_sipush hx hb hdg (zc16 hck.1 hck.2) k) kk
  | lconst k =>
    cases zlen1 (k := 1) hlk rfl
    cases hz
    exact zo_lc (len := 1) (by unfold zI64; omega) (v := Int64.ofNat (k : Nat)) (by rw [Int64.ofInt_eq_ofNat]) (fun k => lv_lconst hx hb hdg rfl k) kk
  | ldc ix =>
    cases zlen1 (k := 2) hlk rfl
    obtain ⟨p1, p2, p3⟩ := pl
    simp only [zop] at hz
    simp only [zck] at hck
    split at hz
    · rw [if_pos rfl] at hck
      obtain ⟨q, hq⟩ := zhas_ok hcx hck
      simp only [zpok, Bool.and_eq_true, decide_eq_true_eq] at hq
      cases hz
      exact zo_ic (len := 2) (show zI32 p3 by unfold zI32; omega) rfl (fun k => lv_ldc hx hb (own := own) hown (hts _ (by rw [how]; exact zat_in hq.1.1)) hdg k) kk
    · rename_i hne
      split at hz
      · rename_i hr
        rw [if_neg (by intro z; exact hne z)] at hck
        obtain ⟨q, hq⟩ := zhas_ok hcx hck
        simp only [zpok, Bool.and_eq_true, decide_eq_true_eq] at hq
        cases hz
        exact zo_ldcS F hr (by rw [how]; exact hq.1.2) hq.2 hdg kk
      · cases hz
  | ldc_w ix =>
    cases zlen1 (k := 3) hlk rfl
    obtain ⟨p1, p2, p3⟩ := pl
    simp only [zck] at hck
    obtain ⟨q, hq⟩ := zhas_ok hcx hck
    simp only [zpok, Bool.and_eq_true, decide_eq_true_eq] at hq
    cases hz
    exact zo_ic (len := 3) (show zI32 p3 by unfold zI32; omega) rfl (fun k => lv_ldcw hx hb (own := own) hown (hts _ (by rw [how]; exact zat_in hq.1.1)) hdg k) kk
  | ldc2_w ix =>
    cases zlen1 (k := 3) hlk rfl
    obtain ⟨p1, p2, p3⟩ := pl
    simp only [zck] at hck
    obtain ⟨q, hq⟩ := zhas_ok hcx hck
    simp only [zpok, Bool.and_eq_true, decide_eq_true_eq] at hq
    cases hz
    exact zo_lc (len := 3) (show zI64 p3 by unfold zI64; omega) rfl (fun k => lv_ldc2 hx hb (own := own) hown (hts _ (by rw [how]; exact zat_in hq.1.1)) hdg k) kk
  | getfield ix =>
    cases zlen1 (k := 3) hlk rfl
    obtain ⟨p1, p2, p3⟩ := pl
    simp only [zop] at hz
    simp only [zck] at hck
    unfold zgetf at hz
    split at hz
    · split at hz
      · split at hz
        · rename_i r o st0 h50
          cases hz
          rw [if_pos h50.1] at hck
          obtain ⟨q, hq⟩ := zhas_ok hcx hck
          simp only [zpok] at hq
          exact zo_sget F h50.2 (by rw [how]; exact zat_in hq) hdg kk
        · split at hz
          · rename_i h50 h51
            cases hz
            rw [if_neg (by dsimp only at h51; omega), if_pos h51.1] at hck
            obtain ⟨q, hq⟩ := zhas_ok hcx hck
            simp only [zpok] at hq
            exact zo_sgetc F h51.2 (by rw [how]; exact zat_in hq) hdg kk
          · cases hz
      · split at hz
        · rename_i k9 n9 hκ
          split at hz
          · rename_i hc0
            obtain ⟨rfl, h13, hkn⟩ := hc0
            dsimp only at h13 hkn hκ
            cases hz
            rw [if_neg (by omega), if_neg (by omega)] at hck
            obtain ⟨q, hq⟩ := zhas_ok hcx hck
            simp only [zpok, Bool.and_eq_true, decide_eq_true_eq] at hq
            exact zo_get F h13 hq.2 (by rw [how]; exact zat_in hq.1.1) hdg hκ hkn kk
          · cases hz
        · cases hz
      · cases hz
    · cases hz
  | putfield ix =>
    cases zlen1 (k := 3) hlk rfl
    obtain ⟨p1, p2, p3⟩ := pl
    simp only [zop] at hz
    simp only [zck, Bool.and_eq_true, beq_iff_eq] at hck
    unfold zputf at hz
    split at hz
    · split at hz
      · rename_i k9 n9 hκ
        split at hz
        · rename_i hc0
          obtain ⟨rfl, h13, hkn, hv⟩ := hc0
          dsimp only at h13 hkn hκ hv
          cases hz
          obtain ⟨q, hq⟩ := zhas_ok hcx hck.1.1
          simp only [zpok, Bool.and_eq_true, decide_eq_true_eq] at hq
          have hfin := hck.2
          refine zo_put F h13 hq.2 (by rw [how]; exact zat_in hq.1.1) (fun hf => ?_) hdg hκ hkn (by rw [← hck.1.2]; exact hv) kk
          rw [hf] at hfin
          simp only [cond_true, Bool.and_eq_true, decide_eq_true_eq] at hfin
          exact ⟨hfin.1, by rw [how]; exact hfin.2⟩
        · cases hz
      · cases hz
    · cases hz
  | getstatic ix =>
    cases zlen1 (k := 3) hlk rfl
    obtain ⟨p1, p2, p3⟩ := pl
    simp only [zop] at hz
    simp only [zck] at hck
    split at hz
    · rw [if_pos rfl] at hck
      obtain ⟨q, hq⟩ := zhas_ok hcx hck
      simp only [zpok] at hq
      cases hz
      exact zo_gets0 F (by rw [how]; exact zat_in hq) hdg kk
    · rename_i hne
      rw [if_neg (by intro z; exact hne z)] at hck
      obtain ⟨q, hq⟩ := zhas_ok hcx hck
      simp only [zpok] at hq
      cases hz
      exact zo_gets1 F (by rw [how]; exact zat_in hq) hdg kk
  | iaload => cases zlen1 (k := 1) hlk rfl; exact zo_iald F hdg hz kk
  | laload => cases zlen1 (k := 1) hlk rfl; exact zo_lald F hdg hz kk
  | baload => cases zlen1 (k := 1) hlk rfl; exact zo_bald F hdg hz kk
  | aaload => cases zlen1 (k := 1) hlk rfl; exact zo_aald F hn0 hdg hz kk
  | iastore => cases zlen1 (k := 1) hlk rfl; exact zo_iast F hdg hz kk
  | bastore => cases zlen1 (k := 1) hlk rfl; exact zo_bast F hdg hz kk
  | lastore => cases zlen1 (k := 1) hlk rfl; exact zo_last F hdg hz kk
  | aastore => cases zlen1 (k := 1) hlk rfl; exact zo_aast F hdg hz kk
  | arraylength => cases zlen1 (k := 1) hlk rfl; exact zo_alen F hdg hz kk
  | newarray t =>
    cases zlen1 (k := 2) hlk rfl
    simp only [zck, decide_eq_true_eq] at hck
    cases t with
    | int => exact zo_newa F (t := .int) (zfix_in (by decide)) rfl (by decide) (by decide) hdg hz hR kk
    | boolean => exact zo_newa F (t := .boolean) (zfix_in (by decide)) rfl (by decide) (by decide) hdg hz hR kk
    | byte => exact zo_newa F (t := .byte) (zfix_in (by decide)) rfl (by decide) (by decide) hdg hz hR kk
    | long => exact zo_newa F (t := .long) (zfix_in (by decide)) rfl (by decide) (by decide) hdg hz hR kk
    | _ => exact absurd hck (by decide)
  | anewarray ix =>
    cases zlen1 (k := 3) hlk rfl
    simp only [zck] at hck
    obtain ⟨q, hq⟩ := zhas_ok hcx hck
    simp only [zpok] at hq
    exact zo_anew F (by rw [how]; exact zat_in hq) hdg hz hR kk
  | multianewarray ix dd =>
    cases zlen1 (k := 4) hlk rfl
    simp only [zck, Bool.and_eq_true, beq_iff_eq] at hck
    obtain ⟨rfl, hck⟩ := hck
    obtain ⟨q, hq⟩ := zhas_ok hcx hck
    simp only [zpok] at hq
    exact zo_multi F (by rw [how]; exact zat_in hq) (zfix_in (by decide)) hdg hn0 hz hR kk
  | new ix =>
    cases zlen1 (k := 3) hlk rfl
    simp only [zck, Bool.and_eq_true, beq_iff_eq] at hck
    obtain ⟨q, hq⟩ := zhas_ok hcx hck.1
    simp only [zpok, Bool.and_eq_true, decide_eq_true_eq] at hq
    have hco := List.all_eq_true.mp zcok_all pl.1 (List.mem_range.mpr hq.2)
    simp only [zcok, Bool.and_eq_true, decide_eq_true_eq] at hco
    exact zo_new F (fun _ => hck.2) (fun _ => by rw [how]; exact zat_in hq.1) (fun _ => List.mem_filter.mpr ⟨hco.1.1.1, hco.1.1.2⟩) (fun _ => List.mem_filter.mpr ⟨hco.1.2, hco.2⟩) hdg hn0 hz hR kk
  | iadd => cases zlen1 (k := 1) hlk rfl; exact zo_bin (G := (· + ·)) (fun _ _ => rfl) hz (fun k => lv_iadd hx hb hdg k) kk
  | isub => cases zlen1 (k := 1) hlk rfl; exact zo_bin (G := (· - ·)) (fun _ _ => rfl) hz (fun k => lv_isub hx hb hdg k) kk
  | imul => cases zlen1 (k := 1) hlk rfl; exact zo_bin (G := (· * ·)) (fun _ _ => rfl) hz (fun k => lv_imul hx hb hdg k) kk
  | idiv => cases zlen1 (k := 1) hlk rfl; exact zo_bind (G := (· / ·)) (fun _ _ => rfl) hz (fun hy k => lv_idiv hx hb hdg hy k) kk
  | irem => cases zlen1 (k := 1) hlk rfl; exact zo_bind (G := fun x y => x - x / y * y) (fun _ _ => rfl) hz (fun hy k => lv_irem hx hb hdg hy k) kk
  | ineg => cases zlen1 (k := 1) hlk rfl; exact zo_un (G := fun x => -x) (fun _ => rfl) hz (fun k => lv_ineg hx hb hdg k) kk
  | iand => cases zlen1 (k := 1) hlk rfl; exact zo_bin (G := fun x y => x &&& y) (fun _ _ => rfl) hz (fun k => lv_iand hx hb hdg k) kk
  | ior => cases zlen1 (k := 1) hlk rfl; exact zo_bin (G := fun x y => x ||| y) (fun _ _ => rfl) hz (fun k => lv_ior hx hb hdg k) kk
  | ishl => cases zlen1 (k := 1) hlk rfl; exact zo_bin (G := fun x y => x <<< (y &&& 31)) (fun _ _ => rfl) hz (fun k => lv_ishl hx hb hdg k) kk
  | ishr => cases zlen1 (k := 1) hlk rfl; exact zo_bin (G := fun x y => x >>> (y &&& 31)) (fun _ _ => rfl) hz (fun k => lv_ishr hx hb hdg k) kk
  | iushr => cases zlen1 (k := 1) hlk rfl; exact zo_bin (G := fun x y => (x.toUInt32 >>> (y.toUInt32 &&& Int32.toUInt32 31)).toInt32) (fun _ _ => rfl) hz (fun k => lv_iushr hx hb hdg rfl k) kk
  | land => cases zlen1 (k := 1) hlk rfl; exact zo_lbin (G := fun x y => x &&& y) (fun _ _ => rfl) hz (fun k => lv_land hx hb hdg k) kk
  | lor => cases zlen1 (k := 1) hlk rfl; exact zo_lbin (G := fun x y => x ||| y) (fun _ _ => rfl) hz (fun k => lv_lor hx hb hdg k) kk
  | lshl => cases zlen1 (k := 1) hlk rfl; exact zo_lsh (G := fun x y => x <<< (y.toInt64 &&& 63)) (fun _ _ => rfl) hz (fun k => lv_lshl hx hb hdg rfl k) kk
  | lshr => cases zlen1 (k := 1) hlk rfl; exact zo_lsh (G := fun x y => x >>> (y.toInt64 &&& 63)) (fun _ _ => rfl) hz (fun k => lv_lshr hx hb hdg rfl k) kk
  | lcmp =>
    cases zlen1 (k := 1) hlk rfl
    simp only [zop] at hz
    split at hz
    · rename_i y x st0
      cases hz
      intro L ad H locs ls cells slots hext hrel hl hlv hsv hc hs
      have kx := kk L ad H locs ls cells slots hext hrel hl hlv (zvok_cons (show zI32 _ from zlcmp_ok x y) (zvok_tail (zvok_tail hsv))) hc hs
      rw [List.map_cons] at kx
      show W p l e R s m args below meth c H locs cells slots Q (F0 m pc ls (.long (Int64.ofInt y) :: .long (Int64.ofInt x) :: _))
      refine W.lcmp hx hb hdg ?_
      rw [zlcmp_eq (zvok_head (zvok_tail hsv)) (zvok_head hsv)]
      exact kx
    · cases hz
  | i2l =>
    cases zlen1 (k := 1) hlk rfl
    simp only [zop] at hz
    split at hz
    · rename_i x st0
      cases hz
      intro L ad H locs ls cells slots hext hrel hl hlv hsv hc hs
      have hx0 : zI32 x := zvok_head hsv
      have kx := kk L ad H locs ls cells slots hext hrel hl hlv (zvok_cons (show zI64 _ by unfold zI32 at hx0; unfold zI64; omega) (zvok_tail hsv)) hc hs
      exact lv_i2l hx hb hdg (zi2l_eq hx0) kx
    · cases hz
  | l2i =>
    cases zlen1 (k := 1) hlk rfl
    simp only [zop] at hz
    split at hz
    · rename_i x st0
      cases hz
      intro L ad H locs ls cells slots hext hrel hl hlv hsv hc hs
      have kx := kk L ad H locs ls cells slots hext hrel hl hlv (zvok_cons (show zI32 _ by unfold zl2i; exact zI32_of _) (zvok_tail hsv)) hc hs
      rw [List.map_cons] at kx
      unfold zl2i at kx
      rw [zcv_int] at kx
      exact lv_l2i hx hb hdg rfl kx
    · cases hz
  | i2b => cases zlen1 (k := 1) hlk rfl; exact zo_un (G := fun x => x.toInt8.toInt32) (fun _ => rfl) hz (fun k => lv_i2b hx hb hdg rfl k) kk
  | i2s => cases zlen1 (k := 1) hlk rfl; exact zo_un (G := fun x => x.toInt16.toInt32) (fun _ => rfl) hz (fun k => lv_i2s hx hb hdg rfl k) kk
  | i2c => cases zlen1 (k := 1) hlk rfl; exact zo_un (G := fun x => (x.toUInt32 % 65536).toInt32) (fun _ => rfl) hz (fun k => lv_i2c hx hb hdg rfl k) kk
  | dup =>
    cases zlen1 (k := 1) hlk rfl
    simp only [zop] at hz
    split at hz
    · split at hz
      · cases hz
      · rename_i v st0 hv
        cases hz
        intro L ad H locs ls cells slots hext hrel hl hlv hsv hc hs
        exact lv_dup hx hb hdg (by rw [zcv_cat, zcat1 hv]) (kk L ad H locs ls cells slots hext hrel hl hlv (zvok_cons (zvok_head hsv) hsv) hc hs)
    · cases hz
  | dup2 =>
    cases zlen1 (k := 1) hlk rfl
    simp only [zop] at hz
    split at hz
    · split at hz
      · cases hz
      · rename_i v w st0 hv
        cases hz
        intro L ad H locs ls cells slots hext hrel hl hlv hsv hc hs
        exact lv_dup2_11 hx hb hdg (by rw [zcv_cat, zcat1 (fun z => hv (Or.inl z))]) (by rw [zcv_cat, zcat1 (fun z => hv (Or.inr z))]) (kk L ad H locs ls cells slots hext hrel hl hlv (zvok_cons (zvok_head hsv) (zvok_cons (zvok_head (zvok_tail hsv)) hsv)) hc hs)
    · cases hz
  | pop =>
    cases zlen1 (k := 1) hlk rfl
    simp only [zop] at hz
    split at hz
    · split at hz
      · cases hz
      · rename_i v st0 hv
        cases hz
        intro L ad H locs ls cells slots hext hrel hl hlv hsv hc hs
        exact lv_pop hx hb hdg (by rw [zcv_cat, zcat1 hv]) (kk L ad H locs ls cells slots hext hrel hl hlv (zvok_tail hsv) hc hs)
    · cases hz
  | invokespecial ix =>
    cases zlen1 (k := 3) hlk rfl
    obtain ⟨p1, p2, p3⟩ := pl
    have hne := hnt ix (Or.inl rfl)
    simp only [zop] at hz
    simp only [zck] at hck
    have hck : zhas cx 13 ix 0 0 0 = true := hck
    · obtain ⟨q, hq⟩ := zhas_ok hcx hck
      simp only [zpok] at hq
      split at hz
      · split at hz
        · rename_i hsum
          cases hz
          exact zo_objinit F (by rw [how]; exact zat_in hq) (zfix_in (by decide)) (zfix_in (by unfold zfix; simp)) hdg hfr hlen hsum kk
        · cases hz
      · cases hz
  | invokestatic ix =>
    cases zlen1 (k := 3) hlk rfl
    obtain ⟨p1, p2, p3⟩ := pl
    have hne := hnt ix (Or.inr rfl)
    simp only [zop] at hz
    simp only [zck] at hck
    unfold zistat at hz
    split at hz
    · rename_i hsum
      have hR0 : μ.2.2.2.2.1 ≤ R.cells + u0 ∧ μ.2.2.2.2.2 ≤ R.slots + v0 := ⟨Nat.le_trans hle.2.1 hR.1, Nat.le_trans hle.2.2 hR.2⟩
      split at hck
      · exact absurd rfl hne
      · obtain ⟨q, hq⟩ := zhas_ok hcx hck
        simp only [zpok] at hq
        exact zo_copy F (by rw [how]; exact zat_in hq) (zfix_in (by decide)) (zfix_in (by decide)) (zfix_in (by decide)) hdg hfr hlen hsum hz kk
      · obtain ⟨q, hq⟩ := zhas_ok hcx hck
        simp only [zpok] at hq
        exact zo_max F (by rw [how]; exact zat_in hq) (zfix_in (by decide)) (zfix_in (by decide)) (zfix_in (by unfold zfix; simp)) hdg hfr hlen hsum hR0 hz kk
      · obtain ⟨q, hq⟩ := zhas_ok hcx hck
        simp only [zpok] at hq
        exact zo_min F (by rw [how]; exact zat_in hq) (zfix_in (by decide)) (zfix_in (by decide)) (zfix_in (by unfold zfix; simp)) hdg hfr hlen hsum hR0 hz kk
      · cases hck
    · cases hz
  | invokevirtual ix => exact (hnc ix rfl).elim
  | _ => cases hz
end ZT1
