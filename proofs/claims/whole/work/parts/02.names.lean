/-- the array class over arrays of t is there -/
def zAOA (t : FieldType) (U : State) : Prop := (Cond.arrayOver (.array t)).before #[] U = true
theorem zAOA.use {t : FieldType} {A : Array Value} {U : State} (h : zAOA t U) : (Cond.arrayOver (.array t)).before A U = true := h
theorem zAOA.of {t : FieldType} {A : Array Value} {U : State} (h : (Cond.arrayOver (.array t)).before A U = true) : zAOA t U := h
theorem zAOA.moved {t : FieldType} {u U : State} (hvm : u.vm.Alike U.vm) (h : zAOA t u) : zAOA t U := by
  obtain ⟨comp, c, k, h1, h2, h3, h4, h5⟩ := arrayOverA_spec h
  obtain ⟨k', hk', he⟩ := hvm.2.2 _ _ h3
  have hi : (U.vm.classes.findIdx? fun (x : Class) => match x.kind with | .array component _ => component == comp | _ => false) = some c := by
    refine (va_idx_bare U.vm comp).symm.trans ?_
    have hb : U.vm.bare = u.vm.bare := by first | exact hvm.bare_eq | exact hvm.bare_eq.symm
    rw [hb]
    exact (va_idx_bare u.vm comp).trans h2
  have hkind : k'.kind = .array comp (.array t) := by rw [he]; exact h4
  have f1 : U.vm.findClass (FieldType.array t).toString = some comp := by rw [hvm.findClass]; exact h1
  have f2 : U.vm.findClass ("[" ++ (FieldType.array t).toString) = some c := by rw [hvm.findClass]; exact h5
  unfold zAOA Cond.before Cond.holds
  simp only [Cond.value]
  rw [f1, Option.bind_some]
  refine (congrArg (fun o : Option Nat => (o.bind (fun c => (U.vm.classes[c]?).map fun (k : Class) => match k.kind with | .array _ ty => decide (ty = FieldType.array t) && decide (U.vm.findClass ("[" ++ (FieldType.array t).toString) = some c) | _ => false) == some true)) hi).trans ?_
  simp [hk', hkind, f2]
/-! ===== BEGIN words of one list among another's, by their places ===== -/
theorem goodIn_r {big : List Cond} (ws : List Cond) (ps : List Nat) (hp : ws = ps.filterMap (fun i => big[i]?)) (h : ws.all goodWord = true) : GoodIn big ws := by
  intro w hw
  have h1 := List.all_eq_true.mp h w hw
  rw [hp] at hw
  obtain ⟨i, -, hi⟩ := List.mem_filterMap.mp hw
  have hm : w ∈ big := by first | exact List.mem_of_getElem? hi | exact List.getElem?_mem hi
  exact ⟨hm, good_of_word h1⟩
theorem goodIn_app {big a b : List Cond} (ha : GoodIn big a) (hb : GoodIn big b) : GoodIn big (a ++ b) := fun w h => (List.mem_append.mp h).elim (ha w) (hb w)
theorem goodIn_ca {big a b : List Cond} {c : Cond} (ha : GoodIn big (c :: a)) (hb : GoodIn big b) : GoodIn big (c :: (a ++ b)) := fun w h => (List.mem_cons.mp h).elim (fun e => ha w (List.mem_cons.mpr (Or.inl e))) (fun h => (List.mem_append.mp h).elim (fun h => ha w (List.mem_cons.mpr (Or.inr h))) (hb w))
theorem goodIn_sub {big ws : List Cond} (hm : ∀ w ∈ ws, w ∈ big) (h : ws.all goodWord = true) : GoodIn big ws := fun w hw => ⟨hm w hw, good_of_word (List.all_eq_true.mp h w hw)⟩
/-! ===== END ===== -/

/-! ===== BEGIN new T[n][m]: the outer array a place, the inner ones among the pooled ===== -/
/-- f, but v at every address of l -/
def vr_up {α : Type} (f : Nat → α) (l : List Nat) (v : α) : Nat → α := fun a => if a ∈ l then v else f a
theorem vr_up_in {α : Type} {f : Nat → α} {l : List Nat} {v : α} {a : Nat} (h : a ∈ l) : vr_up f l v a = v := if_pos h
theorem vr_up_ne {α : Type} {f : Nat → α} {l : List Nat} {v : α} {a : Nat} (h : a ∉ l) : vr_up f l v a = f a := if_neg h
theorem vr_rows {L l : List Nat} {f : Nat → va_E} {e : va_E} (h : ∀ a, a ∈ l → a ∉ L) : va_pl L f ++ l.map (fun a => (a, e)) = va_pl (L ++ l) (vr_up f l e) := by
  unfold va_pl
  rw [List.map_append]
  congr 1
  · apply List.map_congr_left
    intro a ha
    rw [vr_up_ne (fun q => h a q ha)]
  · apply List.map_congr_left
    intro a ha
    rw [vr_up_in ha]
theorem vr_lay {X rows : va_W} {x : Nat × va_E} {pl : va_W} {D : va_G} {cl : List vw_C} {H : Heap} (hP : va_P D cl (((X ++ pl) ++ [x]) ++ rows) H) : va_P D cl ((X ++ [x]) ++ (pl ++ rows)) H := by
  rw [List.append_assoc (X ++ pl)] at hP
  have h := va_P.swap hP
  rw [← List.append_assoc X] at h
  have h2 := va_P.swap h
  rw [List.append_assoc (X ++ [x])] at h2
  exact h2
theorem vr_layD {X rows : va_W} {x : Nat × va_E} {pl : va_W} {A : Nat → Prop} (hD : va_D A (((X ++ pl) ++ [x]) ++ rows)) : va_D A ((X ++ [x]) ++ (pl ++ rows)) := by
  rw [List.append_assoc (X ++ pl)] at hD
  have h := va_D.swap hD
  rw [← List.append_assoc X] at h
  have h2 := va_D.swap h
  rw [List.append_assoc (X ++ [x])] at h2
  exact h2
theorem vr_outer (c : ClassId) (N h0 : Nat) : ∀ i : Nat, Jvm.Free.Multi.outerC c N h0 i = arrV c N (fun j => va_rf (if j < i then some (h0 + 1 + j) else none))
  | 0 => by
    show ({ cls := c, slots := Array.replicate N .null, vm := .none } : Cell) = _
    rw [arrV_new]
    refine congrArg (arrV c N) (funext fun j => ?_)
    simp [va_rf]
  | i + 1 => by
    show (Jvm.Free.Multi.outerC c N h0 i).setSlot i (.ref (h0 + 1 + i)) = _
    rw [vr_outer c N h0 i, arrV_store]
    refine congrArg (arrV c N) (funext fun j => ?_)
    by_cases e : j = i
    · subst e
      simp [updV, va_rf]
    · by_cases h : j < i
      · simp [updV, e, h, Nat.lt_succ_of_lt h]
      · simp [updV, e, h, show ¬ j < i + 1 by omega]
section VGM
variable {p : Program} {l : Launch} {e : Env} {R : Room} {s : State} {m : MethodId} {args : Array Value} {below : List Frame} {meth : Method} {c : Code} {H : Heap} {locs : List Loc} {cells slots : Nat} {Q : State → Prop}
variable {cc : ByteArray} {pc : Nat} {ls : Array Slot} {rest : List Value} {D : va_G} {cl : List vw_C} {A : Nat → Prop} {a : Nat} {tys : List (ClassId × FieldType)} {ws : va_W} {H0 : Heap}
theorem va_mna {X : va_W} {L : List Nat} {f : Nat → va_E} {cc : ByteArray} (hexec : p.tables.exec = Jvm.exec) (hb : c.code = cc) {own : String} {index : Nat} {ty : FieldType} {cy : ClassId} (hown : s.vm.findClass own = some m.cls) (hclink : (Cond.classLink own index ("[" ++ (FieldType.array ty).toString)).before args s = true) (hover : zAOA ty s) (harr : (Cond.arrayClass ty).before args s = true) (hcy : s.vm.findClass (FieldType.array ty).toString = some cy)
    (hK : va_K D cl tys s) (hP : va_P D cl (X ++ va_pl L f) H) (hD : va_D A (X ++ va_pl L f)) (hS : va_S A H0 H locs) (hA : ∀ q, H0.size ≤ q → A q) {n k : Int32} {N' K' : Nat} {z : vp_A} (hn : ¬ n < 0) (hk : ¬ k < 0) (hN : n.toNatClampNeg = N') (hM : k.toNatClampNeg = K')
    (hb1 : N' * 4 ≤ 536870912) (hb2 : K' * componentBytes ty ≤ 536870912) (hb3 : K' ≤ 536870912) (hdf : fits ty (defaultValue ty) = true) (hdd : (defaultValue ty).isDefault = true) (hcells : cells + (1 + N') ≤ R.cells) (hslots : slots + (N' + N' * K') ≤ R.slots) (hz : ∀ c : ClassId, Jvm.Free.Multi.innerC c K' (defaultValue ty) = vp_cell c z) (hdg : decode cc pc = .ok (.multianewarray index 2, 4))
    (kk : ∀ (q : Nat) (r : Nat → Nat) (cA : ClassId) (H1 : Heap), (∀ i j : Nat, i < N' → j < N' → r i = r j → i = j) → (∀ i : Nat, i < N' → r i ∉ L) → va_K D cl (tys ++ [(cA, .array ty)]) s →
      va_P D cl ((X ++ [(q, .inl (cA, N', .inr (.inr (.inr (.inr (fun i => if i < N' then some (r i) else none))))))]) ++ va_pl (L ++ (List.range N').map r) (vr_up f ((List.range N').map r) (.inl (cy, z)))) H1 → va_D A ((X ++ [(q, .inl (cA, N', .inr (.inr (.inr (.inr (fun i => if i < N' then some (r i) else none))))))]) ++ va_pl (L ++ (List.range N').map r) (vr_up f ((List.range N').map r) (.inl (cy, z)))) → va_S A H0 H1 locs →
      W p l e R s m args below meth c H1 locs (cells + 1 + N') (slots + N' + N' * K') Q (F0 m (pc + 4) ls (.ref q :: rest))) : W p l e R s m args below meth c H locs cells slots Q (F0 m pc ls (.int k :: .int n :: rest)) := by
  subst hN
  subst hM
  intro T hT Xs
  obtain ⟨vm₁, cA, comp, -, fA, fC, hO, -, X', step⟩ := Xs.multianewarray2F hexec hown hclink (zAOA.use hover) harr (g := F0 m pc ls (.int k :: .int n :: rest)) rfl (by rw [hb]; exact hdg) rfl hn hk hb1 hb2 hb3 hdf hdd hcells hslots
  have ec : some cy = some comp := hcy.symm.trans fC
  cases ec
  generalize hF : Jvm.Free.Multi.fill (T.setVm vm₁) cA cy n.toNatClampNeg k.toNatClampNeg (defaultValue ty) n.toNatClampNeg = F at X' step
  have hTh : (T.setVm vm₁).heap = H := hT
  obtain ⟨f1, f2, -, -⟩ := Jvm.Free.Multi.fill_facts (T.setVm vm₁) cA cy n.toNatClampNeg k.toNatClampNeg (defaultValue ty) n.toNatClampNeg
  rw [hF, hTh] at f1 f2
  have hold : ∀ x : Nat, x < H.size → F.heap[x]? = H[x]? := fun x hx => by
    have := Jvm.Free.Multi.fill_old (T.setVm vm₁) cA cy n.toNatClampNeg k.toNatClampNeg (defaultValue ty) (a := x) (by rw [hTh]; exact hx) n.toNatClampNeg
    rw [hF, hTh] at this
    exact this
  have hrow : ∀ j : Nat, j < n.toNatClampNeg → F.heap[H.size + 1 + j]? = some (vp_cell cy z) := fun j hj => by
    have := Jvm.Free.Multi.fill_inner (T.setVm vm₁) cA cy n.toNatClampNeg k.toNatClampNeg (defaultValue ty) n.toNatClampNeg j hj
    rw [hF, hTh, hz] at this
    exact this
  have hout : Jvm.Free.Multi.outerC cA n.toNatClampNeg H.size n.toNatClampNeg = vp_cell cA (n.toNatClampNeg, .inr (.inr (.inr (.inr (fun i => if i < n.toNatClampNeg then some (H.size + 1 + i) else none))))) := by
    rw [vp_cell_q]
    exact vr_outer cA n.toNatClampNeg H.size n.toNatClampNeg
  rw [hout] at f2
  have hlt : ∀ a, a ∈ L → a < H.size := fun a ha => by
    obtain ⟨k9, hk9⟩ := va_pl_get (X := X) (f := f) ha
    exact (hP k9 _ hk9).lt
  have hnl : ∀ i : Nat, i < n.toNatClampNeg → H.size + 1 + i ∉ L := fun i _ h => by
    have := hlt _ h
    omega
  have hnm : ∀ a, a ∈ (List.range n.toNatClampNeg).map (fun i => H.size + 1 + i) → a ∉ L := fun a ha h => by
    obtain ⟨i, -, rfl⟩ := List.mem_map.mp ha
    have := hlt _ h
    omega
  have hP0 : va_P D cl (X ++ va_pl L f) F.heap := hP.kept (fun k9 x hx => hold x.1 ((hP k9 x hx).lt))
  have hP1 : va_P D cl ((X ++ va_pl L f) ++ [(H.size, .inl (cA, n.toNatClampNeg, .inr (.inr (.inr (.inr (fun i => if i < n.toNatClampNeg then some (H.size + 1 + i) else none))))))]) F.heap := hP0.app (fun k9 x hx => by
    have h0 : k9 < 1 := (List.getElem?_eq_some_iff.mp hx).1
    rw [show k9 = 0 by omega] at hx
    cases hx
    exact f2)
  have hP2 : va_P D cl (((X ++ va_pl L f) ++ [(H.size, .inl (cA, n.toNatClampNeg, .inr (.inr (.inr (.inr (fun i => if i < n.toNatClampNeg then some (H.size + 1 + i) else none))))))]) ++ ((List.range n.toNatClampNeg).map (fun i => H.size + 1 + i)).map (fun a => (a, .inl (cy, z)))) F.heap := hP1.app (fun k9 x hx => by
    obtain ⟨a, ha, rfl⟩ := List.mem_map.mp (List.mem_of_getElem? hx)
    obtain ⟨i, hi, rfl⟩ := List.mem_map.mp ha
    exact hrow i (List.mem_range.mp hi))
  have hD2 : va_D A (((X ++ va_pl L f) ++ [(H.size, .inl (cA, n.toNatClampNeg, .inr (.inr (.inr (.inr (fun i => if i < n.toNatClampNeg then some (H.size + 1 + i) else none))))))]) ++ ((List.range n.toNatClampNeg).map (fun i => H.size + 1 + i)).map (fun a => (a, .inl (cy, z)))) := by
    have hD1 := hD.push (e := .inl (cA, n.toNatClampNeg, .inr (.inr (.inr (.inr (fun i => if i < n.toNatClampNeg then some (H.size + 1 + i) else none)))))) hP rfl (hA _ hS.1)
    generalize hW1 : (X ++ va_pl L f) ++ [(H.size, .inl (cA, n.toNatClampNeg, .inr (.inr (.inr (.inr (fun i => if i < n.toNatClampNeg then some (H.size + 1 + i) else none))))))] = W1 at hD1 hP1 ⊢
    have hle : ∀ (k9 : Nat) (x : Nat × va_E), W1[k9]? = some x → x.1 ≤ H.size := fun k9 x hx => by
      rw [← hW1] at hx
      by_cases hl : k9 < (X ++ va_pl L f).length
      · rw [List.getElem?_append_left hl] at hx
        exact Nat.le_of_lt ((hP k9 x hx).lt)
      · rw [List.getElem?_append_right (by omega)] at hx
        have h0 : k9 - (X ++ va_pl L f).length < 1 := (List.getElem?_eq_some_iff.mp hx).1
        rw [show k9 - (X ++ va_pl L f).length = 0 by omega] at hx
        cases hx
        exact Nat.le_refl _
    have hr : ∀ (k9 : Nat) (x : Nat × va_E), (((List.range n.toNatClampNeg).map (fun i => H.size + 1 + i)).map (fun a => ((a, .inl (cy, z)) : Nat × va_E)))[k9]? = some x → x.1 = H.size + 1 + k9 := fun k9 x hx => by
      rw [List.getElem?_map, List.getElem?_map] at hx
      by_cases h9 : k9 < n.toNatClampNeg
      · rw [List.getElem?_range h9] at hx
        cases hx
        rfl
      · have hn0 : (List.range n.toNatClampNeg)[k9]? = none := List.getElem?_eq_none (by rw [List.length_range]; omega)
        rw [hn0] at hx
        cases hx
    refine ⟨fun i j x y hi hj hxy => ?_, fun k9 x hx => ?_⟩
    · by_cases h1 : i < W1.length <;> by_cases h2 : j < W1.length
      · rw [List.getElem?_append_left h1] at hi
        rw [List.getElem?_append_left h2] at hj
        exact hD1.1 i j x y hi hj hxy
      · rw [List.getElem?_append_left h1] at hi
        rw [List.getElem?_append_right (by omega)] at hj
        have := hle _ _ hi
        have := hr _ _ hj
        omega
      · rw [List.getElem?_append_right (by omega)] at hi
        rw [List.getElem?_append_left h2] at hj
        have := hle _ _ hj
        have := hr _ _ hi
        omega
      · rw [List.getElem?_append_right (by omega)] at hi hj
        have := hr _ _ hi
        have := hr _ _ hj
        omega
    · by_cases h1 : k9 < W1.length
      · rw [List.getElem?_append_left h1] at hx
        exact hD1.2 k9 x hx
      · rw [List.getElem?_append_right (by omega)] at hx
        have := hr _ _ hx
        exact hA _ (by have := hS.1; omega)
  have hAr : ArrOfT s cA (.array ty) := fun N9 z9 => by
    obtain ⟨-, k9, hk9, cm9, hkk9⟩ := (hO 0 0 0).1
    exact ⟨(fun q hq => by cases hq), k9, hk9, cm9, hkk9⟩
  have hK2 : va_K D cl (tys ++ [(cA, .array ty)]) s := ⟨hK.1, fun k9 x hx => by
    by_cases hl : k9 < tys.length
    · rw [List.getElem?_append_left hl] at hx
      exact hK.2 k9 x hx
    · rw [List.getElem?_append_right (by omega)] at hx
      have h0 : k9 - tys.length < 1 := (List.getElem?_eq_some_iff.mp hx).1
      rw [show k9 - tys.length = 0 by omega] at hx
      cases hx
      exact ⟨hAr, fA⟩⟩
  obtain ⟨t, a1, b1⟩ := kk H.size (fun i => H.size + 1 + i) cA F.heap (fun i j _ _ h => by have h9 : H.size + 1 + i = H.size + 1 + j := h; omega) hnl hK2 (by rw [← vr_rows hnm]; exact vr_lay hP2) (by rw [← vr_rows hnm]; exact vr_layD hD2) ⟨by rw [f1]; have := hS.1; omega, fun x h1 h2 => (hold x (Nat.lt_of_lt_of_le h1 hS.1)).trans (hS.2.1 x h1 h2), hS.2.2⟩ F rfl X'
  refine ⟨t, step t ?_, b1⟩
  have e : T.heap.size = H.size := by rw [hT]
  rw [e]
  exact a1
end VGM
/-! ===== END ===== -/

/-! ===== BEGIN printed: names, fields, word lists, decode rows ===== -/
def RX0 : String := "PaperWay$Causes"
def TX0 : u_T := fun k => match k with
  | 0 => ("PaperWay$Causes", "observed", "I", false)
  | 1 => ("PaperWay$Causes", "found", "I", false)
  | 2 => ("PaperWay$Causes", "first", "I", false)
  | 3 => ("PaperWay$Causes", "second", "I", false)
  | 4 => ("PaperWay$Causes", "told", "[Z", true)
  | 5 => ("PaperWay$Causes", "on", "[I", true)
  | 6 => ("PaperWay$Causes", "off", "[I", true)
  | 7 => ("PaperWay$Causes", "reach", "[I", true)
  | 8 => ("PaperWay$Causes", "trial", "LPaperWay$Traffic;", true)
  | 9 => ("PaperWay$Causes", "trialFlaws", "LPaperWay$Flaws;", true)
  | _ => ("PaperWay$Causes", "soughtLength", "I", false)
def tyX0 : Nat → FieldType := fun k => match k with
  | 0 => .int
  | 1 => .int
  | 2 => .int
  | 3 => .int
  | 4 => .array .boolean
  | 5 => .array .int
  | 6 => .array .int
  | 7 => .array .int
  | 8 => .object "PaperWay$Traffic"
  | 9 => .object "PaperWay$Flaws"
  | _ => .int
abbrev wsX00 : List Cond := u_ws RX0 TX0 11
theorem nmX0 : ∀ a, a < 11 → ∀ b, b < 11 → a ≠ b → (TX0 a).2.1 ≠ (TX0 b).2.1 := by decide +kernel
theorem tyX0_ok : ∀ k, k < 11 → parseFieldDescriptor (TX0 k).2.2.1 = some (tyX0 k) := by decide +kernel
abbrev cX0_init : ByteArray := prog_2_method_1_code
def yX0_init : MethodName := ⟨RX0, "<init>", "()V"⟩
abbrev cX0_observe : ByteArray := prog_2_method_2_code
def yX0_observe : MethodName := ⟨RX0, "observe", "(III)Z"⟩
abbrev cX0_canBe : ByteArray := prog_2_method_3_code
def yX0_canBe : MethodName := ⟨RX0, "canBe", "(II)Z"⟩
abbrev cX0_dropObserved : ByteArray := prog_2_method_4_code
def yX0_dropObserved : MethodName := ⟨RX0, "dropObserved", "()I"⟩
abbrev cX0_seek : ByteArray := prog_2_method_5_code
def yX0_seek : MethodName := ⟨RX0, "seek", "(LPaperWay$Way;I)V"⟩
abbrev cX0_isWorthTrying : ByteArray := prog_2_method_6_code
def yX0_isWorthTrying : MethodName := ⟨RX0, "isWorthTrying", "(LPaperWay$Way;I)Z"⟩
abbrev cX0_canMatter : ByteArray := prog_2_method_7_code
def yX0_canMatter : MethodName := ⟨RX0, "canMatter", "(LPaperWay$Way;II)Z"⟩
abbrev cX0_explains : ByteArray := prog_2_method_8_code
def yX0_explains : MethodName := ⟨RX0, "explains", "(LPaperWay$Way;III)Z"⟩
abbrev cX0_putFlaw : ByteArray := prog_2_method_9_code
def yX0_putFlaw : MethodName := ⟨RX0, "putFlaw", "(LPaperWay$Way;I)V"⟩
abbrev cX0_isSeenSo : ByteArray := prog_2_method_10_code
def yX0_isSeenSo : MethodName := ⟨RX0, "isSeenSo", "(LPaperWay$Way;III)Z"⟩
abbrev cX0_allSeenBy : ByteArray := prog_2_method_11_code
def yX0_allSeenBy : MethodName := ⟨RX0, "allSeenBy", "(LPaperWay$Way;I)Z"⟩
abbrev cX0_firstToFail : ByteArray := prog_2_method_12_code
def yX0_firstToFail : MethodName := ⟨RX0, "firstToFail", "(LPaperWay$Way;LPaperWay$Flaws;III)I"⟩
def RX1 : String := "PaperWay$Flaws"
def TX1 : u_T := fun k => match k with
  | 0 => ("PaperWay$Flaws", "wear", "[I", true)
  | 1 => ("PaperWay$Flaws", "beat", "[I", true)
  | 2 => ("PaperWay$Flaws", "cornerPlace", "[I", true)
  | _ => ("PaperWay$Flaws", "corners", "I", false)
def tyX1 : Nat → FieldType := fun k => match k with
  | 0 => .array .int
  | 1 => .array .int
  | 2 => .array .int
  | _ => .int
abbrev wsX10 : List Cond := u_ws RX1 TX1 4
theorem nmX1 : ∀ a, a < 4 → ∀ b, b < 4 → a ≠ b → (TX1 a).2.1 ≠ (TX1 b).2.1 := by decide +kernel
theorem tyX1_ok : ∀ k, k < 4 → parseFieldDescriptor (TX1 k).2.2.1 = some (tyX1 k) := by decide +kernel
abbrev cX1_init : ByteArray := prog_3_method_1_code
def yX1_init : MethodName := ⟨RX1, "<init>", "()V"⟩
abbrev cX1_reset : ByteArray := prog_3_method_2_code
def yX1_reset : MethodName := ⟨RX1, "reset", "()V"⟩
abbrev cX1_becomeLike : ByteArray := prog_3_method_3_code
def yX1_becomeLike : MethodName := ⟨RX1, "becomeLike", "(LPaperWay$Flaws;)V"⟩
abbrev cX1_changeWear : ByteArray := prog_3_method_4_code
def yX1_changeWear : MethodName := ⟨RX1, "changeWear", "(II)I"⟩
abbrev cX1_changeBeat : ByteArray := prog_3_method_5_code
def yX1_changeBeat : MethodName := ⟨RX1, "changeBeat", "(II)I"⟩
abbrev cX1_leaveCorner : ByteArray := prog_3_method_6_code
def yX1_leaveCorner : MethodName := ⟨RX1, "leaveCorner", "(I)Z"⟩
abbrev cX1_takeCorner : ByteArray := prog_3_method_7_code
def yX1_takeCorner : MethodName := ⟨RX1, "takeCorner", "(I)Z"⟩
abbrev cX1_cornerAt : ByteArray := prog_3_method_8_code
def yX1_cornerAt : MethodName := ⟨RX1, "cornerAt", "(I)I"⟩
abbrev cX1_cornerLimit : ByteArray := prog_3_method_9_code
def yX1_cornerLimit : MethodName := ⟨RX1, "cornerLimit", "(I)I"⟩
abbrev cX1_driveOf : ByteArray := prog_3_method_10_code
def yX1_driveOf : MethodName := ⟨RX1, "driveOf", "(LPaperWay$Way;III)I"⟩
def RX2 : String := "PaperWay$Job"
def TX2 : u_T := fun k => match k with
  | 0 => ("PaperWay$Job", "pages", "I", false)
  | 1 => ("PaperWay$Job", "pageKind", "[I", true)
  | 2 => ("PaperWay$Job", "pageBoth", "[Z", true)
  | 3 => ("PaperWay$Job", "trayKind", "[I", true)
  | 4 => ("PaperWay$Job", "trayPaper", "[Z", true)
  | 5 => ("PaperWay$Job", "hold", "I", false)
  | 6 => ("PaperWay$Job", "rest", "I", false)
  | 7 => ("PaperWay$Job", "heatFirst", "I", false)
  | 8 => ("PaperWay$Job", "heatNeed", "I", false)
  | 9 => ("PaperWay$Job", "heatCost", "I", false)
  | 10 => ("PaperWay$Job", "heatGain", "I", false)
  | 11 => ("PaperWay$Job", "copyNumber", "I", false)
  | 12 => ("PaperWay$Job", "stacked", "I", false)
  | 13 => ("PaperWay$Job", "stack", "[I", true)
  | 14 => ("PaperWay$Job", "partCost", "[I", true)
  | 15 => ("PaperWay$Job", "partWeeks", "[I", true)
  | 16 => ("PaperWay$Job", "partAge", "[I", true)
  | _ => ("PaperWay$Job", "partTold", "[Z", true)
def tyX2 : Nat → FieldType := fun k => match k with
  | 0 => .int
  | 1 => .array .int
  | 2 => .array .boolean
  | 3 => .array .int
  | 4 => .array .boolean
  | 5 => .int
  | 6 => .int
  | 7 => .int
  | 8 => .int
  | 9 => .int
  | 10 => .int
  | 11 => .int
  | 12 => .int
  | 13 => .array .int
  | 14 => .array .int
  | 15 => .array .int
  | 16 => .array .int
  | _ => .array .boolean
abbrev wsX20 : List Cond := u_ws RX2 TX2 18
theorem nmX2 : ∀ a, a < 18 → ∀ b, b < 18 → a ≠ b → (TX2 a).2.1 ≠ (TX2 b).2.1 := by decide +kernel
theorem tyX2_ok : ∀ k, k < 18 → parseFieldDescriptor (TX2 k).2.2.1 = some (tyX2 k) := by decide +kernel
abbrev cX2_init : ByteArray := prog_4_method_1_code
def yX2_init : MethodName := ⟨RX2, "<init>", "()V"⟩
abbrev cX2_addPage : ByteArray := prog_4_method_2_code
def yX2_addPage : MethodName := ⟨RX2, "addPage", "(IZ)I"⟩
abbrev cX2_stackSides : ByteArray := prog_4_method_3_code
def yX2_stackSides : MethodName := ⟨RX2, "stackSides", "()I"⟩
abbrev cX2_becomeLike : ByteArray := prog_4_method_4_code
def yX2_becomeLike : MethodName := ⟨RX2, "becomeLike", "(LPaperWay$Job;)V"⟩
def RX3 : String := "PaperWay$Keeper"
def TX3 : u_T := fun k => match k with
  | 0 => ("PaperWay$Keeper", "fresh", "Z", false)
  | 1 => ("PaperWay$Keeper", "wanted", "I", false)
  | 2 => ("PaperWay$Keeper", "pairs", "I", false)
  | 3 => ("PaperWay$Keeper", "paired", "[I", true)
  | _ => ("PaperWay$Keeper", "room", "[I", true)
def tyX3 : Nat → FieldType := fun k => match k with
  | 0 => .boolean
  | 1 => .int
  | 2 => .int
  | 3 => .array .int
  | _ => .array .int
abbrev wsX30 : List Cond := u_ws RX3 TX3 5
theorem nmX3 : ∀ a, a < 5 → ∀ b, b < 5 → a ≠ b → (TX3 a).2.1 ≠ (TX3 b).2.1 := by decide +kernel
theorem tyX3_ok : ∀ k, k < 5 → parseFieldDescriptor (TX3 k).2.2.1 = some (tyX3 k) := by decide +kernel
abbrev cX3_init : ByteArray := prog_5_method_1_code
def yX3_init : MethodName := ⟨RX3, "<init>", "()V"⟩
abbrev cX3_pair : ByteArray := prog_5_method_2_code
def yX3_pair : MethodName := ⟨RX3, "pair", "(LPaperWay$Job;)V"⟩
abbrev cX3_measureRoom : ByteArray := prog_5_method_3_code
def yX3_measureRoom : MethodName := ⟨RX3, "measureRoom", "(LPaperWay$Job;)V"⟩
abbrev cX3_lastPlaceBelow : ByteArray := prog_5_method_4_code
def yX3_lastPlaceBelow : MethodName := ⟨RX3, "lastPlaceBelow", "(III)I"⟩
abbrev cX3_pairInOrder : ByteArray := prog_5_method_5_code
def yX3_pairInOrder : MethodName := ⟨RX3, "pairInOrder", "(LPaperWay$Job;)V"⟩
abbrev cX3_earliest : ByteArray := prog_5_method_6_code
def yX3_earliest : MethodName := ⟨RX3, "earliest", "(LPaperWay$Job;II)I"⟩
abbrev cX3_lackingPlace : ByteArray := prog_5_method_7_code
def yX3_lackingPlace : MethodName := ⟨RX3, "lackingPlace", "(I)I"⟩
abbrev cX3_wholeCopies : ByteArray := prog_5_method_8_code
def yX3_wholeCopies : MethodName := ⟨RX3, "wholeCopies", "(LPaperWay$Job;)I"⟩
def RX4 : String := "PaperWay$Memory"
def TX4 : u_T := fun k => match k with
  | 0 => ("PaperWay$Memory", "number", "[[J", true)
  | 1 => ("PaperWay$Memory", "sort", "[I", true)
  | _ => ("PaperWay$Memory", "size", "[I", true)
def tyX4 : Nat → FieldType := fun k => match k with
  | 0 => .array (.array .long)
  | 1 => .array .int
  | _ => .array .int
abbrev wsX40 : List Cond := u_ws RX4 TX4 3
theorem nmX4 : ∀ a, a < 3 → ∀ b, b < 3 → a ≠ b → (TX4 a).2.1 ≠ (TX4 b).2.1 := by decide +kernel
theorem tyX4_ok : ∀ k, k < 3 → parseFieldDescriptor (TX4 k).2.2.1 = some (tyX4 k) := by decide +kernel
abbrev cX4_init : ByteArray := prog_6_method_1_code
def yX4_init : MethodName := ⟨RX4, "<init>", "()V"⟩
abbrev cX4_make : ByteArray := prog_6_method_2_code
def yX4_make : MethodName := ⟨RX4, "make", "(III)V"⟩
abbrev cX4_cut : ByteArray := prog_6_method_3_code
def yX4_cut : MethodName := ⟨RX4, "cut", "(JI)J"⟩
abbrev cX4_tellsPages : ByteArray := prog_6_method_4_code
def yX4_tellsPages : MethodName := ⟨RX4, "tellsPages", "(III)Z"⟩
def RX5 : String := "PaperWay$Planner"
def TX5 : u_T := fun k => match k with
  | 0 => ("PaperWay$Planner", "fresh", "Z", false)
  | 1 => ("PaperWay$Planner", "slots", "I", false)
  | 2 => ("PaperWay$Planner", "acts", "[I", true)
  | 3 => ("PaperWay$Planner", "queue", "[J", true)
  | 4 => ("PaperWay$Planner", "met", "[J", true)
  | 5 => ("PaperWay$Planner", "queued", "I", false)
  | 6 => ("PaperWay$Planner", "goal", "I", false)
  | 7 => ("PaperWay$Planner", "job", "LPaperWay$Job;", false)
  | 8 => ("PaperWay$Planner", "fed", "I", false)
  | 9 => ("PaperWay$Planner", "young", "I", false)
  | 10 => ("PaperWay$Planner", "ripe", "I", false)
  | 11 => ("PaperWay$Planner", "heatNow", "I", false)
  | 12 => ("PaperWay$Planner", "lastTray", "I", false)
  | _ => ("PaperWay$Planner", "stopAhead", "Z", false)
def tyX5 : Nat → FieldType := fun k => match k with
  | 0 => .boolean
  | 1 => .int
  | 2 => .array .int
  | 3 => .array .long
  | 4 => .array .long
  | 5 => .int
  | 6 => .int
  | 7 => .object "PaperWay$Job"
  | 8 => .int
  | 9 => .int
  | 10 => .int
  | 11 => .int
  | 12 => .int
  | _ => .boolean
abbrev wsX50 : List Cond := u_ws RX5 TX5 14
theorem nmX5 : ∀ a, a < 14 → ∀ b, b < 14 → a ≠ b → (TX5 a).2.1 ≠ (TX5 b).2.1 := by decide +kernel
theorem tyX5_ok : ∀ k, k < 14 → parseFieldDescriptor (TX5 k).2.2.1 = some (tyX5 k) := by decide +kernel
abbrev cX5_init : ByteArray := prog_7_method_1_code
def yX5_init : MethodName := ⟨RX5, "<init>", "()V"⟩
abbrev cX5_seek : ByteArray := prog_7_method_2_code
def yX5_seek : MethodName := ⟨RX5, "seek", "(LPaperWay$Job;)V"⟩
abbrev cX5_hasPaperForAll : ByteArray := prog_7_method_3_code
def yX5_hasPaperForAll : MethodName := ⟨RX5, "hasPaperForAll", "()Z"⟩
abbrev cX5_gives : ByteArray := prog_7_method_4_code
def yX5_gives : MethodName := ⟨RX5, "gives", "(II)Z"⟩
abbrev cX5_leave : ByteArray := prog_7_method_5_code
def yX5_leave : MethodName := ⟨RX5, "leave", "(I)V"⟩
abbrev cX5_takesNext : ByteArray := prog_7_method_6_code
def yX5_takesNext : MethodName := ⟨RX5, "takesNext", "()Z"⟩
abbrev cX5_feedFromEach : ByteArray := prog_7_method_7_code
def yX5_feedFromEach : MethodName := ⟨RX5, "feedFromEach", "(IIJ)V"⟩
abbrev cX5_agedPocket : ByteArray := prog_7_method_8_code
def yX5_agedPocket : MethodName := ⟨RX5, "agedPocket", "(II)I"⟩
abbrev cX5_unpack : ByteArray := prog_7_method_9_code
def yX5_unpack : MethodName := ⟨RX5, "unpack", "(I)V"⟩
abbrev cX5_meet : ByteArray := prog_7_method_10_code
def yX5_meet : MethodName := ⟨RX5, "meet", "(IIIIIJ)V"⟩
abbrev cX5_traceBack : ByteArray := prog_7_method_11_code
def yX5_traceBack : MethodName := ⟨RX5, "traceBack", "()V"⟩
abbrev cX5_parentOf : ByteArray := prog_7_method_12_code
def yX5_parentOf : MethodName := ⟨RX5, "parentOf", "(I)I"⟩
def RX6 : String := "PaperWay$Reader"
def TX6 : u_T := fun k => match k with
  | 0 => ("PaperWay$Reader", "tape", "[B", true)
  | 1 => ("PaperWay$Reader", "size", "I", false)
  | 2 => ("PaperWay$Reader", "faultKind", "I", false)
  | 3 => ("PaperWay$Reader", "faultPlace", "I", false)
  | 4 => ("PaperWay$Reader", "kind", "[I", true)
  | 5 => ("PaperWay$Reader", "place", "[I", true)
  | 6 => ("PaperWay$Reader", "value", "[I", true)
  | 7 => ("PaperWay$Reader", "tokens", "I", false)
  | 8 => ("PaperWay$Reader", "current", "I", false)
  | 9 => ("PaperWay$Reader", "end", "I", false)
  | _ => ("PaperWay$Reader", "at", "I", false)
def tyX6 : Nat → FieldType := fun k => match k with
  | 0 => .array .byte
  | 1 => .int
  | 2 => .int
  | 3 => .int
  | 4 => .array .int
  | 5 => .array .int
  | 6 => .array .int
  | 7 => .int
  | 8 => .int
  | 9 => .int
  | _ => .int
abbrev wsX60 : List Cond := u_ws RX6 TX6 11
theorem nmX6 : ∀ a, a < 11 → ∀ b, b < 11 → a ≠ b → (TX6 a).2.1 ≠ (TX6 b).2.1 := by decide +kernel
theorem tyX6_ok : ∀ k, k < 11 → parseFieldDescriptor (TX6 k).2.2.1 = some (tyX6 k) := by decide +kernel
abbrev cX6_init : ByteArray := prog_8_method_1_code
def yX6_init : MethodName := ⟨RX6, "<init>", "()V"⟩
abbrev cX6_hasRoomForFive : ByteArray := prog_8_method_2_code
def yX6_hasRoomForFive : MethodName := ⟨RX6, "hasRoomForFive", "()Z"⟩
abbrev cX6_append : ByteArray := prog_8_method_3_code
def yX6_append : MethodName := ⟨RX6, "append", "(I)V"⟩
abbrev cX6_readWay : ByteArray := prog_8_method_4_code
def yX6_readWay : MethodName := ⟨RX6, "readWay", "(LPaperWay$Way;I)I"⟩
abbrev cX6_splitTokens : ByteArray := prog_8_method_5_code
def yX6_splitTokens : MethodName := ⟨RX6, "splitTokens", "(I)V"⟩
abbrev cX6_nextKind : ByteArray := prog_8_method_6_code
def yX6_nextKind : MethodName := ⟨RX6, "nextKind", "()I"⟩
abbrev cX6_nextNumber : ByteArray := prog_8_method_7_code
def yX6_nextNumber : MethodName := ⟨RX6, "nextNumber", "()I"⟩
abbrev cX6_nextWord : ByteArray := prog_8_method_8_code
def yX6_nextWord : MethodName := ⟨RX6, "nextWord", "()I"⟩
abbrev cX6_wordOfFour : ByteArray := prog_8_method_9_code
def yX6_wordOfFour : MethodName := ⟨RX6, "wordOfFour", "(I)I"⟩
abbrev cX6_isAt : ByteArray := prog_8_method_10_code
def yX6_isAt : MethodName := ⟨RX6, "isAt", "(ILjava/lang/String;)Z"⟩
abbrev cX6_readLine : ByteArray := prog_8_method_11_code
def yX6_readLine : MethodName := ⟨RX6, "readLine", "(LPaperWay$Way;Z)V"⟩
abbrev cX6_readRoller : ByteArray := prog_8_method_12_code
def yX6_readRoller : MethodName := ⟨RX6, "readRoller", "(LPaperWay$Way;)V"⟩
abbrev cX6_readEye : ByteArray := prog_8_method_13_code
def yX6_readEye : MethodName := ⟨RX6, "readEye", "(LPaperWay$Way;)V"⟩
abbrev cX6_readTurn : ByteArray := prog_8_method_14_code
def yX6_readTurn : MethodName := ⟨RX6, "readTurn", "(LPaperWay$Way;)V"⟩
abbrev cX6_readDamp : ByteArray := prog_8_method_15_code
def yX6_readDamp : MethodName := ⟨RX6, "readDamp", "(LPaperWay$Way;)V"⟩
abbrev cX6_readNumber : ByteArray := prog_8_method_16_code
def yX6_readNumber : MethodName := ⟨RX6, "readNumber", "(II)I"⟩
abbrev cX6_want : ByteArray := prog_8_method_17_code
def yX6_want : MethodName := ⟨RX6, "want", "(I)V"⟩
abbrev cX6_goOn : ByteArray := prog_8_method_18_code
def yX6_goOn : MethodName := ⟨RX6, "goOn", "()V"⟩
abbrev cX6_blame : ByteArray := prog_8_method_19_code
def yX6_blame : MethodName := ⟨RX6, "blame", "(I)V"⟩
abbrev cX6_isBlank : ByteArray := prog_8_method_20_code
def yX6_isBlank : MethodName := ⟨RX6, "isBlank", "(B)Z"⟩
abbrev cX6_isLetter : ByteArray := prog_8_method_21_code
def yX6_isLetter : MethodName := ⟨RX6, "isLetter", "(B)Z"⟩
abbrev cX6_isDigit : ByteArray := prog_8_method_22_code
def yX6_isDigit : MethodName := ⟨RX6, "isDigit", "(B)Z"⟩
def RX7 : String := "PaperWay$Rounds"
def TX7 : u_T := fun k => match k with
  | 0 => ("PaperWay$Rounds", "weeks", "I", false)
  | 1 => ("PaperWay$Rounds", "total", "I", false)
  | 2 => ("PaperWay$Rounds", "visits", "I", false)
  | 3 => ("PaperWay$Rounds", "renewed", "I", false)
  | 4 => ("PaperWay$Rounds", "priceSought", "I", false)
  | _ => ("PaperWay$Rounds", "newOnes", "I", false)
def tyX7 : Nat → FieldType := fun k => match k with
  | 0 => .int
  | 1 => .int
  | 2 => .int
  | 3 => .int
  | 4 => .int
  | _ => .int
abbrev wsX70 : List Cond := u_ws RX7 TX7 6
theorem nmX7 : ∀ a, a < 6 → ∀ b, b < 6 → a ≠ b → (TX7 a).2.1 ≠ (TX7 b).2.1 := by decide +kernel
theorem tyX7_ok : ∀ k, k < 6 → parseFieldDescriptor (TX7 k).2.2.1 = some (tyX7 k) := by decide +kernel
abbrev cX7_init : ByteArray := prog_9_method_1_code
def yX7_init : MethodName := ⟨RX7, "<init>", "()V"⟩
abbrev cX7_seek : ByteArray := prog_9_method_2_code
def yX7_seek : MethodName := ⟨RX7, "seek", "(LPaperWay$Job;II)V"⟩
abbrev cX7_isBetter : ByteArray := prog_9_method_3_code
def yX7_isBetter : MethodName := ⟨RX7, "isBetter", "(II)Z"⟩
abbrev cX7_costOfNewOnes : ByteArray := prog_9_method_4_code
def yX7_costOfNewOnes : MethodName := ⟨RX7, "costOfNewOnes", "(LPaperWay$Job;II)I"⟩
abbrev cX7_timesNew : ByteArray := prog_9_method_5_code
def yX7_timesNew : MethodName := ⟨RX7, "timesNew", "(IIII)I"⟩
def RX8 : String := "PaperWay$Traffic"
def TX8 : u_T := fun k => match k with
  | 0 => ("PaperWay$Traffic", "watch", "LPaperWay$Watch;", true)
  | 1 => ("PaperWay$Traffic", "sheets", "I", false)
  | 2 => ("PaperWay$Traffic", "now", "I", false)
  | 3 => ("PaperWay$Traffic", "jammed", "I", false)
  | 4 => ("PaperWay$Traffic", "pocketed", "I", false)
  | 5 => ("PaperWay$Traffic", "state", "[I", true)
  | 6 => ("PaperWay$Traffic", "head", "[I", true)
  | 7 => ("PaperWay$Traffic", "side", "[I", true)
  | 8 => ("PaperWay$Traffic", "stood", "[I", true)
  | 9 => ("PaperWay$Traffic", "tenths", "[I", true)
  | 10 => ("PaperWay$Traffic", "came", "[I", true)
  | 11 => ("PaperWay$Traffic", "turned", "[Z", true)
  | 12 => ("PaperWay$Traffic", "line", "[I", true)
  | 13 => ("PaperWay$Traffic", "lined", "I", false)
  | 14 => ("PaperWay$Traffic", "pocketRow", "[I", true)
  | 15 => ("PaperWay$Traffic", "way", "LPaperWay$Way;", false)
  | _ => ("PaperWay$Traffic", "flaws", "LPaperWay$Flaws;", false)
def tyX8 : Nat → FieldType := fun k => match k with
  | 0 => .object "PaperWay$Watch"
  | 1 => .int
  | 2 => .int
  | 3 => .int
  | 4 => .int
  | 5 => .array .int
  | 6 => .array .int
  | 7 => .array .int
  | 8 => .array .int
  | 9 => .array .int
  | 10 => .array .int
  | 11 => .array .boolean
  | 12 => .array .int
  | 13 => .int
  | 14 => .array .int
  | 15 => .object "PaperWay$Way"
  | _ => .object "PaperWay$Flaws"
abbrev wsX80 : List Cond := u_ws RX8 TX8 17
theorem nmX8 : ∀ a, a < 17 → ∀ b, b < 17 → a ≠ b → (TX8 a).2.1 ≠ (TX8 b).2.1 := by decide +kernel
theorem tyX8_ok : ∀ k, k < 17 → parseFieldDescriptor (TX8 k).2.2.1 = some (tyX8 k) := by decide +kernel
abbrev cX8_init : ByteArray := prog_10_method_1_code
def yX8_init : MethodName := ⟨RX8, "<init>", "()V"⟩
abbrev cX8_start : ByteArray := prog_10_method_2_code
def yX8_start : MethodName := ⟨RX8, "start", "(LPaperWay$Way;LPaperWay$Flaws;)V"⟩
abbrev cX8_isFull : ByteArray := prog_10_method_3_code
def yX8_isFull : MethodName := ⟨RX8, "isFull", "()Z"⟩
abbrev cX8_tailOf : ByteArray := prog_10_method_4_code
def yX8_tailOf : MethodName := ⟨RX8, "tailOf", "(I)I"⟩
abbrev cX8_isFreeFor : ByteArray := prog_10_method_5_code
def yX8_isFreeFor : MethodName := ⟨RX8, "isFreeFor", "(I)Z"⟩
abbrev cX8_begin : ByteArray := prog_10_method_6_code
def yX8_begin : MethodName := ⟨RX8, "begin", "(IZ)I"⟩
abbrev cX8_liesFree : ByteArray := prog_10_method_7_code
def yX8_liesFree : MethodName := ⟨RX8, "liesFree", "(II)Z"⟩
abbrev cX8_putOnWay : ByteArray := prog_10_method_8_code
def yX8_putOnWay : MethodName := ⟨RX8, "putOnWay", "(III)V"⟩
abbrev cX8_goOnce : ByteArray := prog_10_method_9_code
def yX8_goOnce : MethodName := ⟨RX8, "goOnce", "()V"⟩
abbrev cX8_carryOn : ByteArray := prog_10_method_10_code
def yX8_carryOn : MethodName := ⟨RX8, "carryOn", "()V"⟩
abbrev cX8_move : ByteArray := prog_10_method_11_code
def yX8_move : MethodName := ⟨RX8, "move", "(II)V"⟩
abbrev cX8_waits : ByteArray := prog_10_method_12_code
def yX8_waits : MethodName := ⟨RX8, "waits", "(I)Z"⟩
abbrev cX8_drive : ByteArray := prog_10_method_13_code
def yX8_drive : MethodName := ⟨RX8, "drive", "(II)V"⟩
abbrev cX8_enterPocket : ByteArray := prog_10_method_14_code
def yX8_enterPocket : MethodName := ⟨RX8, "enterPocket", "(I)V"⟩
abbrev cX8_findJam : ByteArray := prog_10_method_15_code
def yX8_findJam : MethodName := ⟨RX8, "findJam", "()V"⟩
abbrev cX8_comeBack : ByteArray := prog_10_method_16_code
def yX8_comeBack : MethodName := ⟨RX8, "comeBack", "()V"⟩
abbrev cX8_isUnderEye : ByteArray := prog_10_method_17_code
def yX8_isUnderEye : MethodName := ⟨RX8, "isUnderEye", "(I)Z"⟩
abbrev cX8_takeAll : ByteArray := prog_10_method_18_code
def yX8_takeAll : MethodName := ⟨RX8, "takeAll", "()I"⟩
def RX9 : String := "PaperWay$Watch"
def TX9 : u_T := fun k => match k with
  | 0 => ("PaperWay$Watch", "seeing", "[Z", true)
  | 1 => ("PaperWay$Watch", "passings", "[I", true)
  | 2 => ("PaperWay$Watch", "from", "[I", true)
  | 3 => ("PaperWay$Watch", "to", "[I", true)
  | _ => ("PaperWay$Watch", "open", "[I", true)
def tyX9 : Nat → FieldType := fun k => match k with
  | 0 => .array .boolean
  | 1 => .array .int
  | 2 => .array .int
  | 3 => .array .int
  | _ => .array .int
abbrev wsX90 : List Cond := u_ws RX9 TX9 5
theorem nmX9 : ∀ a, a < 5 → ∀ b, b < 5 → a ≠ b → (TX9 a).2.1 ≠ (TX9 b).2.1 := by decide +kernel
theorem tyX9_ok : ∀ k, k < 5 → parseFieldDescriptor (TX9 k).2.2.1 = some (tyX9 k) := by decide +kernel
abbrev cX9_init : ByteArray := prog_11_method_1_code
def yX9_init : MethodName := ⟨RX9, "<init>", "()V"⟩
abbrev cX9_reset : ByteArray := prog_11_method_2_code
def yX9_reset : MethodName := ⟨RX9, "reset", "()V"⟩
abbrev cX9_cutOff : ByteArray := prog_11_method_3_code
def yX9_cutOff : MethodName := ⟨RX9, "cutOff", "()V"⟩
abbrev cX9_look : ByteArray := prog_11_method_4_code
def yX9_look : MethodName := ⟨RX9, "look", "(IZI)V"⟩
abbrev cX9_close : ByteArray := prog_11_method_5_code
def yX9_close : MethodName := ⟨RX9, "close", "(II)V"⟩
def RX10 : String := "PaperWay$Way"
def TX10 : u_T := fun k => match k with
  | 0 => ("PaperWay$Way", "length", "I", false)
  | 1 => ("PaperWay$Way", "rollers", "I", false)
  | 2 => ("PaperWay$Way", "rollerPlace", "[I", true)
  | 3 => ("PaperWay$Way", "speed", "[I", true)
  | 4 => ("PaperWay$Way", "eyes", "I", false)
  | 5 => ("PaperWay$Way", "eyePlace", "[I", true)
  | 6 => ("PaperWay$Way", "turn", "I", false)
  | 7 => ("PaperWay$Way", "back", "I", false)
  | 8 => ("PaperWay$Way", "hold", "I", false)
  | 9 => ("PaperWay$Way", "rest", "I", false)
  | 10 => ("PaperWay$Way", "damp", "I", false)
  | _ => ("PaperWay$Way", "dampTold", "Z", false)
def tyX10 : Nat → FieldType := fun k => match k with
  | 0 => .int
  | 1 => .int
  | 2 => .array .int
  | 3 => .array .int
  | 4 => .int
  | 5 => .array .int
  | 6 => .int
  | 7 => .int
  | 8 => .int
  | 9 => .int
  | 10 => .int
  | _ => .boolean
abbrev wsX100 : List Cond := u_ws RX10 TX10 12
theorem nmX10 : ∀ a, a < 12 → ∀ b, b < 12 → a ≠ b → (TX10 a).2.1 ≠ (TX10 b).2.1 := by decide +kernel
theorem tyX10_ok : ∀ k, k < 12 → parseFieldDescriptor (TX10 k).2.2.1 = some (tyX10 k) := by decide +kernel
abbrev cX10_init : ByteArray := prog_12_method_1_code
def yX10_init : MethodName := ⟨RX10, "<init>", "()V"⟩
abbrev cX10_reset : ByteArray := prog_12_method_2_code
def yX10_reset : MethodName := ⟨RX10, "reset", "()V"⟩
abbrev cX10_hasRoller : ByteArray := prog_12_method_3_code
def yX10_hasRoller : MethodName := ⟨RX10, "hasRoller", "(I)Z"⟩
abbrev cX10_hasEye : ByteArray := prog_12_method_4_code
def yX10_hasEye : MethodName := ⟨RX10, "hasEye", "(I)Z"⟩
abbrev cX10_lastRollerPlace : ByteArray := prog_12_method_5_code
def yX10_lastRollerPlace : MethodName := ⟨RX10, "lastRollerPlace", "()I"⟩
abbrev cX10_lastEyePlace : ByteArray := prog_12_method_6_code
def yX10_lastEyePlace : MethodName := ⟨RX10, "lastEyePlace", "()I"⟩
abbrev cX10_creasesAre : ByteArray := prog_12_method_7_code
def yX10_creasesAre : MethodName := ⟨RX10, "creasesAre", "(IIIII)Z"⟩
def RX11 : String := "PaperWay"
def TX11 : u_T := fun k => match k with
  | 0 => ("PaperWay", "reader", "LPaperWay$Reader;", true)
  | 1 => ("PaperWay", "flaws", "LPaperWay$Flaws;", true)
  | 2 => ("PaperWay", "traffic", "LPaperWay$Traffic;", true)
  | 3 => ("PaperWay", "causes", "LPaperWay$Causes;", true)
  | 4 => ("PaperWay", "job", "LPaperWay$Job;", true)
  | 5 => ("PaperWay", "images", "[LPaperWay$Job;", true)
  | 6 => ("PaperWay", "imageMade", "[Z", true)
  | 7 => ("PaperWay", "planner", "LPaperWay$Planner;", true)
  | 8 => ("PaperWay", "keeper", "LPaperWay$Keeper;", true)
  | 9 => ("PaperWay", "rounds", "LPaperWay$Rounds;", true)
  | 10 => ("PaperWay", "memory", "LPaperWay$Memory;", true)
  | 11 => ("PaperWay", "way", "LPaperWay$Way;", false)
  | _ => ("PaperWay", "spareWay", "LPaperWay$Way;", false)
def tyX11 : Nat → FieldType := fun k => match k with
  | 0 => .object "PaperWay$Reader"
  | 1 => .object "PaperWay$Flaws"
  | 2 => .object "PaperWay$Traffic"
  | 3 => .object "PaperWay$Causes"
  | 4 => .object "PaperWay$Job"
  | 5 => .array (.object "PaperWay$Job")
  | 6 => .array .boolean
  | 7 => .object "PaperWay$Planner"
  | 8 => .object "PaperWay$Keeper"
  | 9 => .object "PaperWay$Rounds"
  | 10 => .object "PaperWay$Memory"
  | 11 => .object "PaperWay$Way"
  | _ => .object "PaperWay$Way"
abbrev wsX110 : List Cond := u_ws RX11 TX11 13
theorem nmX11 : ∀ a, a < 13 → ∀ b, b < 13 → a ≠ b → (TX11 a).2.1 ≠ (TX11 b).2.1 := by decide +kernel
theorem tyX11_ok : ∀ k, k < 13 → parseFieldDescriptor (TX11 k).2.2.1 = some (tyX11 k) := by decide +kernel
abbrev cX11_init : ByteArray := prog_1_method_1_code
def yX11_init : MethodName := ⟨RX11, "<init>", "()V"⟩
abbrev cX11_feed : ByteArray := prog_1_method_2_code
def yX11_feed : MethodName := ⟨RX11, "feed", "(IIIII)I"⟩
abbrev cX11_text : ByteArray := prog_1_method_3_code
def yX11_text : MethodName := ⟨RX11, "text", "(I)I"⟩
abbrev cX11_fault : ByteArray := prog_1_method_4_code
def yX11_fault : MethodName := ⟨RX11, "fault", "(I)I"⟩
abbrev cX11_set : ByteArray := prog_1_method_5_code
def yX11_set : MethodName := ⟨RX11, "set", "(III)I"⟩
abbrev cX11_corner : ByteArray := prog_1_method_6_code
def yX11_corner : MethodName := ⟨RX11, "corner", "(IZ)Z"⟩
abbrev cX11_lay : ByteArray := prog_1_method_7_code
def yX11_lay : MethodName := ⟨RX11, "lay", "(IZ)I"⟩
abbrev cX11_tick : ByteArray := prog_1_method_8_code
def yX11_tick : MethodName := ⟨RX11, "tick", "(I)I"⟩
abbrev cX11_sheet : ByteArray := prog_1_method_9_code
def yX11_sheet : MethodName := ⟨RX11, "sheet", "(II)I"⟩
abbrev cX11_clear : ByteArray := prog_1_method_10_code
def yX11_clear : MethodName := ⟨RX11, "clear", "(Z)I"⟩
abbrev cX11_sees : ByteArray := prog_1_method_11_code
def yX11_sees : MethodName := ⟨RX11, "sees", "(I)I"⟩
abbrev cX11_passing : ByteArray := prog_1_method_12_code
def yX11_passing : MethodName := ⟨RX11, "passing", "(III)I"⟩
abbrev cX11_saw : ByteArray := prog_1_method_13_code
def yX11_saw : MethodName := ⟨RX11, "saw", "(III)Z"⟩
abbrev cX11_forget : ByteArray := prog_1_method_14_code
def yX11_forget : MethodName := ⟨RX11, "forget", "()I"⟩
abbrev cX11_explain : ByteArray := prog_1_method_15_code
def yX11_explain : MethodName := ⟨RX11, "explain", "(II)I"⟩
abbrev cX11_foretold : ByteArray := prog_1_method_16_code
def yX11_foretold : MethodName := ⟨RX11, "foretold", "(III)I"⟩
abbrev cX11_crease : ByteArray := prog_1_method_17_code
def yX11_crease : MethodName := ⟨RX11, "crease", "(IIIII)I"⟩
abbrev cX11_page : ByteArray := prog_1_method_18_code
def yX11_page : MethodName := ⟨RX11, "page", "(IZ)I"⟩
abbrev cX11_tray : ByteArray := prog_1_method_19_code
def yX11_tray : MethodName := ⟨RX11, "tray", "(IIZ)Z"⟩
abbrev cX11_pocket : ByteArray := prog_1_method_20_code
def yX11_pocket : MethodName := ⟨RX11, "pocket", "(II)Z"⟩
abbrev cX11_heat : ByteArray := prog_1_method_21_code
def yX11_heat : MethodName := ⟨RX11, "heat", "(IIII)Z"⟩
abbrev cX11_plan : ByteArray := prog_1_method_22_code
def yX11_plan : MethodName := ⟨RX11, "plan", "(I)I"⟩
abbrev cX11_copies : ByteArray := prog_1_method_23_code
def yX11_copies : MethodName := ⟨RX11, "copies", "(I)I"⟩
abbrev cX11_out : ByteArray := prog_1_method_24_code
def yX11_out : MethodName := ⟨RX11, "out", "(I)I"⟩
abbrev cX11_empty : ByteArray := prog_1_method_25_code
def yX11_empty : MethodName := ⟨RX11, "empty", "()I"⟩
abbrev cX11_again : ByteArray := prog_1_method_26_code
def yX11_again : MethodName := ⟨RX11, "again", "(I)I"⟩
abbrev cX11_lack : ByteArray := prog_1_method_27_code
def yX11_lack : MethodName := ⟨RX11, "lack", "(I)I"⟩
abbrev cX11_kept : ByteArray := prog_1_method_28_code
def yX11_kept : MethodName := ⟨RX11, "kept", "(I)I"⟩
abbrev cX11_pay : ByteArray := prog_1_method_29_code
def yX11_pay : MethodName := ⟨RX11, "pay", "(III)I"⟩
abbrev cX11_part : ByteArray := prog_1_method_30_code
def yX11_part : MethodName := ⟨RX11, "part", "(IIII)Z"⟩
abbrev cX11_service : ByteArray := prog_1_method_31_code
def yX11_service : MethodName := ⟨RX11, "service", "(III)I"⟩
abbrev cX11_row : ByteArray := prog_1_method_32_code
def yX11_row : MethodName := ⟨RX11, "row", "(III)I"⟩
abbrev cX11_write : ByteArray := prog_1_method_33_code
def yX11_write : MethodName := ⟨RX11, "write", "(IIJ)J"⟩
abbrev cX11_save : ByteArray := prog_1_method_34_code
def yX11_save : MethodName := ⟨RX11, "save", "(I)I"⟩
abbrev cX11_load : ByteArray := prog_1_method_35_code
def yX11_load : MethodName := ⟨RX11, "load", "(II)I"⟩
abbrev cX11_image : ByteArray := prog_1_method_36_code
def yX11_image : MethodName := ⟨RX11, "image", "(I)Z"⟩
abbrev cX11_restore : ByteArray := prog_1_method_37_code
def yX11_restore : MethodName := ⟨RX11, "restore", "(I)Z"⟩
abbrev cX11_count : ByteArray := prog_1_method_38_code
def yX11_count : MethodName := ⟨RX11, "count", "(I)I"⟩
abbrev cX11_countOfSet : ByteArray := prog_1_method_39_code
def yX11_countOfSet : MethodName := ⟨RX11, "countOfSet", "(I)I"⟩
abbrev cX11_isSheetLength : ByteArray := prog_1_method_40_code
def yX11_isSheetLength : MethodName := ⟨RX11, "isSheetLength", "(I)Z"⟩
abbrev cX11_isCreaseRow : ByteArray := prog_1_method_41_code
def yX11_isCreaseRow : MethodName := ⟨RX11, "isCreaseRow", "(III)Z"⟩
abbrev cX11_isCrease : ByteArray := prog_1_method_42_code
def yX11_isCrease : MethodName := ⟨RX11, "isCrease", "(I)Z"⟩
abbrev cX11_falls : ByteArray := prog_1_method_43_code
def yX11_falls : MethodName := ⟨RX11, "falls", "(II)Z"⟩
def RX12 : String := "PaperWayModel"
def TX12 : u_T := fun k => match k with
  | 0 => ("PaperWayModel", "thrown", "I", false)
  | 1 => ("PaperWayModel", "tape", "[I", true)
  | 2 => ("PaperWayModel", "taped", "I", false)
  | 3 => ("PaperWayModel", "way", "[I", true)
  | 4 => ("PaperWayModel", "told", "[I", true)
  | 5 => ("PaperWayModel", "roller", "[I", true)
  | 6 => ("PaperWayModel", "speed", "[I", true)
  | 7 => ("PaperWayModel", "toldRoller", "[I", true)
  | 8 => ("PaperWayModel", "toldSpeed", "[I", true)
  | 9 => ("PaperWayModel", "eye", "[I", true)
  | 10 => ("PaperWayModel", "toldEye", "[I", true)
  | 11 => ("PaperWayModel", "at", "I", false)
  | 12 => ("PaperWayModel", "behind", "I", false)
  | 13 => ("PaperWayModel", "size", "I", false)
  | 14 => ("PaperWayModel", "kind", "I", false)
  | 15 => ("PaperWayModel", "number", "I", false)
  | 16 => ("PaperWayModel", "wrong", "I", false)
  | 17 => ("PaperWayModel", "wrongAt", "I", false)
  | 18 => ("PaperWayModel", "lines", "I", false)
  | 19 => ("PaperWayModel", "hasTurn", "Z", false)
  | 20 => ("PaperWayModel", "hasDamp", "Z", false)
  | 21 => ("PaperWayModel", "faultKind", "I", false)
  | 22 => ("PaperWayModel", "faultPlace", "I", false)
  | 23 => ("PaperWayModel", "wear", "[I", true)
  | 24 => ("PaperWayModel", "beat", "[I", true)
  | 25 => ("PaperWayModel", "cornerAt", "[I", true)
  | 26 => ("PaperWayModel", "cornerMany", "I", false)
  | 27 => ("PaperWayModel", "sheets", "I", false)
  | 28 => ("PaperWayModel", "now", "I", false)
  | 29 => ("PaperWayModel", "jammed", "I", false)
  | 30 => ("PaperWayModel", "sheetLong", "[I", true)
  | 31 => ("PaperWayModel", "head", "[I", true)
  | 32 => ("PaperWayModel", "state", "[I", true)
  | 33 => ("PaperWayModel", "side", "[I", true)
  | 34 => ("PaperWayModel", "stood", "[I", true)
  | 35 => ("PaperWayModel", "came", "[I", true)
  | 36 => ("PaperWayModel", "isTurned", "[Z", true)
  | 37 => ("PaperWayModel", "isSeen", "[Z", true)
  | 38 => ("PaperWayModel", "seeing", "[Z", true)
  | 39 => ("PaperWayModel", "isKept", "[Z", true)
  | 40 => ("PaperWayModel", "passings", "[I", true)
  | 41 => ("PaperWayModel", "passOn", "[I", true)
  | 42 => ("PaperWayModel", "passOff", "[I", true)
  | 43 => ("PaperWayModel", "seenOn", "[I", true)
  | 44 => ("PaperWayModel", "seenOff", "[I", true)
  | 45 => ("PaperWayModel", "went", "[Z", true)
  | 46 => ("PaperWayModel", "tryWear", "[I", true)
  | 47 => ("PaperWayModel", "tryBeat", "[I", true)
  | 48 => ("PaperWayModel", "tryCorner", "[I", true)
  | 49 => ("PaperWayModel", "firstOn", "[I", true)
  | 50 => ("PaperWayModel", "firstOff", "[I", true)
  | 51 => ("PaperWayModel", "tryCorners", "I", false)
  | 52 => ("PaperWayModel", "tryHead", "I", false)
  | 53 => ("PaperWayModel", "tryStood", "I", false)
  | 54 => ("PaperWayModel", "all", "[I", true)
  | 55 => ("PaperWayModel", "hasImage", "[Z", true)
  | 56 => ("PaperWayModel", "isMet", "[J", true)
  | 57 => ("PaperWayModel", "line", "[I", true)
  | 58 => ("PaperWayModel", "lineFrom", "[I", true)
  | 59 => ("PaperWayModel", "lineAct", "[I", true)
  | 60 => ("PaperWayModel", "lined", "I", false)
  | 61 => ("PaperWayModel", "goal", "I", false)
  | 62 => ("PaperWayModel", "most", "[I", true)
  | 63 => ("PaperWayModel", "pairOf", "[I", true)
  | 64 => ("PaperWayModel", "serviceCost", "I", false)
  | 65 => ("PaperWayModel", "serviceNew", "I", false)
  | 66 => ("PaperWayModel", "rowSort", "[I", true)
  | 67 => ("PaperWayModel", "rowMany", "[I", true)
  | _ => ("PaperWayModel", "cells", "[J", true)
def tyX12 : Nat → FieldType := fun k => match k with
  | 0 => .int
  | 1 => .array .int
  | 2 => .int
  | 3 => .array .int
  | 4 => .array .int
  | 5 => .array .int
  | 6 => .array .int
  | 7 => .array .int
  | 8 => .array .int
  | 9 => .array .int
  | 10 => .array .int
  | 11 => .int
  | 12 => .int
  | 13 => .int
  | 14 => .int
  | 15 => .int
  | 16 => .int
  | 17 => .int
  | 18 => .int
  | 19 => .boolean
  | 20 => .boolean
  | 21 => .int
  | 22 => .int
  | 23 => .array .int
  | 24 => .array .int
  | 25 => .array .int
  | 26 => .int
  | 27 => .int
  | 28 => .int
  | 29 => .int
  | 30 => .array .int
  | 31 => .array .int
  | 32 => .array .int
  | 33 => .array .int
  | 34 => .array .int
  | 35 => .array .int
  | 36 => .array .boolean
  | 37 => .array .boolean
  | 38 => .array .boolean
  | 39 => .array .boolean
  | 40 => .array .int
  | 41 => .array .int
  | 42 => .array .int
  | 43 => .array .int
  | 44 => .array .int
  | 45 => .array .boolean
  | 46 => .array .int
  | 47 => .array .int
  | 48 => .array .int
  | 49 => .array .int
  | 50 => .array .int
  | 51 => .int
  | 52 => .int
  | 53 => .int
  | 54 => .array .int
  | 55 => .array .boolean
  | 56 => .array .long
  | 57 => .array .int
  | 58 => .array .int
  | 59 => .array .int
  | 60 => .int
  | 61 => .int
  | 62 => .array .int
  | 63 => .array .int
  | 64 => .int
  | 65 => .int
  | 66 => .array .int
  | 67 => .array .int
  | _ => .array .long
abbrev wsX120 : List Cond := u_ws RX12 TX12 69
theorem nmX12 : ∀ a, a < 69 → ∀ b, b < 69 → a ≠ b → (TX12 a).2.1 ≠ (TX12 b).2.1 := by decide +kernel
theorem tyX12_ok : ∀ k, k < 69 → parseFieldDescriptor (TX12 k).2.2.1 = some (tyX12 k) := by decide +kernel
abbrev cX12_within : ByteArray := prog_14_method_2_code
def yX12_within : MethodName := ⟨RX12, "within", "(JJJ)Z"⟩
abbrev cX12_init : ByteArray := prog_14_method_3_code
def yX12_init : MethodName := ⟨RX12, "<init>", "()V"⟩
abbrev cX12_begins : ByteArray := prog_14_method_4_code
def yX12_begins : MethodName := ⟨RX12, "begins", "()V"⟩
abbrev cX12_becomes : ByteArray := prog_14_method_5_code
def yX12_becomes : MethodName := ⟨RX12, "becomes", "()V"⟩
abbrev cX12_feed : ByteArray := prog_14_method_6_code
def yX12_feed : MethodName := ⟨RX12, "feed", "(IIIII)I"⟩
abbrev cX12_see : ByteArray := prog_14_method_7_code
def yX12_see : MethodName := ⟨RX12, "see", "(I)I"⟩
abbrev cX12_isSmall : ByteArray := prog_14_method_8_code
def yX12_isSmall : MethodName := ⟨RX12, "isSmall", "(I)Z"⟩
abbrev cX12_isDigit : ByteArray := prog_14_method_9_code
def yX12_isDigit : MethodName := ⟨RX12, "isDigit", "(I)Z"⟩
abbrev cX12_keyAt : ByteArray := prog_14_method_10_code
def yX12_keyAt : MethodName := ⟨RX12, "keyAt", "()I"⟩
abbrev cX12_next : ByteArray := prog_14_method_11_code
def yX12_next : MethodName := ⟨RX12, "next", "()V"⟩
abbrev cX12_fails : ByteArray := prog_14_method_12_code
def yX12_fails : MethodName := ⟨RX12, "fails", "(I)V"⟩
abbrev cX12_is : ByteArray := prog_14_method_13_code
def yX12_is : MethodName := ⟨RX12, "is", "(I)Z"⟩
abbrev cX12_needs : ByteArray := prog_14_method_14_code
def yX12_needs : MethodName := ⟨RX12, "needs", "(I)V"⟩
abbrev cX12_reads : ByteArray := prog_14_method_15_code
def yX12_reads : MethodName := ⟨RX12, "reads", "(II)I"⟩
abbrev cX12_readsRoller : ByteArray := prog_14_method_16_code
def yX12_readsRoller : MethodName := ⟨RX12, "readsRoller", "()V"⟩
abbrev cX12_readsEye : ByteArray := prog_14_method_17_code
def yX12_readsEye : MethodName := ⟨RX12, "readsEye", "()V"⟩
abbrev cX12_readsTurn : ByteArray := prog_14_method_18_code
def yX12_readsTurn : MethodName := ⟨RX12, "readsTurn", "()V"⟩
abbrev cX12_readsDamp : ByteArray := prog_14_method_19_code
def yX12_readsDamp : MethodName := ⟨RX12, "readsDamp", "()V"⟩
abbrev cX12_text : ByteArray := prog_14_method_20_code
def yX12_text : MethodName := ⟨RX12, "text", "(I)I"⟩
abbrev cX12_fault : ByteArray := prog_14_method_21_code
def yX12_fault : MethodName := ⟨RX12, "fault", "(I)I"⟩
abbrev cX12_isRoller : ByteArray := prog_14_method_22_code
def yX12_isRoller : MethodName := ⟨RX12, "isRoller", "(I)Z"⟩
abbrev cX12_isEye : ByteArray := prog_14_method_23_code
def yX12_isEye : MethodName := ⟨RX12, "isEye", "(I)Z"⟩
abbrev cX12_set : ByteArray := prog_14_method_24_code
def yX12_set : MethodName := ⟨RX12, "set", "(III)I"⟩
abbrev cX12_cornerOf : ByteArray := prog_14_method_25_code
def yX12_cornerOf : MethodName := ⟨RX12, "cornerOf", "(I)I"⟩
abbrev cX12_leaves : ByteArray := prog_14_method_26_code
def yX12_leaves : MethodName := ⟨RX12, "leaves", "(I)Z"⟩
abbrev cX12_corner : ByteArray := prog_14_method_27_code
def yX12_corner : MethodName := ⟨RX12, "corner", "(IZ)Z"⟩
abbrev cX12_isGoing : ByteArray := prog_14_method_28_code
def yX12_isGoing : MethodName := ⟨RX12, "isGoing", "(I)Z"⟩
abbrev cX12_tail : ByteArray := prog_14_method_29_code
def yX12_tail : MethodName := ⟨RX12, "tail", "(I)I"⟩
abbrev cX12_isOver : ByteArray := prog_14_method_30_code
def yX12_isOver : MethodName := ⟨RX12, "isOver", "(II)Z"⟩
abbrev cX12_lay : ByteArray := prog_14_method_31_code
def yX12_lay : MethodName := ⟨RX12, "lay", "(IZ)I"⟩
abbrev cX12_drive : ByteArray := prog_14_method_32_code
def yX12_drive : MethodName := ⟨RX12, "drive", "(III[I[I)I"⟩
abbrev cX12_bound : ByteArray := prog_14_method_33_code
def yX12_bound : MethodName := ⟨RX12, "bound", "(II[II)I"⟩
abbrev cX12_ahead : ByteArray := prog_14_method_34_code
def yX12_ahead : MethodName := ⟨RX12, "ahead", "(I)I"⟩
abbrev cX12_inPocket : ByteArray := prog_14_method_35_code
def yX12_inPocket : MethodName := ⟨RX12, "inPocket", "()I"⟩
abbrev cX12_waits : ByteArray := prog_14_method_36_code
def yX12_waits : MethodName := ⟨RX12, "waits", "(I)Z"⟩
abbrev cX12_waitsNow : ByteArray := prog_14_method_37_code
def yX12_waitsNow : MethodName := ⟨RX12, "waitsNow", "(I)V"⟩
abbrev cX12_goes : ByteArray := prog_14_method_38_code
def yX12_goes : MethodName := ⟨RX12, "goes", "(I)V"⟩
abbrev cX12_ticks : ByteArray := prog_14_method_39_code
def yX12_ticks : MethodName := ⟨RX12, "ticks", "()V"⟩
abbrev cX12_comesBack : ByteArray := prog_14_method_40_code
def yX12_comesBack : MethodName := ⟨RX12, "comesBack", "()V"⟩
abbrev cX12_looks : ByteArray := prog_14_method_41_code
def yX12_looks : MethodName := ⟨RX12, "looks", "()V"⟩
abbrev cX12_tick : ByteArray := prog_14_method_42_code
def yX12_tick : MethodName := ⟨RX12, "tick", "(I)I"⟩
abbrev cX12_sheet : ByteArray := prog_14_method_43_code
def yX12_sheet : MethodName := ⟨RX12, "sheet", "(II)I"⟩
abbrev cX12_clear : ByteArray := prog_14_method_44_code
def yX12_clear : MethodName := ⟨RX12, "clear", "(Z)I"⟩
abbrev cX12_sees : ByteArray := prog_14_method_45_code
def yX12_sees : MethodName := ⟨RX12, "sees", "(I)I"⟩
abbrev cX12_passing : ByteArray := prog_14_method_46_code
def yX12_passing : MethodName := ⟨RX12, "passing", "(III)I"⟩
abbrev cX12_goesAlone : ByteArray := prog_14_method_47_code
def yX12_goesAlone : MethodName := ⟨RX12, "goesAlone", "(II)V"⟩
abbrev cX12_isOutAlone : ByteArray := prog_14_method_48_code
def yX12_isOutAlone : MethodName := ⟨RX12, "isOutAlone", "(II)Z"⟩
abbrev cX12_looksAlone : ByteArray := prog_14_method_49_code
def yX12_looksAlone : MethodName := ⟨RX12, "looksAlone", "(I)V"⟩
abbrev cX12_saw : ByteArray := prog_14_method_50_code
def yX12_saw : MethodName := ⟨RX12, "saw", "(III)Z"⟩
abbrev cX12_observed : ByteArray := prog_14_method_51_code
def yX12_observed : MethodName := ⟨RX12, "observed", "()I"⟩
abbrev cX12_forget : ByteArray := prog_14_method_52_code
def yX12_forget : MethodName := ⟨RX12, "forget", "()I"⟩
abbrev cX12_isCause : ByteArray := prog_14_method_53_code
def yX12_isCause : MethodName := ⟨RX12, "isCause", "(I)Z"⟩
abbrev cX12_takesCause : ByteArray := prog_14_method_54_code
def yX12_takesCause : MethodName := ⟨RX12, "takesCause", "(I)V"⟩
abbrev cX12_explains : ByteArray := prog_14_method_55_code
def yX12_explains : MethodName := ⟨RX12, "explains", "(III)Z"⟩
abbrev cX12_explain : ByteArray := prog_14_method_56_code
def yX12_explain : MethodName := ⟨RX12, "explain", "(II)I"⟩
abbrev cX12_foretold : ByteArray := prog_14_method_57_code
def yX12_foretold : MethodName := ⟨RX12, "foretold", "(III)I"⟩
abbrev cX12_creaseOf : ByteArray := prog_14_method_58_code
def yX12_creaseOf : MethodName := ⟨RX12, "creaseOf", "(III)I"⟩
abbrev cX12_crease : ByteArray := prog_14_method_59_code
def yX12_crease : MethodName := ⟨RX12, "crease", "(IIIII)I"⟩
abbrev cX12_setsOut : ByteArray := prog_14_method_60_code
def yX12_setsOut : MethodName := ⟨RX12, "setsOut", "()V"⟩
abbrev cX12_page : ByteArray := prog_14_method_61_code
def yX12_page : MethodName := ⟨RX12, "page", "(IZ)I"⟩
abbrev cX12_tray : ByteArray := prog_14_method_62_code
def yX12_tray : MethodName := ⟨RX12, "tray", "(IIZ)Z"⟩
abbrev cX12_pocket : ByteArray := prog_14_method_63_code
def yX12_pocket : MethodName := ⟨RX12, "pocket", "(II)Z"⟩
abbrev cX12_heat : ByteArray := prog_14_method_64_code
def yX12_heat : MethodName := ⟨RX12, "heat", "(IIII)Z"⟩
abbrev cX12_stateOf : ByteArray := prog_14_method_65_code
def yX12_stateOf : MethodName := ⟨RX12, "stateOf", "(IIIIIII)I"⟩
abbrev cX12_adds : ByteArray := prog_14_method_66_code
def yX12_adds : MethodName := ⟨RX12, "adds", "(III)V"⟩
abbrev cX12_lain : ByteArray := prog_14_method_67_code
def yX12_lain : MethodName := ⟨RX12, "lain", "(I)I"⟩
abbrev cX12_isOut : ByteArray := prog_14_method_68_code
def yX12_isOut : MethodName := ⟨RX12, "isOut", "(I)Z"⟩
abbrev cX12_opens : ByteArray := prog_14_method_69_code
def yX12_opens : MethodName := ⟨RX12, "opens", "(I)V"⟩
abbrev cX12_finds : ByteArray := prog_14_method_70_code
def yX12_finds : MethodName := ⟨RX12, "finds", "()Z"⟩
abbrev cX12_plan : ByteArray := prog_14_method_71_code
def yX12_plan : MethodName := ⟨RX12, "plan", "(I)I"⟩
abbrev cX12_copies : ByteArray := prog_14_method_72_code
def yX12_copies : MethodName := ⟨RX12, "copies", "(I)I"⟩
abbrev cX12_out : ByteArray := prog_14_method_73_code
def yX12_out : MethodName := ⟨RX12, "out", "(I)I"⟩
abbrev cX12_empty : ByteArray := prog_14_method_74_code
def yX12_empty : MethodName := ⟨RX12, "empty", "()I"⟩
abbrev cX12_wanted : ByteArray := prog_14_method_75_code
def yX12_wanted : MethodName := ⟨RX12, "wanted", "()I"⟩
abbrev cX12_mostAt : ByteArray := prog_14_method_76_code
def yX12_mostAt : MethodName := ⟨RX12, "mostAt", "(II)I"⟩
abbrev cX12_pairs : ByteArray := prog_14_method_77_code
def yX12_pairs : MethodName := ⟨RX12, "pairs", "()V"⟩
abbrev cX12_again : ByteArray := prog_14_method_78_code
def yX12_again : MethodName := ⟨RX12, "again", "(I)I"⟩
abbrev cX12_lack : ByteArray := prog_14_method_79_code
def yX12_lack : MethodName := ⟨RX12, "lack", "(I)I"⟩
abbrev cX12_kept : ByteArray := prog_14_method_80_code
def yX12_kept : MethodName := ⟨RX12, "kept", "(I)I"⟩
abbrev cX12_pay : ByteArray := prog_14_method_81_code
def yX12_pay : MethodName := ⟨RX12, "pay", "(III)I"⟩
abbrev cX12_part : ByteArray := prog_14_method_82_code
def yX12_part : MethodName := ⟨RX12, "part", "(IIII)Z"⟩
abbrev cX12_renewals : ByteArray := prog_14_method_83_code
def yX12_renewals : MethodName := ⟨RX12, "renewals", "(III)I"⟩
abbrev cX12_serves : ByteArray := prog_14_method_84_code
def yX12_serves : MethodName := ⟨RX12, "serves", "(III)Z"⟩
abbrev cX12_ones : ByteArray := prog_14_method_85_code
def yX12_ones : MethodName := ⟨RX12, "ones", "(I)I"⟩
abbrev cX12_service : ByteArray := prog_14_method_86_code
def yX12_service : MethodName := ⟨RX12, "service", "(III)I"⟩
abbrev cX12_cut : ByteArray := prog_14_method_87_code
def yX12_cut : MethodName := ⟨RX12, "cut", "(JI)J"⟩
abbrev cX12_row : ByteArray := prog_14_method_88_code
def yX12_row : MethodName := ⟨RX12, "row", "(III)I"⟩
abbrev cX12_write : ByteArray := prog_14_method_89_code
def yX12_write : MethodName := ⟨RX12, "write", "(IIJ)J"⟩
abbrev cX12_save : ByteArray := prog_14_method_90_code
def yX12_save : MethodName := ⟨RX12, "save", "(I)I"⟩
abbrev cX12_load : ByteArray := prog_14_method_91_code
def yX12_load : MethodName := ⟨RX12, "load", "(II)I"⟩
abbrev cX12_image : ByteArray := prog_14_method_92_code
def yX12_image : MethodName := ⟨RX12, "image", "(I)Z"⟩
abbrev cX12_restore : ByteArray := prog_14_method_93_code
def yX12_restore : MethodName := ⟨RX12, "restore", "(I)Z"⟩
abbrev cX12_count : ByteArray := prog_14_method_94_code
def yX12_count : MethodName := ⟨RX12, "count", "(I)I"⟩
def RJx145de : String := "java/io/Serializable"
def TJx145de : u_T := fun k => match k with
  | _ => ("", "", "", false)
def tyJx145de : Nat → FieldType := fun k => match k with
  | _ => .int
abbrev wsJx145de0 : List Cond := u_ws RJx145de TJx145de 0
theorem nmJx145de : ∀ a, a < 0 → ∀ b, b < 0 → a ≠ b → (TJx145de a).2.1 ≠ (TJx145de b).2.1 := by decide +kernel
theorem tyJx145de_ok : ∀ k, k < 0 → parseFieldDescriptor (TJx145de k).2.2.1 = some (tyJx145de k) := by decide +kernel
def RJx9f9b0 : String := "java/lang/CharSequence"
def TJx9f9b0 : u_T := fun k => match k with
  | _ => ("", "", "", false)
def tyJx9f9b0 : Nat → FieldType := fun k => match k with
  | _ => .int
abbrev wsJx9f9b00 : List Cond := u_ws RJx9f9b0 TJx9f9b0 0
theorem nmJx9f9b0 : ∀ a, a < 0 → ∀ b, b < 0 → a ≠ b → (TJx9f9b0 a).2.1 ≠ (TJx9f9b0 b).2.1 := by decide +kernel
theorem tyJx9f9b0_ok : ∀ k, k < 0 → parseFieldDescriptor (TJx9f9b0 k).2.2.1 = some (tyJx9f9b0 k) := by decide +kernel
def RJxb160c : String := "java/lang/Comparable"
def TJxb160c : u_T := fun k => match k with
  | _ => ("", "", "", false)
def tyJxb160c : Nat → FieldType := fun k => match k with
  | _ => .int
abbrev wsJxb160c0 : List Cond := u_ws RJxb160c TJxb160c 0
theorem nmJxb160c : ∀ a, a < 0 → ∀ b, b < 0 → a ≠ b → (TJxb160c a).2.1 ≠ (TJxb160c b).2.1 := by decide +kernel
theorem tyJxb160c_ok : ∀ k, k < 0 → parseFieldDescriptor (TJxb160c k).2.2.1 = some (tyJxb160c k) := by decide +kernel
def RJ6 : String := "java/lang/Integer"
def TJ6 : u_T := fun k => match k with
  | _ => ("", "", "", false)
def tyJ6 : Nat → FieldType := fun k => match k with
  | _ => .int
abbrev wsJ60 : List Cond := u_ws RJ6 TJ6 0
theorem nmJ6 : ∀ a, a < 0 → ∀ b, b < 0 → a ≠ b → (TJ6 a).2.1 ≠ (TJ6 b).2.1 := by decide +kernel
theorem tyJ6_ok : ∀ k, k < 0 → parseFieldDescriptor (TJ6 k).2.2.1 = some (tyJ6 k) := by decide +kernel
abbrev cJ6_bitCount_0f7a4 : ByteArray := prog_15_method_49_code
def yJ6_bitCount_0f7a4 : MethodName := ⟨RJ6, "bitCount", "(I)I"⟩
def RJ9 : String := "java/lang/Math"
def TJ9 : u_T := fun k => match k with
  | _ => ("", "", "", false)
def tyJ9 : Nat → FieldType := fun k => match k with
  | _ => .int
abbrev wsJ90 : List Cond := u_ws RJ9 TJ9 0
theorem nmJ9 : ∀ a, a < 0 → ∀ b, b < 0 → a ≠ b → (TJ9 a).2.1 ≠ (TJ9 b).2.1 := by decide +kernel
theorem tyJ9_ok : ∀ k, k < 0 → parseFieldDescriptor (TJ9 k).2.2.1 = some (tyJ9 k) := by decide +kernel
abbrev cJ9_max_7cf53 : ByteArray := prog_16_method_65_code
def yJ9_max_7cf53 : MethodName := ⟨RJ9, "max", "(II)I"⟩
abbrev cJ9_min_7cf53 : ByteArray := prog_16_method_69_code
def yJ9_min_7cf53 : MethodName := ⟨RJ9, "min", "(II)I"⟩
def RJ0 : String := "java/lang/String"
def TJ0 : u_T := fun k => match k with
  | _ => ("", "", "", false)
def tyJ0 : Nat → FieldType := fun k => match k with
  | _ => .int
abbrev wsJ00 : List Cond := u_ws RJ0 TJ0 0
theorem nmJ0 : ∀ a, a < 0 → ∀ b, b < 0 → a ≠ b → (TJ0 a).2.1 ≠ (TJ0 b).2.1 := by decide +kernel
theorem tyJ0_ok : ∀ k, k < 0 → parseFieldDescriptor (TJ0 k).2.2.1 = some (tyJ0 k) := by decide +kernel
abbrev cJ0_length_8abf5 : ByteArray := prog_17_method_54_code
def yJ0_length_8abf5 : MethodName := ⟨RJ0, "length", "()I"⟩
abbrev cJ0_charAt_5068e : ByteArray := prog_17_method_56_code
def yJ0_charAt_5068e : MethodName := ⟨RJ0, "charAt", "(I)C"⟩
abbrev cJ0_coder_7d493 : ByteArray := prog_17_method_152_code
def yJ0_coder_7d493 : MethodName := ⟨RJ0, "coder", "()B"⟩
abbrev cJ0_isLatin1_aae02 : ByteArray := prog_17_method_154_code
def yJ0_isLatin1_aae02 : MethodName := ⟨RJ0, "isLatin1", "()Z"⟩
abbrev cJ0_checkIndex_df160 : ByteArray := prog_17_method_155_code
def yJ0_checkIndex_df160 : MethodName := ⟨RJ0, "checkIndex", "(II)V"⟩
def RJ1 : String := "java/lang/StringLatin1"
def TJ1 : u_T := fun k => match k with
  | _ => ("", "", "", false)
def tyJ1 : Nat → FieldType := fun k => match k with
  | _ => .int
abbrev wsJ10 : List Cond := u_ws RJ1 TJ1 0
theorem nmJ1 : ∀ a, a < 0 → ∀ b, b < 0 → a ≠ b → (TJ1 a).2.1 ≠ (TJ1 b).2.1 := by decide +kernel
theorem tyJ1_ok : ∀ k, k < 0 → parseFieldDescriptor (TJ1 k).2.2.1 = some (tyJ1 k) := by decide +kernel
abbrev cJ1_charAt_3b067 : ByteArray := prog_18_method_2_code
def yJ1_charAt_3b067 : MethodName := ⟨RJ1, "charAt", "([BI)C"⟩
def RJ2 : String := "java/lang/StringUTF16"
def TJ2 : u_T := fun k => match k with
  | _ => ("", "", "", false)
def tyJ2 : Nat → FieldType := fun k => match k with
  | _ => .int
abbrev wsJ20 : List Cond := u_ws RJ2 TJ2 0
theorem nmJ2 : ∀ a, a < 0 → ∀ b, b < 0 → a ≠ b → (TJ2 a).2.1 ≠ (TJ2 b).2.1 := by decide +kernel
theorem tyJ2_ok : ∀ k, k < 0 → parseFieldDescriptor (TJ2 k).2.2.1 = some (tyJ2 k) := by decide +kernel
abbrev cJ2_getChar_3b067 : ByteArray := prog_19_method_5_code
def yJ2_getChar_3b067 : MethodName := ⟨RJ2, "getChar", "([BI)C"⟩
abbrev cJ2_length_9d52b : ByteArray := prog_19_method_6_code
def yJ2_length_9d52b : MethodName := ⟨RJ2, "length", "([B)I"⟩
abbrev cJ2_charAt_3b067 : ByteArray := prog_19_method_83_code
def yJ2_charAt_3b067 : MethodName := ⟨RJ2, "charAt", "([BI)C"⟩
abbrev cJ2_checkIndex_2214a : ByteArray := prog_19_method_91_code
def yJ2_checkIndex_2214a : MethodName := ⟨RJ2, "checkIndex", "(I[B)V"⟩
def RJ10 : String := "java/lang/System"
def TJ10 : u_T := fun k => match k with
  | _ => ("", "", "", false)
def tyJ10 : Nat → FieldType := fun k => match k with
  | _ => .int
abbrev wsJ100 : List Cond := u_ws RJ10 TJ10 0
theorem nmJ10 : ∀ a, a < 0 → ∀ b, b < 0 → a ≠ b → (TJ10 a).2.1 ≠ (TJ10 b).2.1 := by decide +kernel
theorem tyJ10_ok : ∀ k, k < 0 → parseFieldDescriptor (TJ10 k).2.2.1 = some (tyJ10 k) := by decide +kernel
def RJxfd54e : String := "java/lang/constant/Constable"
def TJxfd54e : u_T := fun k => match k with
  | _ => ("", "", "", false)
def tyJxfd54e : Nat → FieldType := fun k => match k with
  | _ => .int
abbrev wsJxfd54e0 : List Cond := u_ws RJxfd54e TJxfd54e 0
theorem nmJxfd54e : ∀ a, a < 0 → ∀ b, b < 0 → a ≠ b → (TJxfd54e a).2.1 ≠ (TJxfd54e b).2.1 := by decide +kernel
theorem tyJxfd54e_ok : ∀ k, k < 0 → parseFieldDescriptor (TJxfd54e k).2.2.1 = some (tyJxfd54e k) := by decide +kernel
def RJx3cf43 : String := "java/lang/constant/ConstantDesc"
def TJx3cf43 : u_T := fun k => match k with
  | _ => ("", "", "", false)
def tyJx3cf43 : Nat → FieldType := fun k => match k with
  | _ => .int
abbrev wsJx3cf430 : List Cond := u_ws RJx3cf43 TJx3cf43 0
theorem nmJx3cf43 : ∀ a, a < 0 → ∀ b, b < 0 → a ≠ b → (TJx3cf43 a).2.1 ≠ (TJx3cf43 b).2.1 := by decide +kernel
theorem tyJx3cf43_ok : ∀ k, k < 0 → parseFieldDescriptor (TJx3cf43 k).2.2.1 = some (tyJx3cf43 k) := by decide +kernel
def RJ7 : String := "java/util/Arrays"
def TJ7 : u_T := fun k => match k with
  | _ => ("", "", "", false)
def tyJ7 : Nat → FieldType := fun k => match k with
  | _ => .int
abbrev wsJ70 : List Cond := u_ws RJ7 TJ7 0
theorem nmJ7 : ∀ a, a < 0 → ∀ b, b < 0 → a ≠ b → (TJ7 a).2.1 ≠ (TJ7 b).2.1 := by decide +kernel
theorem tyJ7_ok : ∀ k, k < 0 → parseFieldDescriptor (TJ7 k).2.2.1 = some (tyJ7 k) := by decide +kernel
abbrev cJ7_fill_d0a16 : ByteArray := prog_21_method_101_code
def yJ7_fill_d0a16 : MethodName := ⟨RJ7, "fill", "([JJ)V"⟩
abbrev cJ7_fill_53178 : ByteArray := prog_21_method_103_code
def yJ7_fill_53178 : MethodName := ⟨RJ7, "fill", "([II)V"⟩
def RJ3 : String := "jdk/internal/util/Preconditions"
def TJ3 : u_T := fun k => match k with
  | _ => ("", "", "", false)
def tyJ3 : Nat → FieldType := fun k => match k with
  | _ => .int
abbrev wsJ30 : List Cond := u_ws RJ3 TJ3 0
theorem nmJ3 : ∀ a, a < 0 → ∀ b, b < 0 → a ≠ b → (TJ3 a).2.1 ≠ (TJ3 b).2.1 := by decide +kernel
theorem tyJ3_ok : ∀ k, k < 0 → parseFieldDescriptor (TJ3 k).2.2.1 = some (tyJ3 k) := by decide +kernel
abbrev cJ3_checkIndex_8e157 : ByteArray := prog_22_method_11_code
def yJ3_checkIndex_8e157 : MethodName := ⟨RJ3, "checkIndex", "(IILjava/util/function/BiFunction;)I"⟩
def RL : String := "PaperWayLaw"
abbrev cL_law : ByteArray := code
def yL_law : MethodName := ⟨RL, "law", "([I)Z"⟩
abbrev vwCl : List vw_C := [(RX0, TX0, 11), (RX1, TX1, 4), (RX2, TX2, 18), (RX3, TX3, 5), (RX4, TX4, 3), (RX5, TX5, 14), (RX6, TX6, 11), (RX7, TX7, 6), (RX8, TX8, 17), (RX9, TX9, 5), (RX10, TX10, 12), (RX11, TX11, 13), (RX12, TX12, 69)]
