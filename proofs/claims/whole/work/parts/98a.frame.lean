/-! the constructors, with the script in the memory -/
section FRM
variable {N : Nat} {xs : Nat → Int} {p : ZP} {ls st ls' st' : List ZV} {μ μ' : ZM}
/-- the memory, with the script's row -/
def zfr (N : Nat) (xs : Nat → Int) (μ : ZM) : ZM := (zuk μ.1 0 0 (6, N), μ.2.1, fun r o => if μ.1 r o = none then xs else μ.2.2.1 r o, μ.2.2.2)
def zG (μ : ZM) : Prop := μ.1 0 0 = none ∧ (0, 0) ∉ μ.2.2.2.1
theorem zfr_k {r o : Nat} {w : Nat × Nat} (hG : zG μ) (h : μ.1 r o = some w) : (zfr N xs μ).1 r o = some w := by
  have : ¬ (r = 0 ∧ o = 0) := by
    rintro ⟨rfl, rfl⟩
    rw [hG.1] at h
    cases h
  show zuk μ.1 0 0 (6, N) r o = some w
  rw [zuk_ne this, h]
theorem zfr_a {r o : Nat} {w : Nat × Nat} (h : μ.1 r o = some w) : (zfr N xs μ).2.2.1 r o = μ.2.2.1 r o := by
  show (if μ.1 r o = none then xs else μ.2.2.1 r o) = _
  rw [if_neg (by rw [h]; exact fun z => nomatch z)]
theorem zfr_ua {r o k : Nat} {v : Int} {w : Nat × Nat} (h : μ.1 r o = some w) : zfr N xs (μ.1, μ.2.1, zua μ.2.2.1 r o k v, μ.2.2.2) = ((zfr N xs μ).1, (zfr N xs μ).2.1, zua (zfr N xs μ).2.2.1 r o k v, (zfr N xs μ).2.2.2) := by
  unfold zfr
  (try dsimp only)
  refine congrArg (fun g => (zuk μ.1 0 0 (6, N), μ.2.1, g, μ.2.2.2)) ?_
  funext r' o' k'
  unfold zua
  (try dsimp only)
  by_cases e : r' = r ∧ o' = o
  · obtain ⟨rfl, rfl⟩ := e
    have hn : μ.1 r' o' ≠ none := by rw [h]; exact fun z => nomatch z
    simp [hn]
  · have e' : ¬ (r' = r ∧ o' = o ∧ k' = k) := fun z => e ⟨z.1, z.2.1⟩
    by_cases c : μ.1 r' o' = none
    · simp [c, e']
    · simp [c, e']
theorem zfr_uA {r o : Nat} {w : Nat × Nat} {κ : ZK} {a : ZA} (hr : ¬ (r = 0 ∧ o = 0)) : (fun r' o' => if zuk κ r o w r' o' = none then xs else zuA a r o (fun _ => 0) r' o') = zuA (fun r' o' => if κ r' o' = none then xs else a r' o') r o (fun _ => 0) := by
  funext r' o' k'
  unfold zuA
  (try dsimp only)
  by_cases e : r' = r ∧ o' = o
  · have : zuk κ r o w r' o' ≠ none := by rw [e.1, e.2, zuk_eq]; exact fun z => nomatch z
    rw [e.1, e.2] at this
    simp [this, e]
  · rw [zuk_ne e]
    by_cases c : κ r' o' = none
    · simp [c, e]
    · simp [c, e]
theorem zfr_uk {r o : Nat} {w w' : Nat × Nat} {κ : ZK} (hr : ¬ (r = 0 ∧ o = 0)) : zuk (zuk κ r o w) 0 0 w' = zuk (zuk κ 0 0 w') r o w := by
  funext r' o'
  unfold zuk
  by_cases e : r' = r ∧ o' = o
  · obtain ⟨rfl, rfl⟩ := e
    rw [if_neg hr, if_pos ⟨rfl, rfl⟩, if_pos ⟨rfl, rfl⟩]
  · rw [if_neg e, if_neg e]
theorem zfr_cp {r1 o1 r2 o2 d e sp : Nat} {w1 w2 : Nat × Nat} (h1 : μ.1 r1 o1 = some w1) (h2 : μ.1 r2 o2 = some w2) : zfr N xs (μ.1, μ.2.1, (fun r o j => if r = r2 ∧ o = o2 ∧ d ≤ j ∧ j < e then μ.2.2.1 r1 o1 (sp + (j - d)) else μ.2.2.1 r o j), μ.2.2.2) = ((zfr N xs μ).1, (zfr N xs μ).2.1, (fun r o j => if r = r2 ∧ o = o2 ∧ d ≤ j ∧ j < e then (zfr N xs μ).2.2.1 r1 o1 (sp + (j - d)) else (zfr N xs μ).2.2.1 r o j), (zfr N xs μ).2.2.2) := by
  rw [zfr_a h1]
  unfold zfr
  (try dsimp only)
  refine congrArg (fun g => (zuk μ.1 0 0 (6, N), μ.2.1, g, μ.2.2.2)) ?_
  funext r o j
  by_cases g : r = r2 ∧ o = o2
  · obtain ⟨rfl, rfl⟩ := g
    have hn : μ.1 r o ≠ none := by rw [h2]; exact fun z => nomatch z
    simp [hn]
  · have g' : ¬ (r = r2 ∧ o = o2 ∧ d ≤ j ∧ j < e) := fun z => g ⟨z.1, z.2.1⟩
    by_cases c : μ.1 r o = none
    · simp [c, g']
    · simp [c, g']
theorem zfr_new {kd n : Nat} {g : Nat → ZV} {q : Nat × Nat} (hG : zG μ) (h : znew kd n g μ = some (q, μ')) : znew kd n g (zfr N xs μ) = some (q, zfr N xs μ') ∧ zG μ' := by
  obtain ⟨κ, f, a, ns, c, s⟩ := μ
  obtain ⟨g1, g2⟩ := hG
  dsimp only at g1 g2
  unfold znew zfr at *
  dsimp only at h ⊢
  cases ns with
  | nil => cases h
  | cons e ns =>
    obtain ⟨r, o⟩ := e
    dsimp only at h ⊢
    have hr : ¬ (r = 0 ∧ o = 0) := by
      rintro ⟨rfl, rfl⟩
      exact g2 List.mem_cons_self
    split at h
    · rename_i hf
      cases h
      rw [zuk_ne hr, if_pos hf]
      refine ⟨?_, ?_, fun z => g2 (List.mem_cons_of_mem _ z)⟩
      · (try dsimp only)
        rw [zfr_uk hr, zfr_uA hr]
      · (try dsimp only)
        rw [zuk_ne (fun z => hr ⟨z.1.symm, z.2.symm⟩), g1]
    · cases h
theorem zf_ldI {i : Nat} (hG : zG μ) (h : zldI i ls st μ = some (ls', st', μ')) : zldI i ls st (zfr N xs μ) = some (ls', st', zfr N xs μ') ∧ zG μ' := by
  unfold zldI at h ⊢
  split at h
  · cases h; exact ⟨rfl, hG⟩
  · cases h
theorem zf_ldL {i : Nat} (hG : zG μ) (h : zldL i ls st μ = some (ls', st', μ')) : zldL i ls st (zfr N xs μ) = some (ls', st', zfr N xs μ') ∧ zG μ' := by
  unfold zldL at h ⊢
  split at h
  · cases h; exact ⟨rfl, hG⟩
  · cases h
theorem zf_ldA {i : Nat} (hG : zG μ) (h : zldA i ls st μ = some (ls', st', μ')) : zldA i ls st (zfr N xs μ) = some (ls', st', zfr N xs μ') ∧ zG μ' := by
  unfold zldA at h ⊢
  split at h
  · (try dsimp only)
    split at h
    · rename_i c; cases h; rw [if_pos c]; exact ⟨rfl, hG⟩
    · cases h
  · cases h
theorem zf_stI {i : Nat} (hG : zG μ) (h : zstI i ls st μ = some (ls', st', μ')) : zstI i ls st (zfr N xs μ) = some (ls', st', zfr N xs μ') ∧ zG μ' := by
  unfold zstI at h ⊢
  split at h
  · (try dsimp only)
    split at h
    · rename_i c; cases h; rw [if_pos c]; exact ⟨rfl, hG⟩
    · cases h
  · cases h
theorem zf_stL {i : Nat} (hG : zG μ) (h : zstL i ls st μ = some (ls', st', μ')) : zstL i ls st (zfr N xs μ) = some (ls', st', zfr N xs μ') ∧ zG μ' := by
  unfold zstL at h ⊢
  split at h
  · (try dsimp only)
    split at h
    · rename_i c; cases h; rw [if_pos c]; exact ⟨rfl, hG⟩
    · cases h
  · cases h
theorem zf_stA {i : Nat} (hG : zG μ) (h : zstA i ls st μ = some (ls', st', μ')) : zstA i ls st (zfr N xs μ) = some (ls', st', zfr N xs μ') ∧ zG μ' := by
  unfold zstA at h ⊢
  split at h
  · (try dsimp only)
    split at h
    · rename_i c; cases h; rw [if_pos c]; exact ⟨rfl, hG⟩
    · cases h
  · cases h
theorem zf_ald {k : Nat} {b : Bool} (hG : zG μ) (h : zaldN k b st ls μ = some (ls', st', μ')) : zaldN k b st ls (zfr N xs μ) = some (ls', st', zfr N xs μ') ∧ zG μ' := by
  unfold zaldN at h ⊢
  split at h
  · (try dsimp only)
    split at h
    · rename_i e
      rw [zfr_k hG e]
      show ite _ _ _ = _ ∧ _
      split at h
      · rename_i c; cases h; rw [if_pos c, zfr_a e]; exact ⟨rfl, hG⟩
      · cases h
    · cases h
  · cases h
theorem zf_bald (hG : zG μ) (h : zbald st ls μ = some (ls', st', μ')) : zbald st ls (zfr N xs μ) = some (ls', st', zfr N xs μ') ∧ zG μ' := by
  unfold zbald at h ⊢
  split at h
  · (try dsimp only)
    split at h
    · (try dsimp only)
      split at h
      · rename_i c; cases h; rw [if_pos c]; exact ⟨rfl, hG⟩
      · cases h
    · (try dsimp only)
      split at h
      · rename_i e
        rw [zfr_k hG e]
        (try dsimp only)
        split at h
        · rename_i c; cases h; rw [if_pos c, zfr_a e]; exact ⟨rfl, hG⟩
        · cases h
      · cases h
    · cases h
  · cases h
theorem zf_aald (hG : zG μ) (h : zaald st ls μ = some (ls', st', μ')) : zaald st ls (zfr N xs μ) = some (ls', st', zfr N xs μ') ∧ zG μ' := by
  unfold zaald at h ⊢
  split at h
  · (try dsimp only)
    split at h
    · rename_i e
      rw [zfr_k hG e]
      show ite _ _ _ = _ ∧ _
      split at h
      · rename_i c; cases h; rw [if_pos c]; exact ⟨rfl, hG⟩
      · cases h
    · cases h
  · cases h
theorem zf_astI (hG : zG μ) (h : zastI st ls μ = some (ls', st', μ')) : zastI st ls (zfr N xs μ) = some (ls', st', zfr N xs μ') ∧ zG μ' := by
  unfold zastI at h ⊢
  split at h
  · (try dsimp only)
    split at h
    · rename_i e
      rw [zfr_k hG e]
      show ite _ _ _ = _ ∧ _
      split at h
      · rename_i c; cases h; rw [if_pos c, zfr_ua e]; exact ⟨rfl, hG⟩
      · cases h
    · cases h
  · cases h
theorem zf_astB (hG : zG μ) (h : zastB st ls μ = some (ls', st', μ')) : zastB st ls (zfr N xs μ) = some (ls', st', zfr N xs μ') ∧ zG μ' := by
  unfold zastB at h ⊢
  split at h
  · (try dsimp only)
    split at h
    · rename_i e
      rw [zfr_k hG e]
      show ite _ _ _ = _ ∧ _
      split at h
      · rename_i c; cases h; rw [if_pos c, zfr_ua e]; exact ⟨rfl, hG⟩
      · cases h
    · cases h
  · cases h
theorem zf_astL (hG : zG μ) (h : zastL st ls μ = some (ls', st', μ')) : zastL st ls (zfr N xs μ) = some (ls', st', zfr N xs μ') ∧ zG μ' := by
  unfold zastL at h ⊢
  split at h
  · (try dsimp only)
    split at h
    · rename_i e
      rw [zfr_k hG e]
      show ite _ _ _ = _ ∧ _
      split at h
      · rename_i c; cases h; rw [if_pos c, zfr_ua e]; exact ⟨rfl, hG⟩
      · cases h
    · cases h
  · cases h
theorem zf_aast (hG : zG μ) (h : zaast st ls μ = some (ls', st', μ')) : zaast st ls (zfr N xs μ) = some (ls', st', zfr N xs μ') ∧ zG μ' := by
  unfold zaast at h ⊢
  split at h
  · (try dsimp only)
    split at h
    · rename_i e e'
      rw [zfr_k hG e, zfr_k hG e']
      show ite _ _ _ = _ ∧ _
      split at h
      · rename_i c; cases h; rw [if_pos c]; exact ⟨rfl, hG⟩
      · cases h
    · cases h
  · cases h
theorem zf_alen (hG : zG μ) (h : zalen st ls μ = some (ls', st', μ')) : zalen st ls (zfr N xs μ) = some (ls', st', zfr N xs μ') ∧ zG μ' := by
  unfold zalen at h ⊢
  split at h
  · (try dsimp only)
    split at h
    · (try dsimp only)
      split at h
      · rename_i c; cases h; rw [if_pos c]; exact ⟨rfl, hG⟩
      · cases h
    · (try dsimp only)
      split at h
      · rename_i e
        rw [zfr_k hG e]
        (try dsimp only)
        split at h
        · rename_i c; cases h; rw [if_pos c]; exact ⟨rfl, hG⟩
        · cases h
      · cases h
    · cases h
  · cases h
theorem zf_getf (hG : zG μ) (h : zgetf p st ls μ = some (ls', st', μ')) : zgetf p st ls (zfr N xs μ) = some (ls', st', zfr N xs μ') ∧ zG μ' := by
  unfold zgetf at h ⊢
  split at h
  · (try dsimp only)
    split at h
    · (try dsimp only)
      split at h
      · rename_i c; cases h; rw [if_pos c]; exact ⟨rfl, hG⟩
      · rename_i c
        rw [if_neg c]
        split at h
        · rename_i c; cases h; rw [if_pos c]; exact ⟨rfl, hG⟩
        · cases h
    · (try dsimp only)
      split at h
      · rename_i e
        rw [zfr_k hG e]
        (try dsimp only)
        split at h
        · rename_i c; cases h; rw [if_pos c]; exact ⟨rfl, hG⟩
        · cases h
      · cases h
    · cases h
  · cases h
theorem zf_putf (hG : zG μ) (h : zputf p st ls μ = some (ls', st', μ')) : zputf p st ls (zfr N xs μ) = some (ls', st', zfr N xs μ') ∧ zG μ' := by
  unfold zputf at h ⊢
  split at h
  · (try dsimp only)
    split at h
    · rename_i e
      rw [zfr_k hG e]
      show ite _ _ _ = _ ∧ _
      split at h
      · rename_i c; cases h; rw [if_pos c]; exact ⟨rfl, hG⟩
      · cases h
    · cases h
  · cases h
theorem zf_newa {k : Nat} (hG : zG μ) (h : znewa k st ls μ = some (ls', st', μ')) : znewa k st ls (zfr N xs μ) = some (ls', st', zfr N xs μ') ∧ zG μ' := by
  unfold znewa at h ⊢
  split at h
  · (try dsimp only)
    split at h
    · rename_i c
      rw [if_pos c]
      split at h
      · rename_i e
        cases h
        obtain ⟨e1, e2⟩ := zfr_new (N := N) (xs := xs) hG e
        rw [e1]
        exact ⟨rfl, e2⟩
      · cases h
    · cases h
  · cases h
theorem zf_newo (hG : zG μ) (h : znewo p st ls μ = some (ls', st', μ')) : znewo p st ls (zfr N xs μ) = some (ls', st', zfr N xs μ') ∧ zG μ' := by
  unfold znewo at h ⊢
  split at h
  · rename_i c
    rw [if_pos c]
    split at h
    · rename_i e
      cases h
      obtain ⟨e1, e2⟩ := zfr_new (N := N) (xs := xs) hG e
      rw [e1]
      exact ⟨rfl, e2⟩
    · cases h
  · cases h
theorem zf_multi (hG : zG μ) (h : zmulti st ls μ = some (ls', st', μ')) : zmulti st ls (zfr N xs μ) = some (ls', st', zfr N xs μ') ∧ zG μ' := by
  unfold zmulti at h ⊢
  split at h
  · rename_i k n st1 κ f a r0 o0 r1 o1 r2 o2 r3 o3 r4 o4 ns c s
    obtain ⟨g1, g2⟩ := hG
    dsimp only at g1 g2
    have q0 : ¬ (r0 = 0 ∧ o0 = 0) := fun z => g2 (by rw [z.1, z.2]; simp)
    have q1 : ¬ (r1 = 0 ∧ o1 = 0) := fun z => g2 (by rw [z.1, z.2]; simp)
    have q2 : ¬ (r2 = 0 ∧ o2 = 0) := fun z => g2 (by rw [z.1, z.2]; simp)
    have q3 : ¬ (r3 = 0 ∧ o3 = 0) := fun z => g2 (by rw [z.1, z.2]; simp)
    have q4 : ¬ (r4 = 0 ∧ o4 = 0) := fun z => g2 (by rw [z.1, z.2]; simp)
    split at h
    · rename_i c
      cases h
      unfold zfr
      (try dsimp only)
      rw [zuk_ne q0, zuk_ne q1, zuk_ne q2, zuk_ne q3, zuk_ne q4, if_pos c]
      refine ⟨?_, ?_, ?_⟩
      · rw [zfr_uk q0, zfr_uk q4, zfr_uk q3, zfr_uk q2, zfr_uk q1, zfr_uA q0, zfr_uA q4, zfr_uA q3, zfr_uA q2, zfr_uA q1]
      · (try dsimp only)
        rw [zuk_ne (fun z => q0 ⟨z.1.symm, z.2.symm⟩), zuk_ne (fun z => q4 ⟨z.1.symm, z.2.symm⟩), zuk_ne (fun z => q3 ⟨z.1.symm, z.2.symm⟩), zuk_ne (fun z => q2 ⟨z.1.symm, z.2.symm⟩), zuk_ne (fun z => q1 ⟨z.1.symm, z.2.symm⟩), g1]
      · (try dsimp only)
        exact fun z => g2 (by simp [z])
    · cases h
  · cases h
theorem zf_bin {g : Int → Int → Int} (hG : zG μ) (h : zbin st ls μ g = some (ls', st', μ')) : zbin st ls (zfr N xs μ) g = some (ls', st', zfr N xs μ') ∧ zG μ' := by
  unfold zbin at h ⊢
  split at h
  · cases h; exact ⟨rfl, hG⟩
  · cases h
theorem zf_bind {g : Int → Int → Int} (hG : zG μ) (h : zbind st ls μ g = some (ls', st', μ')) : zbind st ls (zfr N xs μ) g = some (ls', st', zfr N xs μ') ∧ zG μ' := by
  unfold zbind at h ⊢
  split at h
  · (try dsimp only)
    split at h
    · cases h
    · rename_i c; cases h; rw [if_neg c]; exact ⟨rfl, hG⟩
  · cases h
theorem zf_un {g : Int → Int} (hG : zG μ) (h : zun st ls μ g = some (ls', st', μ')) : zun st ls (zfr N xs μ) g = some (ls', st', zfr N xs μ') ∧ zG μ' := by
  unfold zun at h ⊢
  split at h
  · cases h; exact ⟨rfl, hG⟩
  · cases h
theorem zf_lbin {g : Int → Int → Int} (hG : zG μ) (h : zlbin st ls μ g = some (ls', st', μ')) : zlbin st ls (zfr N xs μ) g = some (ls', st', zfr N xs μ') ∧ zG μ' := by
  unfold zlbin at h ⊢
  split at h
  · cases h; exact ⟨rfl, hG⟩
  · cases h
theorem zf_lsh {g : Int → Int → Int} (hG : zG μ) (h : zlsh st ls μ g = some (ls', st', μ')) : zlsh st ls (zfr N xs μ) g = some (ls', st', zfr N xs μ') ∧ zG μ' := by
  unfold zlsh at h ⊢
  split at h
  · cases h; exact ⟨rfl, hG⟩
  · cases h
theorem zf_copy (hG : zG μ) (h : zcopy st ls μ = some (ls', st', μ')) : zcopy st ls (zfr N xs μ) = some (ls', st', zfr N xs μ') ∧ zG μ' := by
  unfold zcopy at h ⊢
  split at h
  · (try dsimp only)
    split at h
    · rename_i e1 e2
      rw [zfr_k hG e1, zfr_k hG e2]
      (try dsimp only)
      split at h
      · rename_i c
        cases h
        rw [if_pos c, zfr_cp e1 e2]
        exact ⟨rfl, hG⟩
      · cases h
    · cases h
  · cases h
theorem zf_istat (hG : zG μ) (h : zistat p st ls μ = some (ls', st', μ')) : zistat p st ls (zfr N xs μ) = some (ls', st', zfr N xs μ') ∧ zG μ' := by
  unfold zistat at h ⊢
  split at h
  · rename_i c
    rw [if_pos c]
    split at h
    · exact zf_bin hG h
    · exact zf_bin hG h
    · exact zf_copy hG h
  · cases h
theorem zf_op {i : Instr} (hG : zG μ) (h : zop i p ls st μ = some (ls', st', μ')) : zop i p ls st (zfr N xs μ) = some (ls', st', zfr N xs μ') ∧ zG μ' := by
  unfold zop at h ⊢
  split at h
  all_goals first
    | exact zf_ldI hG h
    | exact zf_ldL hG h
    | exact zf_ldA hG h
    | exact zf_stI hG h
    | exact zf_stL hG h
    | exact zf_stA hG h
    | exact zf_ald hG h
    | exact zf_bald hG h
    | exact zf_aald hG h
    | exact zf_astI hG h
    | exact zf_astB hG h
    | exact zf_astL hG h
    | exact zf_aast hG h
    | exact zf_alen hG h
    | exact zf_getf hG h
    | exact zf_putf hG h
    | exact zf_newa hG h
    | exact zf_newo hG h
    | exact zf_multi hG h
    | exact zf_bin hG h
    | exact zf_bind hG h
    | exact zf_un hG h
    | exact zf_lbin hG h
    | exact zf_lsh hG h
    | exact zf_istat hG h
    | (cases h; done)
    | (cases h; exact ⟨rfl, hG⟩)
    | (split at h <;> first | (cases h; done) | (cases h; exact ⟨rfl, hG⟩) | (rename_i e; cases h; (try dsimp only); rw [e]; exact ⟨rfl, hG⟩) | ((try dsimp only); split at h <;> first | (cases h; done) | (rename_i c; cases h; rw [if_pos c]; exact ⟨rfl, hG⟩) | (rename_i c; cases h; rw [if_neg c]; exact ⟨rfl, hG⟩)))
theorem zf_exec {call : Nat → List ZV → ZM → ZO} {rec : Nat → List ZV → List ZV → ZM → ZO} (hc : ∀ j as μ v μ', zG μ → call j as μ = some (v, μ') → call j as (zfr N xs μ) = some (v, zfr N xs μ') ∧ zG μ') (hr : ∀ l ls st μ v μ', zG μ → rec l ls st μ = some (v, μ') → rec l ls st (zfr N xs μ) = some (v, zfr N xs μ') ∧ zG μ') :
    ∀ (k : List ZN) (ls st : List ZV) (μ : ZM) (v : Option ZV) (μ' : ZM), zG μ → zexec call rec k ls st μ = some (v, μ') → zexec call rec k ls st (zfr N xs μ) = some (v, zfr N xs μ') ∧ zG μ'
  | [], _, _, _, _, _, _, h => by simp [zexec] at h
  | (i, n, p) :: k, ls, st, μ, v, μ', hG, h => by
    have ih := zf_exec hc hr k
    unfold zexec at h ⊢
    split at h
    case h_1 => exact hr _ _ _ _ _ _ hG h
    case h_2 => exact hr _ _ _ _ _ _ hG h
    all_goals (try dsimp only at h ⊢)
    all_goals first
      | exact hr _ _ _ _ _ _ hG h
      | (split at h <;> first
          | (cases h; done)
          | exact hr _ _ _ _ _ _ hG h
          | (cases h; exact ⟨rfl, hG⟩)
          | ((try dsimp only); split at h <;> first | (cases h; done) | (rename_i c; cases h; rw [if_pos c]; exact ⟨rfl, hG⟩) | (split at h <;> rename_i c <;> first | (rw [if_pos c]; first | exact hr _ _ _ _ _ _ hG h | exact ih _ _ _ _ _ hG h) | (rw [if_neg c]; first | exact hr _ _ _ _ _ _ hG h | exact ih _ _ _ _ _ hG h)))
          | (split at h
             · rename_i c
               rw [if_pos c]
               split at h
               · rename_i e
                 obtain ⟨e1, e2⟩ := hc _ _ _ _ _ hG e
                 rw [e1]
                 exact ih _ _ _ _ _ e2 h
               · rename_i e
                 obtain ⟨e1, e2⟩ := hc _ _ _ _ _ hG e
                 rw [e1]
                 exact ih _ _ _ _ _ e2 h
               · cases h
             · cases h)
          | (rename_i e
             obtain ⟨e1, e2⟩ := zf_op (N := N) (xs := xs) hG e
             rw [e1]
             exact ih _ _ _ _ _ e2 h)
          | (split at h
             · rename_i e
               obtain ⟨e1, e2⟩ := zf_op (N := N) (xs := xs) hG e
               rw [e1]
               exact ih _ _ _ _ _ e2 h
             · cases h))
theorem zf_runF {call : Nat → List ZV → ZM → ZO} {seg : Nat → List ZN} (hc : ∀ j as μ v μ', zG μ → call j as μ = some (v, μ') → call j as (zfr N xs μ) = some (v, zfr N xs μ') ∧ zG μ') : ∀ (n : Nat) (l : Nat) (ls st : List ZV) (μ : ZM) (v : Option ZV) (μ' : ZM), zG μ → zrunF call seg n l ls st μ = some (v, μ') → zrunF call seg n l ls st (zfr N xs μ) = some (v, zfr N xs μ') ∧ zG μ'
  | 0, _, _, _, _, _, _, _, h => by simp [zrunF] at h
  | n + 1, l, ls, st, μ, v, μ', hG, h => zf_exec hc (zf_runF hc n) (seg l) ls st μ v μ' hG h
theorem zf_rcv {rc : Nat} {as : List ZV} (hG : zG μ) (h : zrcvok rc as μ = true) : zrcvok rc as (zfr N xs μ) = true := by
  unfold zrcvok at h ⊢
  split at h
  · rfl
  · (try dsimp only)
    split at h
    · (try dsimp only)
      split at h
      · rename_i e
        rw [zfr_k hG e]
        exact h
      · cases h
    · exact h
    · cases h
  · cases h
theorem zf_cF {F : Nat} : ∀ (d j : Nat) (as : List ZV) (μ : ZM) (v : Option ZV) (μ' : ZM), zG μ → zcF F d j as μ = some (v, μ') → zcF F d j as (zfr N xs μ) = some (v, zfr N xs μ') ∧ zG μ'
  | 0, _, _, _, _, _, _, h => by simp [zcF] at h
  | d + 1, j, as, μ, v, μ', hG, h => by
    unfold zcF at h ⊢
    split at h
    · rename_i c
      rw [if_pos ⟨zf_rcv hG c.1, c.2⟩]
      exact zf_runF (zf_cF d) F 0 _ _ _ _ _ hG h
    · cases h
end FRM
