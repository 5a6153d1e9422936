/-! what no step takes back -/
def zle (μ μ' : ZM) : Prop := (∀ r o, μ.1 r o ≠ none → μ'.1 r o = μ.1 r o) ∧ μ.2.2.2.2.1 ≤ μ'.2.2.2.2.1 ∧ μ.2.2.2.2.2 ≤ μ'.2.2.2.2.2
theorem zle.rfl {μ : ZM} : zle μ μ := ⟨fun _ _ _ => Eq.refl _, Nat.le_refl _, Nat.le_refl _⟩
theorem zle.trans {μ μ1 μ2 : ZM} (h1 : zle μ μ1) (h2 : zle μ1 μ2) : zle μ μ2 :=
  ⟨fun r o h => (h2.1 r o (by rw [h1.1 r o h]; exact h)).trans (h1.1 r o h), Nat.le_trans h1.2.1 h2.2.1, Nat.le_trans h1.2.2 h2.2.2⟩
theorem zle.same {μ μ' : ZM} (h1 : μ'.1 = μ.1) (h2 : μ'.2.2.2 = μ.2.2.2) : zle μ μ' := ⟨fun r o _ => by rw [h1], by rw [h2]; exact Nat.le_refl _, by rw [h2]; exact Nat.le_refl _⟩
theorem zle_uk {κ κ' : ZK} {r o : Nat} {w : Nat × Nat} (h : ∀ r o, κ r o ≠ none → κ' r o = κ r o) (hf : κ' r o = none) : ∀ r' o', κ r' o' ≠ none → zuk κ' r o w r' o' = κ r' o' := fun r' o' hh => by
  unfold zuk
  rw [if_neg, h r' o' hh]
  intro z
  rw [z.1, z.2] at hh
  have := h r o hh
  rw [hf] at this
  exact hh this.symm
theorem znew_le {k n : Nat} {g : Nat → ZV} {μ μ' : ZM} {q : Nat × Nat} (h : znew k n g μ = some (q, μ')) : zle μ μ' := by
  unfold znew at h
  split at h
  · split at h
    · rename_i hf
      cases h
      exact ⟨zle_uk (fun _ _ _ => Eq.refl _) hf, Nat.le_add_right _ _, Nat.le_add_right _ _⟩
    · cases h
  · cases h
section
variable {p : ZP} {ls st ls' st' : List ZV} {μ μ' : ZM}
theorem zl_ldI {i : Nat} (h : zldI i ls st μ = some (ls', st', μ')) : zle μ μ' := by unfold zldI at h; split at h <;> cases h; exact zle.rfl
theorem zl_ldL {i : Nat} (h : zldL i ls st μ = some (ls', st', μ')) : zle μ μ' := by unfold zldL at h; split at h <;> cases h; exact zle.rfl
theorem zl_ldA {i : Nat} (h : zldA i ls st μ = some (ls', st', μ')) : zle μ μ' := by unfold zldA at h; (repeat' split at h) <;> first | (cases h; done) | (cases h; exact zle.rfl)
theorem zl_stI {i : Nat} (h : zstI i ls st μ = some (ls', st', μ')) : zle μ μ' := by unfold zstI at h; (repeat' split at h) <;> first | (cases h; done) | (cases h; exact zle.rfl)
theorem zl_stL {i : Nat} (h : zstL i ls st μ = some (ls', st', μ')) : zle μ μ' := by unfold zstL at h; (repeat' split at h) <;> first | (cases h; done) | (cases h; exact zle.rfl)
theorem zl_stA {i : Nat} (h : zstA i ls st μ = some (ls', st', μ')) : zle μ μ' := by unfold zstA at h; (repeat' split at h) <;> first | (cases h; done) | (cases h; exact zle.rfl)
theorem zl_ald {k : Nat} {b : Bool} (h : zaldN k b st ls μ = some (ls', st', μ')) : zle μ μ' := by unfold zaldN at h; (repeat' split at h) <;> first | (cases h; done) | (cases h; exact zle.rfl)
theorem zl_bald (h : zbald st ls μ = some (ls', st', μ')) : zle μ μ' := by unfold zbald at h; (repeat' split at h) <;> first | (cases h; done) | (cases h; exact zle.rfl)
theorem zl_aald (h : zaald st ls μ = some (ls', st', μ')) : zle μ μ' := by unfold zaald at h; (repeat' split at h) <;> first | (cases h; done) | (cases h; exact zle.rfl)
theorem zl_astI (h : zastI st ls μ = some (ls', st', μ')) : zle μ μ' := by unfold zastI at h; (repeat' split at h) <;> first | (cases h; done) | (cases h; exact zle.same (Eq.refl _) (Eq.refl _))
theorem zl_astB (h : zastB st ls μ = some (ls', st', μ')) : zle μ μ' := by unfold zastB at h; (repeat' split at h) <;> first | (cases h; done) | (cases h; exact zle.same (Eq.refl _) (Eq.refl _))
theorem zl_astL (h : zastL st ls μ = some (ls', st', μ')) : zle μ μ' := by unfold zastL at h; (repeat' split at h) <;> first | (cases h; done) | (cases h; exact zle.same (Eq.refl _) (Eq.refl _))
theorem zl_aast (h : zaast st ls μ = some (ls', st', μ')) : zle μ μ' := by unfold zaast at h; (repeat' split at h) <;> first | (cases h; done) | (cases h; exact zle.same (Eq.refl _) (Eq.refl _))
theorem zl_alen (h : zalen st ls μ = some (ls', st', μ')) : zle μ μ' := by unfold zalen at h; (repeat' split at h) <;> first | (cases h; done) | (cases h; exact zle.rfl)
theorem zl_getf (h : zgetf p st ls μ = some (ls', st', μ')) : zle μ μ' := by unfold zgetf at h; (repeat' split at h) <;> first | (cases h; done) | (cases h; exact zle.rfl)
theorem zl_putf (h : zputf p st ls μ = some (ls', st', μ')) : zle μ μ' := by unfold zputf at h; (repeat' split at h) <;> first | (cases h; done) | (cases h; exact zle.same (Eq.refl _) (Eq.refl _))
theorem zl_newa {k : Nat} (h : znewa k st ls μ = some (ls', st', μ')) : zle μ μ' := by
  unfold znewa at h
  split at h
  · split at h
    · split at h
      · rename_i hz
        cases h
        exact znew_le hz
      · cases h
    · cases h
  · cases h
theorem zl_newo (h : znewo p st ls μ = some (ls', st', μ')) : zle μ μ' := by
  unfold znewo at h
  split at h
  · split at h
    · rename_i hz
      cases h
      exact znew_le hz
    · cases h
  · cases h
theorem zl_multi (h : zmulti st ls μ = some (ls', st', μ')) : zle μ μ' := by
  unfold zmulti at h
  split at h
  · split at h
    · rename_i κ f a r0 o0 r1 o1 r2 o2 r3 o3 r4 o4 ns c0 s0 hc0
      cases h
      obtain ⟨-, -, f0, f1, f2, f3, f4, hnd⟩ := hc0
      simp only [List.nodup_cons, List.mem_cons, List.not_mem_nil, or_false, not_or, not_false_eq_true, List.nodup_nil, and_true, Prod.mk.injEq] at hnd
      obtain ⟨⟨d01, d02, d03, d04⟩, ⟨d12, d13, d14⟩, ⟨d23, d24⟩, d34⟩ := hnd
      refine ⟨zle_uk (zle_uk (zle_uk (zle_uk (zle_uk (fun _ _ _ => Eq.refl _) f1) ?_) ?_) ?_) ?_, Nat.le_add_right _ _, Nat.le_add_right _ _⟩
      · rw [zuk_ne (fun z => d12 ⟨z.1.symm, z.2.symm⟩)]; exact f2
      · rw [zuk_ne (fun z => d23 ⟨z.1.symm, z.2.symm⟩), zuk_ne (fun z => d13 ⟨z.1.symm, z.2.symm⟩)]; exact f3
      · rw [zuk_ne (fun z => d34 ⟨z.1.symm, z.2.symm⟩), zuk_ne (fun z => d24 ⟨z.1.symm, z.2.symm⟩), zuk_ne (fun z => d14 ⟨z.1.symm, z.2.symm⟩)]; exact f4
      · rw [zuk_ne (fun z => d04 z), zuk_ne (fun z => d03 z), zuk_ne (fun z => d02 z), zuk_ne (fun z => d01 z)]; exact f0
    · cases h
  · cases h
theorem zl_bin {g : Int → Int → Int} (h : zbin st ls μ g = some (ls', st', μ')) : zle μ μ' := by unfold zbin at h; (repeat' split at h) <;> first | (cases h; done) | (cases h; exact zle.rfl)
theorem zl_bind {g : Int → Int → Int} (h : zbind st ls μ g = some (ls', st', μ')) : zle μ μ' := by unfold zbind at h; (repeat' split at h) <;> first | (cases h; done) | (cases h; exact zle.rfl)
theorem zl_un {g : Int → Int} (h : zun st ls μ g = some (ls', st', μ')) : zle μ μ' := by unfold zun at h; (repeat' split at h) <;> first | (cases h; done) | (cases h; exact zle.rfl)
theorem zl_lbin {g : Int → Int → Int} (h : zlbin st ls μ g = some (ls', st', μ')) : zle μ μ' := by unfold zlbin at h; (repeat' split at h) <;> first | (cases h; done) | (cases h; exact zle.rfl)
theorem zl_lsh {g : Int → Int → Int} (h : zlsh st ls μ g = some (ls', st', μ')) : zle μ μ' := by unfold zlsh at h; (repeat' split at h) <;> first | (cases h; done) | (cases h; exact zle.rfl)
theorem zl_copy (h : zcopy st ls μ = some (ls', st', μ')) : zle μ μ' := by unfold zcopy at h; (repeat' split at h) <;> first | (cases h; done) | (cases h; exact zle.same (Eq.refl _) (Eq.refl _))
theorem zl_istat (h : zistat p st ls μ = some (ls', st', μ')) : zle μ μ' := by
  unfold zistat at h
  (repeat' split at h) <;> first | (cases h; done) | exact zl_bin h | exact zl_copy h
theorem zop_le {i : Instr} (h : zop i p ls st μ = some (ls', st', μ')) : zle μ μ' := by
  unfold zop at h
  split at h
  all_goals first
    | exact zl_ldI h
    | exact zl_ldL h
    | exact zl_ldA h
    | exact zl_stI h
    | exact zl_stL h
    | exact zl_stA h
    | exact zl_ald h
    | exact zl_bald h
    | exact zl_aald h
    | exact zl_astI h
    | exact zl_astB h
    | exact zl_astL h
    | exact zl_aast h
    | exact zl_alen h
    | exact zl_getf h
    | exact zl_putf h
    | exact zl_newa h
    | exact zl_newo h
    | exact zl_multi h
    | exact zl_bin h
    | exact zl_bind h
    | exact zl_un h
    | exact zl_lbin h
    | exact zl_lsh h
    | exact zl_istat h
    | (cases h; done)
    | (cases h; exact zle.rfl)
    | (split at h <;> first | (cases h; done) | (cases h; exact zle.rfl) | exact zl_copy h | (split at h <;> first | (cases h; done) | (cases h; exact zle.rfl)))
end
theorem zexec_le {call : Nat → List ZV → ZM → ZO} {rec : Nat → List ZV → List ZV → ZM → ZO} (hc : ∀ j as μ v μ', call j as μ = some (v, μ') → zle μ μ') (hr : ∀ l ls st μ v μ', rec l ls st μ = some (v, μ') → zle μ μ') :
    ∀ (k : List ZN) (ls st : List ZV) (μ : ZM) (v : Option ZV) (μ' : ZM), zexec call rec k ls st μ = some (v, μ') → zle μ μ'
  | [], _, _, _, _, _, h => by simp [zexec] at h
  | (i, n, p) :: k, ls, st, μ, v, μ', h => by
    have ih := zexec_le hc hr k
    unfold zexec at h
    repeat' split at h
    all_goals first
      | (cases h; done)
      | exact hr _ _ _ _ _ _ h
      | exact ih _ _ _ _ _ h
      | (cases h; exact zle.rfl)
      | (rename_i hz; exact (hc _ _ _ _ _ hz).trans (ih _ _ _ _ _ h))
      | (rename_i hz; exact (zop_le hz).trans (ih _ _ _ _ _ h))
theorem zrunF_lem {call : Nat → List ZV → ZM → ZO} {seg : Nat → List ZN} (hc : ∀ j as μ v μ', call j as μ = some (v, μ') → zle μ μ') : ∀ (n : Nat) (l : Nat) (ls st : List ZV) (μ : ZM) (v : Option ZV) (μ' : ZM), zrunF call seg n l ls st μ = some (v, μ') → zle μ μ'
  | 0, _, _, _, _, _, _, h => by simp [zrunF] at h
  | n + 1, l, ls, st, μ, v, μ', h => zexec_le hc (zrunF_lem hc n) (seg l) ls st μ v μ' h
