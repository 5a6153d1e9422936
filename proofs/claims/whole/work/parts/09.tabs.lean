/-! the classes' tables; fields; stores into rows -/
def zcl (ci : Nat) : vw_C := vwCl.getD ci (RX12, TX12, 69)
def zty (ci : Nat) : Nat → FieldType := match ci with
  | 0 => tyX0
  | 1 => tyX1
  | 2 => tyX2
  | 3 => tyX3
  | 4 => tyX4
  | 5 => tyX5
  | 6 => tyX6
  | 7 => tyX7
  | 8 => tyX8
  | 9 => tyX9
  | 10 => tyX10
  | 11 => tyX11
  | _ => tyX12
theorem zcl_at {ci : Nat} (h : ci < 13) : vwCl[ci]? = some (zcl ci) := by
  match ci, h with
  | 0, _ => rfl
  | 1, _ => rfl
  | 2, _ => rfl
  | 3, _ => rfl
  | 4, _ => rfl
  | 5, _ => rfl
  | 6, _ => rfl
  | 7, _ => rfl
  | 8, _ => rfl
  | 9, _ => rfl
  | 10, _ => rfl
  | 11, _ => rfl
  | 12, _ => rfl
theorem zty_ok {ci : Nat} (h : ci < 13) : ∀ k, k < (zcl ci).2.2 → parseFieldDescriptor ((zcl ci).2.1 k).2.2.1 = some (zty ci k) := by
  match ci, h with
  | 0, _ => exact tyX0_ok
  | 1, _ => exact tyX1_ok
  | 2, _ => exact tyX2_ok
  | 3, _ => exact tyX3_ok
  | 4, _ => exact tyX4_ok
  | 5, _ => exact tyX5_ok
  | 6, _ => exact tyX6_ok
  | 7, _ => exact tyX7_ok
  | 8, _ => exact tyX8_ok
  | 9, _ => exact tyX9_ok
  | 10, _ => exact tyX10_ok
  | 11, _ => exact tyX11_ok
  | 12, _ => exact tyX12_ok
theorem znm_ok {ci : Nat} (h : ci < 13) : ∀ a, a < (zcl ci).2.2 → ∀ b, b < (zcl ci).2.2 → a ≠ b → ((zcl ci).2.1 a).2.1 ≠ ((zcl ci).2.1 b).2.1 := by
  match ci, h with
  | 0, _ => exact nmX0
  | 1, _ => exact nmX1
  | 2, _ => exact nmX2
  | 3, _ => exact nmX3
  | 4, _ => exact nmX4
  | 5, _ => exact nmX5
  | 6, _ => exact nmX6
  | 7, _ => exact nmX7
  | 8, _ => exact nmX8
  | 9, _ => exact nmX9
  | 10, _ => exact nmX10
  | 11, _ => exact nmX11
  | 12, _ => exact nmX12
set_option maxRecDepth 100000 in
theorem zin_a : ∀ w ∈ wsX00 ++ wsX10 ++ wsX20 ++ wsX30 ++ wsX40 ++ wsX50 ++ wsX60, w ∈ lw_tbl := by decide +kernel
set_option maxRecDepth 100000 in
theorem zin_b : ∀ w ∈ wsX70 ++ wsX80 ++ wsX90 ++ wsX100 ++ wsX110, w ∈ lw_tbl := by decide +kernel
set_option maxRecDepth 100000 in
theorem zin_c : ∀ w ∈ wsX120, w ∈ lw_tbl := by decide +kernel
theorem u_ws_good {C : String} {T : u_T} {N : Nat} : ∀ w ∈ u_ws C T N, goodWord w = true := by
  intro w hw
  obtain ⟨k, -, rfl⟩ := List.mem_map.mp hw
  unfold u_lay
  split <;> rfl
theorem zcl_in {ci : Nat} (h : ci < 13) : ∀ w ∈ u_ws (zcl ci).1 (zcl ci).2.1 (zcl ci).2.2, w ∈ zgood := by
  intro w hw
  refine List.mem_filter.mpr ⟨?_, u_ws_good w hw⟩
  match ci, h with
  | 0, _ => exact zin_a w (by simp only [List.mem_append]; exact Or.inl (Or.inl (Or.inl (Or.inl (Or.inl (Or.inl hw))))))
  | 1, _ => exact zin_a w (by simp only [List.mem_append]; exact Or.inl (Or.inl (Or.inl (Or.inl (Or.inl (Or.inr hw))))))
  | 2, _ => exact zin_a w (by simp only [List.mem_append]; exact Or.inl (Or.inl (Or.inl (Or.inl (Or.inr hw)))))
  | 3, _ => exact zin_a w (by simp only [List.mem_append]; exact Or.inl (Or.inl (Or.inl (Or.inr hw))))
  | 4, _ => exact zin_a w (by simp only [List.mem_append]; exact Or.inl (Or.inl (Or.inr hw)))
  | 5, _ => exact zin_a w (by simp only [List.mem_append]; exact Or.inl (Or.inr hw))
  | 6, _ => exact zin_a w (by simp only [List.mem_append]; exact Or.inr hw)
  | 7, _ => exact zin_b w (by simp only [List.mem_append]; exact Or.inl (Or.inl (Or.inl (Or.inl hw))))
  | 8, _ => exact zin_b w (by simp only [List.mem_append]; exact Or.inl (Or.inl (Or.inl (Or.inr hw))))
  | 9, _ => exact zin_b w (by simp only [List.mem_append]; exact Or.inl (Or.inl (Or.inr hw)))
  | 10, _ => exact zin_b w (by simp only [List.mem_append]; exact Or.inl (Or.inr hw))
  | 11, _ => exact zin_b w (by simp only [List.mem_append]; exact Or.inr hw)
  | 12, _ => exact zin_c w hw
