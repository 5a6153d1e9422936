/-! an instruction a row (by wip/whole/gen26.py) -/
def zcl1 (h : ZV) : ZV := bif zislong h then zu else h
theorem zcl1_i {x : Int} : zcl1 (zi x) = zi x := rfl
theorem zcl1_x {t r o : Nat} : zcl1 (zx t r o) = zx t r o := rfl
theorem zcl1_l {x : Int} : zcl1 (zl x) = zu := rfl
def zcK (call : Nat → List ZV → ZM → ZO) (rec : Nat → List ZV → List ZV → ZM → ZO) (k : List ZN) (ls st : List ZV) : ZO → ZO
  | some (none, μ') => zexec call rec k ls st μ'
  | some (some v, μ') => zexec call rec k ls (v :: st) μ'
  | none => none
section ZX
variable {call : Nat → List ZV → ZM → ZO} {rec : Nat → List ZV → List ZV → ZM → ZO} {k : List ZN} {ls l st : List ZV} {μ : ZM} {m n ix r o t : Nat} {x y off s : Int} {p : ZP} {v w a0 a1 a2 a3 a4 a5 a6 a7 a8 a9 a10 a11 a12 a13 a14 a15 : ZV}
theorem zcK_n : zcK call rec k ls st (some (none, μ)) = zexec call rec k ls st μ := rfl
theorem zcK_s : zcK call rec k ls st (some (some v, μ)) = zexec call rec k ls (v :: st) μ := rfl
theorem zx_aload_4 : zexec call rec ((.aload 4, m, p) :: k) (a0 :: a1 :: a2 :: a3 :: zr r o :: l) st μ = zexec call rec k (a0 :: a1 :: a2 :: a3 :: zr r o :: l) (zr r o :: st) μ := by simp [zexec, zop, zldA, show ((3 : Fin 4) : Nat) = 3 from rfl]
theorem zx_aload_4_5 (h : r < 10) : zexec call rec ((.aload 4, m, p) :: k) (a0 :: a1 :: a2 :: a3 :: zx 5 r o :: l) st μ = zexec call rec k (a0 :: a1 :: a2 :: a3 :: zx 5 r o :: l) (zx 5 r o :: st) μ := by simp [zexec, zop, zldA, h, show ((3 : Fin 4) : Nat) = 3 from rfl]
theorem zx_aload_4_4 (h : r < 10) : zexec call rec ((.aload 4, m, p) :: k) (a0 :: a1 :: a2 :: a3 :: zx 4 r o :: l) st μ = zexec call rec k (a0 :: a1 :: a2 :: a3 :: zx 4 r o :: l) (zx 4 r o :: st) μ := by simp [zexec, zop, zldA, h, show ((3 : Fin 4) : Nat) = 3 from rfl]
theorem zx_aload_5 : zexec call rec ((.aload 5, m, p) :: k) (a0 :: a1 :: a2 :: a3 :: a4 :: zr r o :: l) st μ = zexec call rec k (a0 :: a1 :: a2 :: a3 :: a4 :: zr r o :: l) (zr r o :: st) μ := by simp [zexec, zop, zldA, show ((3 : Fin 4) : Nat) = 3 from rfl]
theorem zx_aload_5_5 (h : r < 10) : zexec call rec ((.aload 5, m, p) :: k) (a0 :: a1 :: a2 :: a3 :: a4 :: zx 5 r o :: l) st μ = zexec call rec k (a0 :: a1 :: a2 :: a3 :: a4 :: zx 5 r o :: l) (zx 5 r o :: st) μ := by simp [zexec, zop, zldA, h, show ((3 : Fin 4) : Nat) = 3 from rfl]
theorem zx_aload_5_4 (h : r < 10) : zexec call rec ((.aload 5, m, p) :: k) (a0 :: a1 :: a2 :: a3 :: a4 :: zx 4 r o :: l) st μ = zexec call rec k (a0 :: a1 :: a2 :: a3 :: a4 :: zx 4 r o :: l) (zx 4 r o :: st) μ := by simp [zexec, zop, zldA, h, show ((3 : Fin 4) : Nat) = 3 from rfl]
theorem zx_aload_n_0 : zexec call rec ((.aload_n 0, m, p) :: k) (zr r o :: l) st μ = zexec call rec k (zr r o :: l) (zr r o :: st) μ := by simp [zexec, zop, zldA, show ((3 : Fin 4) : Nat) = 3 from rfl]
theorem zx_aload_n_0_5 (h : r < 10) : zexec call rec ((.aload_n 0, m, p) :: k) (zx 5 r o :: l) st μ = zexec call rec k (zx 5 r o :: l) (zx 5 r o :: st) μ := by simp [zexec, zop, zldA, h, show ((3 : Fin 4) : Nat) = 3 from rfl]
theorem zx_aload_n_0_4 (h : r < 10) : zexec call rec ((.aload_n 0, m, p) :: k) (zx 4 r o :: l) st μ = zexec call rec k (zx 4 r o :: l) (zx 4 r o :: st) μ := by simp [zexec, zop, zldA, h, show ((3 : Fin 4) : Nat) = 3 from rfl]
theorem zx_aload_n_1 : zexec call rec ((.aload_n 1, m, p) :: k) (a0 :: zr r o :: l) st μ = zexec call rec k (a0 :: zr r o :: l) (zr r o :: st) μ := by simp [zexec, zop, zldA, show ((3 : Fin 4) : Nat) = 3 from rfl]
theorem zx_aload_n_1_5 (h : r < 10) : zexec call rec ((.aload_n 1, m, p) :: k) (a0 :: zx 5 r o :: l) st μ = zexec call rec k (a0 :: zx 5 r o :: l) (zx 5 r o :: st) μ := by simp [zexec, zop, zldA, h, show ((3 : Fin 4) : Nat) = 3 from rfl]
theorem zx_aload_n_1_4 (h : r < 10) : zexec call rec ((.aload_n 1, m, p) :: k) (a0 :: zx 4 r o :: l) st μ = zexec call rec k (a0 :: zx 4 r o :: l) (zx 4 r o :: st) μ := by simp [zexec, zop, zldA, h, show ((3 : Fin 4) : Nat) = 3 from rfl]
theorem zx_aload_n_2 : zexec call rec ((.aload_n 2, m, p) :: k) (a0 :: a1 :: zr r o :: l) st μ = zexec call rec k (a0 :: a1 :: zr r o :: l) (zr r o :: st) μ := by simp [zexec, zop, zldA, show ((3 : Fin 4) : Nat) = 3 from rfl]
theorem zx_aload_n_2_5 (h : r < 10) : zexec call rec ((.aload_n 2, m, p) :: k) (a0 :: a1 :: zx 5 r o :: l) st μ = zexec call rec k (a0 :: a1 :: zx 5 r o :: l) (zx 5 r o :: st) μ := by simp [zexec, zop, zldA, h, show ((3 : Fin 4) : Nat) = 3 from rfl]
theorem zx_aload_n_2_4 (h : r < 10) : zexec call rec ((.aload_n 2, m, p) :: k) (a0 :: a1 :: zx 4 r o :: l) st μ = zexec call rec k (a0 :: a1 :: zx 4 r o :: l) (zx 4 r o :: st) μ := by simp [zexec, zop, zldA, h, show ((3 : Fin 4) : Nat) = 3 from rfl]
theorem zx_aload_n_3 : zexec call rec ((.aload_n 3, m, p) :: k) (a0 :: a1 :: a2 :: zr r o :: l) st μ = zexec call rec k (a0 :: a1 :: a2 :: zr r o :: l) (zr r o :: st) μ := by simp [zexec, zop, zldA, show ((3 : Fin 4) : Nat) = 3 from rfl]
theorem zx_aload_n_3_5 (h : r < 10) : zexec call rec ((.aload_n 3, m, p) :: k) (a0 :: a1 :: a2 :: zx 5 r o :: l) st μ = zexec call rec k (a0 :: a1 :: a2 :: zx 5 r o :: l) (zx 5 r o :: st) μ := by simp [zexec, zop, zldA, h, show ((3 : Fin 4) : Nat) = 3 from rfl]
theorem zx_aload_n_3_4 (h : r < 10) : zexec call rec ((.aload_n 3, m, p) :: k) (a0 :: a1 :: a2 :: zx 4 r o :: l) st μ = zexec call rec k (a0 :: a1 :: a2 :: zx 4 r o :: l) (zx 4 r o :: st) μ := by simp [zexec, zop, zldA, h, show ((3 : Fin 4) : Nat) = 3 from rfl]
theorem zx_astore_n_1 : zexec call rec ((.astore_n 1, m, p) :: k) (a0 :: v :: l) (zr r o :: st) μ = zexec call rec k (zcl1 a0 :: zr r o :: l) st μ := by simp [zexec, zop, zstA, zst1, zcl1, show ((3 : Fin 4) : Nat) = 3 from rfl]
theorem zx_astore_n_2 : zexec call rec ((.astore_n 2, m, p) :: k) (a0 :: a1 :: v :: l) (zr r o :: st) μ = zexec call rec k (a0 :: zcl1 a1 :: zr r o :: l) st μ := by simp [zexec, zop, zstA, zst1, zcl1, show ((3 : Fin 4) : Nat) = 3 from rfl]
theorem zx_astore_n_3 : zexec call rec ((.astore_n 3, m, p) :: k) (a0 :: a1 :: a2 :: v :: l) (zr r o :: st) μ = zexec call rec k (a0 :: a1 :: zcl1 a2 :: zr r o :: l) st μ := by simp [zexec, zop, zstA, zst1, zcl1, show ((3 : Fin 4) : Nat) = 3 from rfl]
theorem zx_iinc_1 : zexec call rec ((.iinc 1 off, m, p) :: k) (a0 :: zi x :: l) st μ = zexec call rec k (zcl1 a0 :: zi (zadd x off) :: l) st μ := by simp [zexec, zop, zst1, zcl1]
theorem zx_iinc_2 : zexec call rec ((.iinc 2 off, m, p) :: k) (a0 :: a1 :: zi x :: l) st μ = zexec call rec k (a0 :: zcl1 a1 :: zi (zadd x off) :: l) st μ := by simp [zexec, zop, zst1, zcl1]
theorem zx_iinc_3 : zexec call rec ((.iinc 3 off, m, p) :: k) (a0 :: a1 :: a2 :: zi x :: l) st μ = zexec call rec k (a0 :: a1 :: zcl1 a2 :: zi (zadd x off) :: l) st μ := by simp [zexec, zop, zst1, zcl1]
theorem zx_iinc_4 : zexec call rec ((.iinc 4 off, m, p) :: k) (a0 :: a1 :: a2 :: a3 :: zi x :: l) st μ = zexec call rec k (a0 :: a1 :: a2 :: zcl1 a3 :: zi (zadd x off) :: l) st μ := by simp [zexec, zop, zst1, zcl1]
theorem zx_iinc_5 : zexec call rec ((.iinc 5 off, m, p) :: k) (a0 :: a1 :: a2 :: a3 :: a4 :: zi x :: l) st μ = zexec call rec k (a0 :: a1 :: a2 :: a3 :: zcl1 a4 :: zi (zadd x off) :: l) st μ := by simp [zexec, zop, zst1, zcl1]
theorem zx_iinc_6 : zexec call rec ((.iinc 6 off, m, p) :: k) (a0 :: a1 :: a2 :: a3 :: a4 :: a5 :: zi x :: l) st μ = zexec call rec k (a0 :: a1 :: a2 :: a3 :: a4 :: zcl1 a5 :: zi (zadd x off) :: l) st μ := by simp [zexec, zop, zst1, zcl1]
theorem zx_iinc_7 : zexec call rec ((.iinc 7 off, m, p) :: k) (a0 :: a1 :: a2 :: a3 :: a4 :: a5 :: a6 :: zi x :: l) st μ = zexec call rec k (a0 :: a1 :: a2 :: a3 :: a4 :: a5 :: zcl1 a6 :: zi (zadd x off) :: l) st μ := by simp [zexec, zop, zst1, zcl1]
theorem zx_iinc_8 : zexec call rec ((.iinc 8 off, m, p) :: k) (a0 :: a1 :: a2 :: a3 :: a4 :: a5 :: a6 :: a7 :: zi x :: l) st μ = zexec call rec k (a0 :: a1 :: a2 :: a3 :: a4 :: a5 :: a6 :: zcl1 a7 :: zi (zadd x off) :: l) st μ := by simp [zexec, zop, zst1, zcl1]
theorem zx_iinc_14 : zexec call rec ((.iinc 14 off, m, p) :: k) (a0 :: a1 :: a2 :: a3 :: a4 :: a5 :: a6 :: a7 :: a8 :: a9 :: a10 :: a11 :: a12 :: a13 :: zi x :: l) st μ = zexec call rec k (a0 :: a1 :: a2 :: a3 :: a4 :: a5 :: a6 :: a7 :: a8 :: a9 :: a10 :: a11 :: a12 :: zcl1 a13 :: zi (zadd x off) :: l) st μ := by simp [zexec, zop, zst1, zcl1]
theorem zx_iload_4 : zexec call rec ((.iload 4, m, p) :: k) (a0 :: a1 :: a2 :: a3 :: zi x :: l) st μ = zexec call rec k (a0 :: a1 :: a2 :: a3 :: zi x :: l) (zi x :: st) μ := rfl
theorem zx_iload_5 : zexec call rec ((.iload 5, m, p) :: k) (a0 :: a1 :: a2 :: a3 :: a4 :: zi x :: l) st μ = zexec call rec k (a0 :: a1 :: a2 :: a3 :: a4 :: zi x :: l) (zi x :: st) μ := rfl
theorem zx_iload_6 : zexec call rec ((.iload 6, m, p) :: k) (a0 :: a1 :: a2 :: a3 :: a4 :: a5 :: zi x :: l) st μ = zexec call rec k (a0 :: a1 :: a2 :: a3 :: a4 :: a5 :: zi x :: l) (zi x :: st) μ := rfl
theorem zx_iload_7 : zexec call rec ((.iload 7, m, p) :: k) (a0 :: a1 :: a2 :: a3 :: a4 :: a5 :: a6 :: zi x :: l) st μ = zexec call rec k (a0 :: a1 :: a2 :: a3 :: a4 :: a5 :: a6 :: zi x :: l) (zi x :: st) μ := rfl
theorem zx_iload_8 : zexec call rec ((.iload 8, m, p) :: k) (a0 :: a1 :: a2 :: a3 :: a4 :: a5 :: a6 :: a7 :: zi x :: l) st μ = zexec call rec k (a0 :: a1 :: a2 :: a3 :: a4 :: a5 :: a6 :: a7 :: zi x :: l) (zi x :: st) μ := rfl
theorem zx_iload_9 : zexec call rec ((.iload 9, m, p) :: k) (a0 :: a1 :: a2 :: a3 :: a4 :: a5 :: a6 :: a7 :: a8 :: zi x :: l) st μ = zexec call rec k (a0 :: a1 :: a2 :: a3 :: a4 :: a5 :: a6 :: a7 :: a8 :: zi x :: l) (zi x :: st) μ := rfl
theorem zx_iload_10 : zexec call rec ((.iload 10, m, p) :: k) (a0 :: a1 :: a2 :: a3 :: a4 :: a5 :: a6 :: a7 :: a8 :: a9 :: zi x :: l) st μ = zexec call rec k (a0 :: a1 :: a2 :: a3 :: a4 :: a5 :: a6 :: a7 :: a8 :: a9 :: zi x :: l) (zi x :: st) μ := rfl
theorem zx_iload_11 : zexec call rec ((.iload 11, m, p) :: k) (a0 :: a1 :: a2 :: a3 :: a4 :: a5 :: a6 :: a7 :: a8 :: a9 :: a10 :: zi x :: l) st μ = zexec call rec k (a0 :: a1 :: a2 :: a3 :: a4 :: a5 :: a6 :: a7 :: a8 :: a9 :: a10 :: zi x :: l) (zi x :: st) μ := rfl
theorem zx_iload_12 : zexec call rec ((.iload 12, m, p) :: k) (a0 :: a1 :: a2 :: a3 :: a4 :: a5 :: a6 :: a7 :: a8 :: a9 :: a10 :: a11 :: zi x :: l) st μ = zexec call rec k (a0 :: a1 :: a2 :: a3 :: a4 :: a5 :: a6 :: a7 :: a8 :: a9 :: a10 :: a11 :: zi x :: l) (zi x :: st) μ := rfl
theorem zx_iload_13 : zexec call rec ((.iload 13, m, p) :: k) (a0 :: a1 :: a2 :: a3 :: a4 :: a5 :: a6 :: a7 :: a8 :: a9 :: a10 :: a11 :: a12 :: zi x :: l) st μ = zexec call rec k (a0 :: a1 :: a2 :: a3 :: a4 :: a5 :: a6 :: a7 :: a8 :: a9 :: a10 :: a11 :: a12 :: zi x :: l) (zi x :: st) μ := rfl
theorem zx_iload_14 : zexec call rec ((.iload 14, m, p) :: k) (a0 :: a1 :: a2 :: a3 :: a4 :: a5 :: a6 :: a7 :: a8 :: a9 :: a10 :: a11 :: a12 :: a13 :: zi x :: l) st μ = zexec call rec k (a0 :: a1 :: a2 :: a3 :: a4 :: a5 :: a6 :: a7 :: a8 :: a9 :: a10 :: a11 :: a12 :: a13 :: zi x :: l) (zi x :: st) μ := rfl
theorem zx_iload_n_0 : zexec call rec ((.iload_n 0, m, p) :: k) (zi x :: l) st μ = zexec call rec k (zi x :: l) (zi x :: st) μ := rfl
theorem zx_iload_n_1 : zexec call rec ((.iload_n 1, m, p) :: k) (a0 :: zi x :: l) st μ = zexec call rec k (a0 :: zi x :: l) (zi x :: st) μ := rfl
theorem zx_iload_n_2 : zexec call rec ((.iload_n 2, m, p) :: k) (a0 :: a1 :: zi x :: l) st μ = zexec call rec k (a0 :: a1 :: zi x :: l) (zi x :: st) μ := rfl
theorem zx_iload_n_3 : zexec call rec ((.iload_n 3, m, p) :: k) (a0 :: a1 :: a2 :: zi x :: l) st μ = zexec call rec k (a0 :: a1 :: a2 :: zi x :: l) (zi x :: st) μ := rfl
theorem zx_istore_4 : zexec call rec ((.istore 4, m, p) :: k) (a0 :: a1 :: a2 :: a3 :: v :: l) (zi x :: st) μ = zexec call rec k (a0 :: a1 :: a2 :: zcl1 a3 :: zi x :: l) st μ := by simp [zexec, zop, zstI, zst1, zcl1, show ((3 : Fin 4) : Nat) = 3 from rfl]
theorem zx_istore_5 : zexec call rec ((.istore 5, m, p) :: k) (a0 :: a1 :: a2 :: a3 :: a4 :: v :: l) (zi x :: st) μ = zexec call rec k (a0 :: a1 :: a2 :: a3 :: zcl1 a4 :: zi x :: l) st μ := by simp [zexec, zop, zstI, zst1, zcl1, show ((3 : Fin 4) : Nat) = 3 from rfl]
theorem zx_istore_6 : zexec call rec ((.istore 6, m, p) :: k) (a0 :: a1 :: a2 :: a3 :: a4 :: a5 :: v :: l) (zi x :: st) μ = zexec call rec k (a0 :: a1 :: a2 :: a3 :: a4 :: zcl1 a5 :: zi x :: l) st μ := by simp [zexec, zop, zstI, zst1, zcl1, show ((3 : Fin 4) : Nat) = 3 from rfl]
theorem zx_istore_7 : zexec call rec ((.istore 7, m, p) :: k) (a0 :: a1 :: a2 :: a3 :: a4 :: a5 :: a6 :: v :: l) (zi x :: st) μ = zexec call rec k (a0 :: a1 :: a2 :: a3 :: a4 :: a5 :: zcl1 a6 :: zi x :: l) st μ := by simp [zexec, zop, zstI, zst1, zcl1, show ((3 : Fin 4) : Nat) = 3 from rfl]
theorem zx_istore_8 : zexec call rec ((.istore 8, m, p) :: k) (a0 :: a1 :: a2 :: a3 :: a4 :: a5 :: a6 :: a7 :: v :: l) (zi x :: st) μ = zexec call rec k (a0 :: a1 :: a2 :: a3 :: a4 :: a5 :: a6 :: zcl1 a7 :: zi x :: l) st μ := by simp [zexec, zop, zstI, zst1, zcl1, show ((3 : Fin 4) : Nat) = 3 from rfl]
theorem zx_istore_9 : zexec call rec ((.istore 9, m, p) :: k) (a0 :: a1 :: a2 :: a3 :: a4 :: a5 :: a6 :: a7 :: a8 :: v :: l) (zi x :: st) μ = zexec call rec k (a0 :: a1 :: a2 :: a3 :: a4 :: a5 :: a6 :: a7 :: zcl1 a8 :: zi x :: l) st μ := by simp [zexec, zop, zstI, zst1, zcl1, show ((3 : Fin 4) : Nat) = 3 from rfl]
theorem zx_istore_10 : zexec call rec ((.istore 10, m, p) :: k) (a0 :: a1 :: a2 :: a3 :: a4 :: a5 :: a6 :: a7 :: a8 :: a9 :: v :: l) (zi x :: st) μ = zexec call rec k (a0 :: a1 :: a2 :: a3 :: a4 :: a5 :: a6 :: a7 :: a8 :: zcl1 a9 :: zi x :: l) st μ := by simp [zexec, zop, zstI, zst1, zcl1, show ((3 : Fin 4) : Nat) = 3 from rfl]
theorem zx_istore_11 : zexec call rec ((.istore 11, m, p) :: k) (a0 :: a1 :: a2 :: a3 :: a4 :: a5 :: a6 :: a7 :: a8 :: a9 :: a10 :: v :: l) (zi x :: st) μ = zexec call rec k (a0 :: a1 :: a2 :: a3 :: a4 :: a5 :: a6 :: a7 :: a8 :: a9 :: zcl1 a10 :: zi x :: l) st μ := by simp [zexec, zop, zstI, zst1, zcl1, show ((3 : Fin 4) : Nat) = 3 from rfl]
theorem zx_istore_12 : zexec call rec ((.istore 12, m, p) :: k) (a0 :: a1 :: a2 :: a3 :: a4 :: a5 :: a6 :: a7 :: a8 :: a9 :: a10 :: a11 :: v :: l) (zi x :: st) μ = zexec call rec k (a0 :: a1 :: a2 :: a3 :: a4 :: a5 :: a6 :: a7 :: a8 :: a9 :: a10 :: zcl1 a11 :: zi x :: l) st μ := by simp [zexec, zop, zstI, zst1, zcl1, show ((3 : Fin 4) : Nat) = 3 from rfl]
theorem zx_istore_13 : zexec call rec ((.istore 13, m, p) :: k) (a0 :: a1 :: a2 :: a3 :: a4 :: a5 :: a6 :: a7 :: a8 :: a9 :: a10 :: a11 :: a12 :: v :: l) (zi x :: st) μ = zexec call rec k (a0 :: a1 :: a2 :: a3 :: a4 :: a5 :: a6 :: a7 :: a8 :: a9 :: a10 :: a11 :: zcl1 a12 :: zi x :: l) st μ := by simp [zexec, zop, zstI, zst1, zcl1, show ((3 : Fin 4) : Nat) = 3 from rfl]
theorem zx_istore_14 : zexec call rec ((.istore 14, m, p) :: k) (a0 :: a1 :: a2 :: a3 :: a4 :: a5 :: a6 :: a7 :: a8 :: a9 :: a10 :: a11 :: a12 :: a13 :: v :: l) (zi x :: st) μ = zexec call rec k (a0 :: a1 :: a2 :: a3 :: a4 :: a5 :: a6 :: a7 :: a8 :: a9 :: a10 :: a11 :: a12 :: zcl1 a13 :: zi x :: l) st μ := by simp [zexec, zop, zstI, zst1, zcl1, show ((3 : Fin 4) : Nat) = 3 from rfl]
theorem zx_istore_n_0 : zexec call rec ((.istore_n 0, m, p) :: k) (v :: l) (zi x :: st) μ = zexec call rec k (zi x :: l) st μ := by simp [zexec, zop, zstI, zst1, zcl1, show ((3 : Fin 4) : Nat) = 3 from rfl]
theorem zx_istore_n_1 : zexec call rec ((.istore_n 1, m, p) :: k) (a0 :: v :: l) (zi x :: st) μ = zexec call rec k (zcl1 a0 :: zi x :: l) st μ := by simp [zexec, zop, zstI, zst1, zcl1, show ((3 : Fin 4) : Nat) = 3 from rfl]
theorem zx_istore_n_2 : zexec call rec ((.istore_n 2, m, p) :: k) (a0 :: a1 :: v :: l) (zi x :: st) μ = zexec call rec k (a0 :: zcl1 a1 :: zi x :: l) st μ := by simp [zexec, zop, zstI, zst1, zcl1, show ((3 : Fin 4) : Nat) = 3 from rfl]
theorem zx_istore_n_3 : zexec call rec ((.istore_n 3, m, p) :: k) (a0 :: a1 :: a2 :: v :: l) (zi x :: st) μ = zexec call rec k (a0 :: a1 :: zcl1 a2 :: zi x :: l) st μ := by simp [zexec, zop, zstI, zst1, zcl1, show ((3 : Fin 4) : Nat) = 3 from rfl]
theorem zx_lload_4 : zexec call rec ((.lload 4, m, p) :: k) (a0 :: a1 :: a2 :: a3 :: zl x :: l) st μ = zexec call rec k (a0 :: a1 :: a2 :: a3 :: zl x :: l) (zl x :: st) μ := rfl
theorem zx_lload_6 : zexec call rec ((.lload 6, m, p) :: k) (a0 :: a1 :: a2 :: a3 :: a4 :: a5 :: zl x :: l) st μ = zexec call rec k (a0 :: a1 :: a2 :: a3 :: a4 :: a5 :: zl x :: l) (zl x :: st) μ := rfl
theorem zx_lload_7 : zexec call rec ((.lload 7, m, p) :: k) (a0 :: a1 :: a2 :: a3 :: a4 :: a5 :: a6 :: zl x :: l) st μ = zexec call rec k (a0 :: a1 :: a2 :: a3 :: a4 :: a5 :: a6 :: zl x :: l) (zl x :: st) μ := rfl
theorem zx_lload_9 : zexec call rec ((.lload 9, m, p) :: k) (a0 :: a1 :: a2 :: a3 :: a4 :: a5 :: a6 :: a7 :: a8 :: zl x :: l) st μ = zexec call rec k (a0 :: a1 :: a2 :: a3 :: a4 :: a5 :: a6 :: a7 :: a8 :: zl x :: l) (zl x :: st) μ := rfl
theorem zx_lload_n_0 : zexec call rec ((.lload_n 0, m, p) :: k) (zl x :: l) st μ = zexec call rec k (zl x :: l) (zl x :: st) μ := rfl
theorem zx_lload_n_1 : zexec call rec ((.lload_n 1, m, p) :: k) (a0 :: zl x :: l) st μ = zexec call rec k (a0 :: zl x :: l) (zl x :: st) μ := rfl
theorem zx_lload_n_2 : zexec call rec ((.lload_n 2, m, p) :: k) (a0 :: a1 :: zl x :: l) st μ = zexec call rec k (a0 :: a1 :: zl x :: l) (zl x :: st) μ := rfl
theorem zx_lload_n_3 : zexec call rec ((.lload_n 3, m, p) :: k) (a0 :: a1 :: a2 :: zl x :: l) st μ = zexec call rec k (a0 :: a1 :: a2 :: zl x :: l) (zl x :: st) μ := rfl
theorem zx_lstore_7 : zexec call rec ((.lstore 7, m, p) :: k) (a0 :: a1 :: a2 :: a3 :: a4 :: a5 :: a6 :: v :: w :: l) (zl x :: st) μ = zexec call rec k (a0 :: a1 :: a2 :: a3 :: a4 :: a5 :: zcl1 a6 :: zl x :: zu :: l) st μ := by simp [zexec, zop, zstL, zst2, zcl1]
theorem zx_lstore_9 : zexec call rec ((.lstore 9, m, p) :: k) (a0 :: a1 :: a2 :: a3 :: a4 :: a5 :: a6 :: a7 :: a8 :: v :: w :: l) (zl x :: st) μ = zexec call rec k (a0 :: a1 :: a2 :: a3 :: a4 :: a5 :: a6 :: a7 :: zcl1 a8 :: zl x :: zu :: l) st μ := by simp [zexec, zop, zstL, zst2, zcl1]
theorem zx_lstore_n_2 : zexec call rec ((.lstore_n 2, m, p) :: k) (a0 :: a1 :: v :: w :: l) (zl x :: st) μ = zexec call rec k (a0 :: zcl1 a1 :: zl x :: zu :: l) st μ := by simp [zexec, zop, zstL, zst2, zcl1]
theorem zx_nop : zexec call rec ((.nop, m, p) :: k) ls st μ = rec p.1 ls st μ := rfl
theorem zx_goto : zexec call rec ((.goto off, m, p) :: k) ls st μ = rec p.1 ls st μ := rfl
theorem zx_ifeq : zexec call rec ((.ifCond .eq off, m, p) :: k) ls (zi x :: st) μ = if x = 0 then rec p.1 ls st μ else zexec call rec k ls st μ := rfl
theorem zx_ifne : zexec call rec ((.ifCond .ne off, m, p) :: k) ls (zi x :: st) μ = if x = 0 then zexec call rec k ls st μ else rec p.1 ls st μ := rfl
theorem zx_iflt : zexec call rec ((.ifCond .lt off, m, p) :: k) ls (zi x :: st) μ = if x < 0 then rec p.1 ls st μ else zexec call rec k ls st μ := rfl
theorem zx_ifge : zexec call rec ((.ifCond .ge off, m, p) :: k) ls (zi x :: st) μ = if x < 0 then zexec call rec k ls st μ else rec p.1 ls st μ := rfl
theorem zx_ifgt : zexec call rec ((.ifCond .gt off, m, p) :: k) ls (zi x :: st) μ = if 0 < x then rec p.1 ls st μ else zexec call rec k ls st μ := rfl
theorem zx_ifle : zexec call rec ((.ifCond .le off, m, p) :: k) ls (zi x :: st) μ = if 0 < x then zexec call rec k ls st μ else rec p.1 ls st μ := rfl
theorem zx_icmpeq : zexec call rec ((.if_icmp .eq off, m, p) :: k) ls (zi y :: zi x :: st) μ = if x = y then rec p.1 ls st μ else zexec call rec k ls st μ := rfl
theorem zx_icmpne : zexec call rec ((.if_icmp .ne off, m, p) :: k) ls (zi y :: zi x :: st) μ = if x = y then zexec call rec k ls st μ else rec p.1 ls st μ := rfl
theorem zx_icmplt : zexec call rec ((.if_icmp .lt off, m, p) :: k) ls (zi y :: zi x :: st) μ = if x < y then rec p.1 ls st μ else zexec call rec k ls st μ := rfl
theorem zx_icmpge : zexec call rec ((.if_icmp .ge off, m, p) :: k) ls (zi y :: zi x :: st) μ = if x < y then zexec call rec k ls st μ else rec p.1 ls st μ := rfl
theorem zx_icmpgt : zexec call rec ((.if_icmp .gt off, m, p) :: k) ls (zi y :: zi x :: st) μ = if y < x then rec p.1 ls st μ else zexec call rec k ls st μ := rfl
theorem zx_icmple : zexec call rec ((.if_icmp .le off, m, p) :: k) ls (zi y :: zi x :: st) μ = if y < x then zexec call rec k ls st μ else rec p.1 ls st μ := rfl
theorem zx_tsw {d lo hi : Int} {offs : Array Int} : zexec call rec ((.tableswitch d lo hi offs, m, p) :: k) ls (zi x :: st) μ = rec (zsw p.1 d lo hi offs x) ls st μ := rfl
theorem zx_lsw {d : Int} {ps : Array (Int × Int)} : zexec call rec ((.lookupswitch d ps, m, p) :: k) ls (zi x :: st) μ = rec (zlsw p.1 d ps.toList x) ls st μ := rfl
theorem zx_ret0 {q : Nat × Int} : zexec call rec ((.ireturn, m, (0, q)) :: k) ls [zi x] μ = some (some (zi x), μ) := by simp [zexec]
theorem zx_ret1 {q : Nat × Int} (h : x = 0 ∨ x = 1) : zexec call rec ((.ireturn, m, (1, q)) :: k) ls [zi x] μ = some (some (zi x), μ) := by simp [zexec, h]
theorem zx_ret2 {q : Nat × Int} (h0 : -128 ≤ x) (h : x < 128) : zexec call rec ((.ireturn, m, (2, q)) :: k) ls [zi x] μ = some (some (zi x), μ) := by simp [zexec, h, h0]
theorem zx_ret3 {q : Nat × Int} (h0 : 0 ≤ x) (h : x < 65536) : zexec call rec ((.ireturn, m, (3, q)) :: k) ls [zi x] μ = some (some (zi x), μ) := by simp [zexec, h, h0]
theorem zx_lret : zexec call rec ((.lreturn, m, p) :: k) ls [zl x] μ = some (some (zl x), μ) := rfl
theorem zx_ret : zexec call rec ((.return_, m, p) :: k) ls [] μ = some (none, μ) := rfl
theorem zx_iconst : zexec call rec ((.iconst x, m, p) :: k) ls st μ = zexec call rec k ls (zi x :: st) μ := rfl
theorem zx_bipush : zexec call rec ((.bipush x, m, p) :: k) ls st μ = zexec call rec k ls (zi x :: st) μ := rfl
theorem zx_sipush : zexec call rec ((.sipush x, m, p) :: k) ls st μ = zexec call rec k ls (zi x :: st) μ := rfl
theorem zx_lconst_0 : zexec call rec ((.lconst 0, m, p) :: k) ls st μ = zexec call rec k ls (zl 0 :: st) μ := rfl
theorem zx_lconst_1 : zexec call rec ((.lconst 1, m, p) :: k) ls st μ = zexec call rec k ls (zl 1 :: st) μ := rfl
theorem zx_ldc : zexec call rec ((.ldc ix, m, (0, n, x)) :: k) ls st μ = zexec call rec k ls (zi x :: st) μ := rfl
theorem zx_ldc1 (h : n < 10) : zexec call rec ((.ldc ix, m, (1, n, x)) :: k) ls st μ = zexec call rec k ls (zx 4 n 0 :: st) μ := by simp [zexec, zop, h]
theorem zx_ldcw : zexec call rec ((.ldc_w ix, m, (t, n, x)) :: k) ls st μ = zexec call rec k ls (zi x :: st) μ := rfl
theorem zx_ldc2 : zexec call rec ((.ldc2_w ix, m, (t, n, x)) :: k) ls st μ = zexec call rec k ls (zl x :: st) μ := rfl
theorem zx_getst0 {q : Nat × Int} : zexec call rec ((.getstatic ix, m, (0, q)) :: k) ls st μ = zexec call rec k ls (zi 1 :: st) μ := rfl
theorem zx_getst1 {q : Nat × Int} : zexec call rec ((.getstatic ix, m, (1, q)) :: k) ls st μ = zexec call rec k ls (zx 6 0 0 :: st) μ := rfl
theorem zx_gets4 {q : Nat × Int} (h : r < 10) : zexec call rec ((.getfield ix, m, (50, q)) :: k) ls (zx 4 r o :: st) μ = zexec call rec k ls (zx 5 r 0 :: st) μ := by simp [zexec, zop, zgetf, h]
theorem zx_gets5 {q : Nat × Int} (h : r < 10) : zexec call rec ((.getfield ix, m, (51, q)) :: k) ls (zx 4 r o :: st) μ = zexec call rec k ls (zi 0 :: st) μ := by simp [zexec, zop, zgetf, h]
theorem zx_slen (h : r < 10) : zexec call rec ((.arraylength, m, p) :: k) ls (zx 5 r o :: st) μ = zexec call rec k ls (zi ((zstr r).length : Int) :: st) μ := by simp [zexec, zop, zalen, h]
theorem zx_sald (h : r < 10) (h0 : 0 ≤ x) (h1 : x < ((zstr r).length : Int)) : zexec call rec ((.baload, m, p) :: k) ls (zi x :: zx 5 r o :: st) μ = zexec call rec k ls (zi ((zstr r).getD x.toNat 0) :: st) μ := by simp [zexec, zop, zbald, h, h0, h1]
theorem zx_iadd : zexec call rec ((.iadd, m, p) :: k) ls (zi y :: zi x :: st) μ = zexec call rec k ls (zi (zadd x y) :: st) μ := rfl
theorem zx_isub : zexec call rec ((.isub, m, p) :: k) ls (zi y :: zi x :: st) μ = zexec call rec k ls (zi (zsub x y) :: st) μ := rfl
theorem zx_imul : zexec call rec ((.imul, m, p) :: k) ls (zi y :: zi x :: st) μ = zexec call rec k ls (zi (zmul x y) :: st) μ := rfl
theorem zx_idiv (h : y ≠ 0) : zexec call rec ((.idiv, m, p) :: k) ls (zi y :: zi x :: st) μ = zexec call rec k ls (zi (zdiv x y) :: st) μ := by simp [zexec, zop, zbind, h]
theorem zx_irem (h : y ≠ 0) : zexec call rec ((.irem, m, p) :: k) ls (zi y :: zi x :: st) μ = zexec call rec k ls (zi (zrem x y) :: st) μ := by simp [zexec, zop, zbind, h]
theorem zx_ineg : zexec call rec ((.ineg, m, p) :: k) ls (zi x :: st) μ = zexec call rec k ls (zi (zneg x) :: st) μ := rfl
theorem zx_iand : zexec call rec ((.iand, m, p) :: k) ls (zi y :: zi x :: st) μ = zexec call rec k ls (zi (zand x y) :: st) μ := rfl
theorem zx_ior : zexec call rec ((.ior, m, p) :: k) ls (zi y :: zi x :: st) μ = zexec call rec k ls (zi (zor x y) :: st) μ := rfl
theorem zx_ishl : zexec call rec ((.ishl, m, p) :: k) ls (zi y :: zi x :: st) μ = zexec call rec k ls (zi (zshl x y) :: st) μ := rfl
theorem zx_ishr : zexec call rec ((.ishr, m, p) :: k) ls (zi y :: zi x :: st) μ = zexec call rec k ls (zi (zshr x y) :: st) μ := rfl
theorem zx_iushr : zexec call rec ((.iushr, m, p) :: k) ls (zi y :: zi x :: st) μ = zexec call rec k ls (zi (zushr x y) :: st) μ := rfl
theorem zx_land : zexec call rec ((.land, m, p) :: k) ls (zl y :: zl x :: st) μ = zexec call rec k ls (zl (zland x y) :: st) μ := rfl
theorem zx_lor : zexec call rec ((.lor, m, p) :: k) ls (zl y :: zl x :: st) μ = zexec call rec k ls (zl (zlor x y) :: st) μ := rfl
theorem zx_lshl : zexec call rec ((.lshl, m, p) :: k) ls (zi y :: zl x :: st) μ = zexec call rec k ls (zl (zlshl x y) :: st) μ := rfl
theorem zx_lshr : zexec call rec ((.lshr, m, p) :: k) ls (zi y :: zl x :: st) μ = zexec call rec k ls (zl (zlshr x y) :: st) μ := rfl
theorem zx_lcmp : zexec call rec ((.lcmp, m, p) :: k) ls (zl y :: zl x :: st) μ = zexec call rec k ls (zi (zlcmp x y) :: st) μ := rfl
theorem zx_i2l : zexec call rec ((.i2l, m, p) :: k) ls (zi x :: st) μ = zexec call rec k ls (zl x :: st) μ := rfl
theorem zx_l2i : zexec call rec ((.l2i, m, p) :: k) ls (zl x :: st) μ = zexec call rec k ls (zi (zl2i x) :: st) μ := rfl
theorem zx_i2b : zexec call rec ((.i2b, m, p) :: k) ls (zi x :: st) μ = zexec call rec k ls (zi (zi2b x) :: st) μ := rfl
theorem zx_i2s : zexec call rec ((.i2s, m, p) :: k) ls (zi x :: st) μ = zexec call rec k ls (zi (zi2s x) :: st) μ := rfl
theorem zx_i2c : zexec call rec ((.i2c, m, p) :: k) ls (zi x :: st) μ = zexec call rec k ls (zi (zi2c x) :: st) μ := rfl
theorem zx_dup_i : zexec call rec ((.dup, m, p) :: k) ls (zi x :: st) μ = zexec call rec k ls (zi x :: zi x :: st) μ := rfl
theorem zx_dup_r : zexec call rec ((.dup, m, p) :: k) ls (zr r o :: st) μ = zexec call rec k ls (zr r o :: zr r o :: st) μ := rfl
theorem zx_dup2 : zexec call rec ((.dup2, m, p) :: k) ls (zi x :: zr r o :: st) μ = zexec call rec k ls (zi x :: zr r o :: zi x :: zr r o :: st) μ := rfl
theorem zx_pop : zexec call rec ((.pop, m, p) :: k) ls (zi x :: st) μ = zexec call rec k ls st μ := rfl
theorem zx_max : zexec call rec ((.invokestatic ix, m, (t, n, 3)) :: k) ls (zi y :: zi x :: st) μ = if ((zi y :: zi x :: st).map zcat).sum ≤ 13 then zexec call rec k ls (zi (zmax x y) :: st) μ else none := by
  by_cases h : ((zi y :: zi x :: st).map zcat).sum ≤ 13
  · simp only [zexec, zop, zistat, if_pos h, zbin]
  · simp only [zexec, zop, zistat, if_neg h]
theorem zx_min : zexec call rec ((.invokestatic ix, m, (t, n, 4)) :: k) ls (zi y :: zi x :: st) μ = if ((zi y :: zi x :: st).map zcat).sum ≤ 13 then zexec call rec k ls (zi (zmin x y) :: st) μ else none := by
  by_cases h : ((zi y :: zi x :: st).map zcat).sum ≤ 13
  · simp only [zexec, zop, zistat, if_pos h, zbin]
  · simp only [zexec, zop, zistat, if_neg h]
/-- what a stack takes -/
theorem zsum_0 : (([] : List ZV).map zcat).sum = 0 := rfl
theorem zsum_i {b : Nat} (h : (st.map zcat).sum ≤ b) : ((zi x :: st).map zcat).sum ≤ b + 1 := by rw [List.map_cons, List.sum_cons]; show 1 + _ ≤ _; omega
theorem zx_cv_0 : zexec call rec ((.invokevirtual ix, m, (n, 0, 0)) :: k) ls (st) μ = if (st.map zcat).sum ≤ 8 then zcK call rec k ls st (call n [] μ) else none := by
  simp [zexec, zcK]
  try (split <;> first | rfl | (split <;> rfl))
theorem zx_cs_0 : zexec call rec ((.invokestatic ix, m, (n, 0, 0)) :: k) ls (st) μ = if (st.map zcat).sum ≤ 8 then zcK call rec k ls st (call n [] μ) else none := by
  simp [zexec, zcK]
  try (split <;> first | rfl | (split <;> rfl))
theorem zx_cp_0 : zexec call rec ((.invokespecial ix, m, (n, 0, 0)) :: k) ls (st) μ = if (st.map zcat).sum ≤ 8 then zcK call rec k ls st (call n [] μ) else none := by
  simp [zexec, zcK]
  try (split <;> first | rfl | (split <;> rfl))
theorem zx_cv_1 : zexec call rec ((.invokevirtual ix, m, (n, 1, 0)) :: k) ls (a0 :: st) μ = if (st.map zcat).sum ≤ 8 then zcK call rec k ls st (call n [a0] μ) else none := by
  simp [zexec, zcK]
  try (split <;> first | rfl | (split <;> rfl))
theorem zx_cs_1 : zexec call rec ((.invokestatic ix, m, (n, 1, 0)) :: k) ls (a0 :: st) μ = if (st.map zcat).sum ≤ 8 then zcK call rec k ls st (call n [a0] μ) else none := by
  simp [zexec, zcK]
  try (split <;> first | rfl | (split <;> rfl))
theorem zx_cp_1 : zexec call rec ((.invokespecial ix, m, (n, 1, 0)) :: k) ls (a0 :: st) μ = if (st.map zcat).sum ≤ 8 then zcK call rec k ls st (call n [a0] μ) else none := by
  simp [zexec, zcK]
  try (split <;> first | rfl | (split <;> rfl))
theorem zx_cv_2 : zexec call rec ((.invokevirtual ix, m, (n, 2, 0)) :: k) ls (a1 :: a0 :: st) μ = if (st.map zcat).sum ≤ 8 then zcK call rec k ls st (call n [a0, a1] μ) else none := by
  simp [zexec, zcK]
  try (split <;> first | rfl | (split <;> rfl))
theorem zx_cs_2 : zexec call rec ((.invokestatic ix, m, (n, 2, 0)) :: k) ls (a1 :: a0 :: st) μ = if (st.map zcat).sum ≤ 8 then zcK call rec k ls st (call n [a0, a1] μ) else none := by
  simp [zexec, zcK]
  try (split <;> first | rfl | (split <;> rfl))
theorem zx_cp_2 : zexec call rec ((.invokespecial ix, m, (n, 2, 0)) :: k) ls (a1 :: a0 :: st) μ = if (st.map zcat).sum ≤ 8 then zcK call rec k ls st (call n [a0, a1] μ) else none := by
  simp [zexec, zcK]
  try (split <;> first | rfl | (split <;> rfl))
theorem zx_cv_3 : zexec call rec ((.invokevirtual ix, m, (n, 3, 0)) :: k) ls (a2 :: a1 :: a0 :: st) μ = if (st.map zcat).sum ≤ 8 then zcK call rec k ls st (call n [a0, a1, a2] μ) else none := by
  simp [zexec, zcK]
  try (split <;> first | rfl | (split <;> rfl))
theorem zx_cs_3 : zexec call rec ((.invokestatic ix, m, (n, 3, 0)) :: k) ls (a2 :: a1 :: a0 :: st) μ = if (st.map zcat).sum ≤ 8 then zcK call rec k ls st (call n [a0, a1, a2] μ) else none := by
  simp [zexec, zcK]
  try (split <;> first | rfl | (split <;> rfl))
theorem zx_cp_3 : zexec call rec ((.invokespecial ix, m, (n, 3, 0)) :: k) ls (a2 :: a1 :: a0 :: st) μ = if (st.map zcat).sum ≤ 8 then zcK call rec k ls st (call n [a0, a1, a2] μ) else none := by
  simp [zexec, zcK]
  try (split <;> first | rfl | (split <;> rfl))
theorem zx_cv_4 : zexec call rec ((.invokevirtual ix, m, (n, 4, 0)) :: k) ls (a3 :: a2 :: a1 :: a0 :: st) μ = if (st.map zcat).sum ≤ 8 then zcK call rec k ls st (call n [a0, a1, a2, a3] μ) else none := by
  simp [zexec, zcK]
  try (split <;> first | rfl | (split <;> rfl))
theorem zx_cs_4 : zexec call rec ((.invokestatic ix, m, (n, 4, 0)) :: k) ls (a3 :: a2 :: a1 :: a0 :: st) μ = if (st.map zcat).sum ≤ 8 then zcK call rec k ls st (call n [a0, a1, a2, a3] μ) else none := by
  simp [zexec, zcK]
  try (split <;> first | rfl | (split <;> rfl))
theorem zx_cp_4 : zexec call rec ((.invokespecial ix, m, (n, 4, 0)) :: k) ls (a3 :: a2 :: a1 :: a0 :: st) μ = if (st.map zcat).sum ≤ 8 then zcK call rec k ls st (call n [a0, a1, a2, a3] μ) else none := by
  simp [zexec, zcK]
  try (split <;> first | rfl | (split <;> rfl))
theorem zx_cv_5 : zexec call rec ((.invokevirtual ix, m, (n, 5, 0)) :: k) ls (a4 :: a3 :: a2 :: a1 :: a0 :: st) μ = if (st.map zcat).sum ≤ 8 then zcK call rec k ls st (call n [a0, a1, a2, a3, a4] μ) else none := by
  simp [zexec, zcK]
  try (split <;> first | rfl | (split <;> rfl))
theorem zx_cs_5 : zexec call rec ((.invokestatic ix, m, (n, 5, 0)) :: k) ls (a4 :: a3 :: a2 :: a1 :: a0 :: st) μ = if (st.map zcat).sum ≤ 8 then zcK call rec k ls st (call n [a0, a1, a2, a3, a4] μ) else none := by
  simp [zexec, zcK]
  try (split <;> first | rfl | (split <;> rfl))
theorem zx_cp_5 : zexec call rec ((.invokespecial ix, m, (n, 5, 0)) :: k) ls (a4 :: a3 :: a2 :: a1 :: a0 :: st) μ = if (st.map zcat).sum ≤ 8 then zcK call rec k ls st (call n [a0, a1, a2, a3, a4] μ) else none := by
  simp [zexec, zcK]
  try (split <;> first | rfl | (split <;> rfl))
theorem zx_cv_6 : zexec call rec ((.invokevirtual ix, m, (n, 6, 0)) :: k) ls (a5 :: a4 :: a3 :: a2 :: a1 :: a0 :: st) μ = if (st.map zcat).sum ≤ 8 then zcK call rec k ls st (call n [a0, a1, a2, a3, a4, a5] μ) else none := by
  simp [zexec, zcK]
  try (split <;> first | rfl | (split <;> rfl))
theorem zx_cs_6 : zexec call rec ((.invokestatic ix, m, (n, 6, 0)) :: k) ls (a5 :: a4 :: a3 :: a2 :: a1 :: a0 :: st) μ = if (st.map zcat).sum ≤ 8 then zcK call rec k ls st (call n [a0, a1, a2, a3, a4, a5] μ) else none := by
  simp [zexec, zcK]
  try (split <;> first | rfl | (split <;> rfl))
theorem zx_cp_6 : zexec call rec ((.invokespecial ix, m, (n, 6, 0)) :: k) ls (a5 :: a4 :: a3 :: a2 :: a1 :: a0 :: st) μ = if (st.map zcat).sum ≤ 8 then zcK call rec k ls st (call n [a0, a1, a2, a3, a4, a5] μ) else none := by
  simp [zexec, zcK]
  try (split <;> first | rfl | (split <;> rfl))
theorem zx_init {q : Nat × Int} : zexec call rec ((.invokespecial ix, m, (0, 1, 1)) :: k) ls (zr r o :: st) μ = if (st.map zcat).sum ≤ 8 then zexec call rec k ls st μ else none := by
  by_cases h : (st.map zcat).sum ≤ 8
  · simp only [zexec, zop, if_pos h]
  · simp only [zexec, zop, if_neg h]
end ZX
