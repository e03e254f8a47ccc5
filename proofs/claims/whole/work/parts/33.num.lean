/-! Numbers: an Int of the small machine is an Int32 of the machine's. -/
def rg (x : Int) : Prop := -2147483648 ≤ x ∧ x < 2147483648
abbrev i32 (x : Int) : Int32 := Int32.ofInt x
theorem i32_toInt {x : Int} (h : rg x) : (i32 x).toInt = x := Int32.toInt_ofInt_of_le (by have := h.1; omega) (by have := h.2; omega)
theorem rg_toInt (x : Int32) : rg x.toInt := ⟨by have := x.le_toInt; omega, by have := x.toInt_lt; omega⟩
theorem i32_of (x : Int32) : i32 x.toInt = x := Int32.ofInt_toInt x
theorem i32_inj {x y : Int} (hx : rg x) (hy : rg y) : i32 x = i32 y ↔ x = y := by
  rw [← Int32.toInt_inj, i32_toInt hx, i32_toInt hy]
theorem i32_lt {x y : Int} (hx : rg x) (hy : rg y) : i32 x < i32 y ↔ x < y := by
  rw [Int32.lt_iff_toInt_lt, i32_toInt hx, i32_toInt hy]
theorem i32_le {x y : Int} (hx : rg x) (hy : rg y) : i32 x ≤ i32 y ↔ x ≤ y := by
  rw [Int32.le_iff_toInt_le, i32_toInt hx, i32_toInt hy]
theorem rg_0 : rg 0 := ⟨by omega, by omega⟩
theorem i32_0 : i32 0 = 0 := by decide +kernel
theorem rg_wr (z : Int) : rg (wr z) := by rw [wr_eq]; unfold rg; omega
theorem wr_id {z : Int} (h : rg z) : wr z = z := by rw [wr_eq]; unfold rg at h; omega
theorem i32_wr (z : Int) : i32 (wr z) = i32 z := by
  rw [Int32.ofInt_eq_iff_bmod_eq_toInt, Int32.toInt_ofInt, wr_eq]
  show Int.bmod _ 4294967296 = Int.bmod z 4294967296
  simp only [Int.bmod_def]
  omega
theorem i32_add (x y : Int) : i32 x + i32 y = i32 (wr (x + y)) := by rw [i32_wr]; exact (Int32.ofInt_add x y).symm
theorem i32_sub (x y : Int) : i32 x - i32 y = i32 (wr (x - y)) := by rw [i32_wr]; exact (Int32.ofInt_sub x y).symm
theorem i32_mul (x y : Int) : i32 x * i32 y = i32 (wr (x * y)) := by rw [i32_wr]; exact (Int32.ofInt_mul x y).symm
theorem i32_neg (x : Int) : -i32 x = i32 (wr (-x)) := by rw [i32_wr]; exact (Int32.ofInt_neg x).symm
theorem i32_max : Int32.maxValue.toInt = 2147483647 := by decide +kernel
theorem i32_min : Int32.minValue.toInt = -2147483648 := by decide +kernel
theorem i32_tdiv {x y : Int} (hx : rg x) (hy : rg y) : i32 (x.tdiv y) = i32 x / i32 y :=
  Int32.ofInt_tdiv (by rw [i32_min]; exact hx.1) (by rw [i32_max]; have := hx.2; omega) (by rw [i32_min]; exact hy.1) (by rw [i32_max]; have := hy.2; omega)
theorem i32_idv {x y : Int} (hx : rg x) (hy : rg y) : i32 x / i32 y = i32 (idv x y) := by rw [idv_eq, i32_wr]; exact (i32_tdiv hx hy).symm
theorem rg_idv (x y : Int) : rg (idv x y) := by rw [idv_eq]; exact rg_wr _
theorem i32_irm {x y : Int} (hx : rg x) (hy : rg y) : i32 x - i32 x / i32 y * i32 y = i32 (irm x y) := by
  rw [← i32_tdiv hx hy, irm_eq]
  have h : x.tmod y = x - x.tdiv y * y := by rw [Int.tmod_def, Int.mul_comm]
  rw [h]
  show _ = Int32.ofInt _
  rw [Int32.ofInt_sub, Int32.ofInt_mul]
theorem rg_irm {x y : Int} (hx : rg x) (hy : rg y) (h0 : y ≠ 0) : rg (irm x y) := by
  rw [irm_eq]
  have h := Int32.toInt_mod (i32 x) (i32 y)
  rw [i32_toInt hx, i32_toInt hy] at h
  rw [← h]
  exact rg_toInt _
theorem i32_iand (x y : Int) : i32 x &&& i32 y = i32 (iand x y) := by rw [iand_eq, i32_of]
theorem i32_ior (x y : Int) : i32 x ||| i32 y = i32 (ior x y) := by rw [ior_eq, i32_of]
theorem i32_ixor (x y : Int) : i32 x ^^^ i32 y = i32 (ixor x y) := by rw [ixor_eq, i32_of]
theorem i32_ishl (x y : Int) : i32 x <<< (i32 y &&& 31) = i32 (ishl x y) := by rw [ishl_eq, i32_of]
theorem i32_ishr (x y : Int) : i32 x >>> (i32 y &&& 31) = i32 (ishr x y) := by rw [ishr_eq, i32_of]
theorem i32_iushr (x y : Int) : ((i32 x).toUInt32 >>> ((i32 y).toUInt32 &&& Int32.toUInt32 31)).toInt32 = i32 (iushr x y) := by rw [iushr_eq, i32_of]
theorem rg_iand (x y : Int) : rg (iand x y) := by rw [iand_eq]; exact rg_toInt _
theorem rg_ior (x y : Int) : rg (ior x y) := by rw [ior_eq]; exact rg_toInt _
theorem rg_ixor (x y : Int) : rg (ixor x y) := by rw [ixor_eq]; exact rg_toInt _
theorem rg_ishl (x y : Int) : rg (ishl x y) := by rw [ishl_eq]; exact rg_toInt _
theorem rg_ishr (x y : Int) : rg (ishr x y) := by rw [ishr_eq]; exact rg_toInt _
theorem rg_iushr (x y : Int) : rg (iushr x y) := by rw [iushr_eq]; exact rg_toInt _
theorem i64_toInt {x : Int} (h : rg x) : (Int64.ofInt x).toInt = x := Int64.toInt_ofInt_of_le (by have := h.1; omega) (by have := h.2; omega)
theorem i32_long {x : Int} (h : rg x) : (i32 x).toInt64 = Int64.ofInt x :=
  Int32.toInt64_ofInt (by rw [i32_min]; exact h.1) (by rw [i32_max]; have := h.2; omega)
theorem rg_icp (x y : Int) : rg (icp x y) := by
  rw [icp_eq]
  unfold rg
  split
  · omega
  · split <;> omega
theorem i32_icp {x y : Int} (hx : rg x) (hy : rg y) : lg_cmp (Int64.ofInt x) (Int64.ofInt y) = i32 (icp x y) := by
  unfold lg_cmp
  rw [icp_eq]
  have e1 : (Int64.ofInt x > Int64.ofInt y) ↔ y < x := by
    show Int64.ofInt y < Int64.ofInt x ↔ _
    rw [Int64.lt_iff_toInt_lt, i64_toInt hx, i64_toInt hy]
  have e2 : (Int64.ofInt x = Int64.ofInt y) ↔ x = y := by
    rw [← Int64.toInt_inj, i64_toInt hx, i64_toInt hy]
  by_cases h1 : y < x
  · rw [if_pos (e1.mpr h1), if_neg (by omega), if_neg (by omega)]
    decide +kernel
  · rw [if_neg (fun h => h1 (e1.mp h))]
    by_cases h2 : x = y
    · rw [if_pos (e2.mpr h2), if_neg (by omega), if_pos h2]
      decide +kernel
    · rw [if_neg (fun h => h2 (e2.mp h)), if_pos (by omega)]
      decide +kernel
/-- an index in a row, for the machine -/
theorem i32_in {x : Int} {n : Nat} (h0 : 0 ≤ x) (h : x < n) (hr : rg x) : vp_in (i32 x) n := by
  rw [vp_in_iff, i32_toInt hr]
  exact ⟨h0, h⟩
theorem i32_clamp {x : Int} (hr : rg x) : (i32 x).toNatClampNeg = x.toNat := by
  show (i32 x).toInt.toNat = _
  rw [i32_toInt hr]
theorem i32_const {n : Int} (h : rg n) : rg n ∧ Int32.ofInt n = i32 n := ⟨h, rfl⟩
