/-! Bits of small numbers. -/
def bit (v : Int) (j : Int) : Int := v / 2 ^ j.toNat % 2
def pc (v : Int) : Int := bit v 0 + bit v 1 + bit v 2 + bit v 3 + bit v 4 + bit v 5 + bit v 6 + bit v 7 + bit v 8 + bit v 9 + bit v 10 + bit v 11
theorem all_lt {p : Nat → Bool} {n : Nat} (h : (List.range n).all p = true) {v : Int} (h0 : 0 ≤ v) (h1 : v < n) : p v.toNat = true := List.all_eq_true.mp h v.toNat (List.mem_range.mpr (by omega))
theorem all_lt2 {p : Nat → Nat → Bool} {n m : Nat} (h : (List.range n).all (fun a => (List.range m).all (fun b => p a b)) = true) {v w : Int} (h0 : 0 ≤ v) (h1 : v < n) (h2 : 0 ≤ w) (h3 : w < m) : p v.toNat w.toNat = true :=
  List.all_eq_true.mp (List.all_eq_true.mp h v.toNat (List.mem_range.mpr (by omega))) w.toNat (List.mem_range.mpr (by omega))
def iandN (a b : Int) : Int := (Int32.ofInt a &&& Int32.ofInt b).toInt
def iorN (a b : Int) : Int := (Int32.ofInt a ||| Int32.ofInt b).toInt
def ixorN (a b : Int) : Int := (Int32.ofInt a ^^^ Int32.ofInt b).toInt
def ishlN (x y : Int) : Int := (Int32.ofInt x <<< (Int32.ofInt y &&& 31)).toInt
def ishrN (x y : Int) : Int := (Int32.ofInt x >>> (Int32.ofInt y &&& 31)).toInt
def iushrN (x y : Int) : Int := ((Int32.ofInt x).toUInt32 >>> ((Int32.ofInt y).toUInt32 &&& Int32.toUInt32 31)).toInt32.toInt
def wrN (z : Int) : Int := (z + 2147483648) % 4294967296 - 2147483648
def kerB : Bool := (List.range 4096).all fun n => n == 0 || (decide (0 ≤ iandN (n : Int) ((n : Int) - 1)) && decide (iandN (n : Int) ((n : Int) - 1) < 4096) && decide (pc (iandN (n : Int) ((n : Int) - 1)) = pc (n : Int) - 1))
theorem kerB_t : kerB = true := by decide +kernel
theorem pc_ker {v : Int} (h0 : 0 < v) (h1 : v < 4096) : 0 ≤ iand v (v - 1) ∧ iand v (v - 1) < 4096 ∧ pc (iand v (v - 1)) = pc v - 1 := by
  have h := all_lt kerB_t (v := v) (by omega) (by omega)
  have e : ((v.toNat : Nat) : Int) = v := by omega
  have e0 : (v.toNat == 0) = false := by
    simp
    omega
  simp only [e, e0, Bool.false_or, Bool.and_eq_true, decide_eq_true_eq] at h
  rw [iand_eq]
  exact ⟨h.1.1, h.1.2, h.2⟩
theorem pc_0 : pc 0 = 0 := by decide
theorem bit_01 (v j : Int) : bit v j = 0 ∨ bit v j = 1 := by
  unfold bit
  omega
theorem pc_le (v : Int) : 0 ≤ pc v ∧ pc v ≤ 12 := by
  unfold pc
  have h := fun j => bit_01 v j
  have a0 := h 0; have a1 := h 1; have a2 := h 2; have a3 := h 3; have a4 := h 4; have a5 := h 5; have a6 := h 6; have a7 := h 7; have a8 := h 8; have a9 := h 9; have b0 := h 10; have b1 := h 11
  omega
theorem pc_pos {v : Int} (h0 : 0 < v) (h1 : v < 4096) : 0 < pc v := by
  have h := pc_ker h0 h1
  have h2 := pc_le (iand v (v - 1))
  omega
def cntN (a0 : Int) : Int :=
  let p := wrN (a0 - iandN (iushrN a0 1) 1431655765)
  let q := wrN (iandN p 858993459 + iandN (iushrN p 2) 858993459)
  let r := iandN (wrN (q + iushrN q 4)) 252645135
  let u := wrN (r + iushrN r 8)
  iandN (wrN (u + iushrN u 16)) 63
def cntB : Bool := (List.range 4096).all fun n => decide (cntN (n : Int) = pc (n : Int))
theorem cntB_t : cntB = true := by decide +kernel
theorem ecBitCount {v : Int} (h0 : 0 ≤ v) (h1 : v < 4096) (s : St) : FJ6_bitCount_0f7a4 v s = some (0, pc v, s) := by
  have h := all_lt cntB_t (v := v) h0 (by omega)
  have e : ((v.toNat : Nat) : Int) = v := by omega
  simp only [e, decide_eq_true_eq] at h
  rw [← h]
  simp only [FJ6_bitCount_0f7a4, fJ6_bitCount_0f7a4_0, iand_eq, iushr_eq, wr_eq]
  rfl
/-- and of small numbers is small -/
theorem iand_le {a b : Int} (h0 : 0 ≤ a) (h1 : a < 4096) : 0 ≤ iand a b ∧ iand a b < 4096 := by
  rw [iand_eq]
  have hx : (Int32.ofInt a &&& Int32.ofInt b).toInt = (BitVec.ofInt 32 a &&& BitVec.ofInt 32 b).toInt := rfl
  have ha : (BitVec.ofInt 32 a).toNat < 4096 := by
    rw [BitVec.toNat_ofInt]
    omega
  have hn : (BitVec.ofInt 32 a &&& BitVec.ofInt 32 b).toNat < 4096 := by
    rw [BitVec.toNat_and]
    exact Nat.lt_of_le_of_lt Nat.and_le_left ha
  rw [hx, BitVec.toInt_eq_toNat_of_lt (by omega)]
  omega
def shB : Bool := (List.range 1024).all fun n => (List.range 10).all fun j => decide (iandN (ishrN (n : Int) (j : Int)) 1 = bit (n : Int) (j : Int))
theorem shB_t : shB = true := by decide +kernel
theorem ibit {v j : Int} (h0 : 0 ≤ v) (h1 : v < 1024) (h2 : 0 ≤ j) (h3 : j < 10) : iand (ishr v j) 1 = bit v j := by
  have h := all_lt2 shB_t (v := v) (w := j) h0 (by omega) h2 (by omega)
  have e : ((v.toNat : Nat) : Int) = v := by omega
  have e2 : ((j.toNat : Nat) : Int) = j := by omega
  simp only [e, e2, decide_eq_true_eq] at h
  rw [iand_eq, ishr_eq]
  exact h
def orB : Bool := (List.range 1024).all fun n => (List.range 10).all fun j => decide (0 ≤ iorN (n : Int) (ishlN 1 (j : Int)) ∧ iorN (n : Int) (ishlN 1 (j : Int)) < 1024) &&
  (List.range 10).all fun k => decide (bit (iorN (n : Int) (ishlN 1 (j : Int))) (k : Int) = if k = j then 1 else bit (n : Int) (k : Int))
theorem orB_t : orB = true := by decide +kernel
theorem ior_bit {v j : Int} (h0 : 0 ≤ v) (h1 : v < 1024) (h2 : 0 ≤ j) (h3 : j < 10) : (0 ≤ ior v (ishl 1 j) ∧ ior v (ishl 1 j) < 1024) ∧ ∀ k, 0 ≤ k → k < 10 → bit (ior v (ishl 1 j)) k = if k = j then 1 else bit v k := by
  have h := all_lt2 orB_t (v := v) (w := j) h0 (by omega) h2 (by omega)
  have e : ((v.toNat : Nat) : Int) = v := by omega
  have e2 : ((j.toNat : Nat) : Int) = j := by omega
  simp only [e, e2, Bool.and_eq_true, decide_eq_true_eq] at h
  rw [ior_eq, ishl_eq]
  refine ⟨h.1, fun k k0 k1 => ?_⟩
  have h9 := List.all_eq_true.mp h.2 k.toNat (List.mem_range.mpr (by omega))
  have e3 : ((k.toNat : Nat) : Int) = k := by omega
  simp only [e3, decide_eq_true_eq] at h9
  refine h9.trans ?_
  by_cases c : k = j
  · rw [if_pos c, if_pos (by omega)]
  · rw [if_neg c, if_neg (by omega)]
def anB : Bool := (List.range 1024).all fun n => (List.range 10).all fun j => decide (0 ≤ iandN (n : Int) (ixorN (ishlN 1 (j : Int)) (-1)) ∧ iandN (n : Int) (ixorN (ishlN 1 (j : Int)) (-1)) < 1024) &&
  (List.range 10).all fun k => decide (bit (iandN (n : Int) (ixorN (ishlN 1 (j : Int)) (-1))) (k : Int) = if k = j then 0 else bit (n : Int) (k : Int))
theorem anB_t : anB = true := by decide +kernel
theorem ian_bit {v j : Int} (h0 : 0 ≤ v) (h1 : v < 1024) (h2 : 0 ≤ j) (h3 : j < 10) : (0 ≤ iand v (ixor (ishl 1 j) (-1)) ∧ iand v (ixor (ishl 1 j) (-1)) < 1024) ∧ ∀ k, 0 ≤ k → k < 10 → bit (iand v (ixor (ishl 1 j) (-1))) k = if k = j then 0 else bit v k := by
  have h := all_lt2 anB_t (v := v) (w := j) h0 (by omega) h2 (by omega)
  have e : ((v.toNat : Nat) : Int) = v := by omega
  have e2 : ((j.toNat : Nat) : Int) = j := by omega
  simp only [e, e2, Bool.and_eq_true, decide_eq_true_eq] at h
  rw [iand_eq, ixor_eq, ishl_eq]
  refine ⟨h.1, fun k k0 k1 => ?_⟩
  have h9 := List.all_eq_true.mp h.2 k.toNat (List.mem_range.mpr (by omega))
  have e3 : ((k.toNat : Nat) : Int) = k := by omega
  simp only [e3, decide_eq_true_eq] at h9
  refine h9.trans ?_
  by_cases c : k = j
  · rw [if_pos c, if_pos (by omega)]
  · rw [if_neg c, if_neg (by omega)]
