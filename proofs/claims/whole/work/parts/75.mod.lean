/-! The reference's smallest methods, as plain values. -/
theorem emHolds (a0 a1 : Int) (s : St) : FX12_holds a0 a1 s = some (0, if a1 = 0 then 1 else 0, pm s 12 a0 0 a1) := by
  simp only [FX12_holds, fX12_holds_0, fX12_holds_13, fX12_holds_14, z01, o01, if_true]
  grind
theorem emIn (a b c : Int) (s : St) : FX12_in a b c s = some (0, if b ≤ a ∧ a ≤ c then 1 else 0, s) := by
  simp only [FX12_in, fX12_in_0, fX12_in_14, fX12_in_15, z01, o01, if_true]
  grind
theorem emThrown (a0 : Int) (s : St) : FX12_thrown a0 s = some (0, gm s 12 a0 0, s) := by
  simp only [FX12_thrown, fX12_thrown_0]
theorem emIsSociety {a0 a1 : Int} {s : St} (h0 : 0 ≤ gm s 12 a0 1) (h1 : gm s 12 a0 1 ≤ 10) : FX12_isSociety a0 a1 s = some (0, if 0 ≤ a1 ∧ a1 < gm s 12 a0 1 then 1 else 0, s) := by
  simp only [FX12_isSociety, fX12_isSociety_0, emIn, bnd_ok, bz_or, if_true]
  rw [wq (by omega) (by omega)]
  grind
theorem emIsCorner (a : Int) (s : St) : FX12_isCorner a s = some (0, if 0 ≤ a ∧ a < 12 then 1 else 0, s) := by
  simp only [FX12_isCorner, fX12_isCorner_0, emIn, bnd_ok, bz_or, if_true]
  grind
theorem emIsLeague (a : Int) (s : St) : FX12_isLeague a s = some (0, if 0 ≤ a ∧ a < 2 then 1 else 0, s) := by
  simp only [FX12_isLeague, fX12_isLeague_0, emIn, bnd_ok, bz_or, if_true]
  grind
theorem emHasMarched {a0 a1 : Int} {s : St} (h0 : 0 ≤ a1) (h1 : a1 < 10) (h2 : 0 ≤ gm s 102 a0 a1) (h3 : gm s 102 a0 a1 < 2) : FX12_hasMarched a0 a1 s = some (0, if gm s 124 a0 a1 ≠ 0 ∧ gm s 130 a0 (gm s 102 a0 a1) = 2 then 1 else 0, s) := by
  simp only [FX12_hasMarched, fX12_hasMarched_0, fX12_hasMarched_28, fX12_hasMarched_29, z01, o01, if_true]
  grind
theorem emAt {a0 a1 : Int} {s : St} (h0 : 0 ≤ a0) (h1 : a0 < 100) (h2 : 0 ≤ a1) (h3 : a1 < 100) : FX12_at a0 a1 s = some (0, 12 * a0 + 4 * a1, s) := by
  simp only [FX12_at, fX12_at_0]
  rw [wq (z := 12 * a0) (by omega) (by omega), wq (z := 4 * a1) (by omega) (by omega), wq (by omega) (by omega)]
theorem emTimeOf {a0 a1 : Int} {s : St} (h0 : 0 ≤ a1) (h1 : a1 < 10) (h2 : -1 ≤ gm s 143 a0 a1) (h3 : gm s 143 a0 a1 ≤ 1000000) (h4 : -1 ≤ gm s 144 a0 a1) (h5 : gm s 144 a0 a1 ≤ 1000000) : FX12_timeOf a0 a1 s = some (0, if gm s 144 a0 a1 = -1 then -1 else gm s 144 a0 a1 - gm s 143 a0 a1 + 1, s) := by
  simp only [FX12_timeOf, fX12_timeOf_0, fX12_timeOf_14, fX12_timeOf_29]
  rw [wq (z := gm s 144 a0 a1 - gm s 143 a0 a1) (by omega) (by omega), wq (by omega) (by omega)]
  grind
theorem emTailOf {a0 a1 : Int} {s : St} (h0 : 0 ≤ a1) (h1 : a1 < 120) (h2 : -1000000 ≤ gm s 138 a0 a1) (h3 : gm s 138 a0 a1 ≤ 1000000) (h4 : 0 ≤ gm s 137 a0 a1) (h5 : gm s 137 a0 a1 ≤ 1000000) : FX12_tailOf a0 a1 s = some (0, gm s 138 a0 a1 - gm s 137 a0 a1 + 1, s) := by
  simp only [FX12_tailOf, fX12_tailOf_0]
  rw [wq (z := gm s 138 a0 a1 - gm s 137 a0 a1) (by omega) (by omega), wq (by omega) (by omega)]
  grind
theorem emIsFloat {a0 a1 a2 : Int} {s : St} (h0 : 0 ≤ gm s 12 a0 1) (h1 : gm s 12 a0 1 ≤ 10) (h2 : 0 ≤ a1 → a1 < gm s 12 a0 1 → 0 ≤ gm s 112 a0 a1 ∧ gm s 112 a0 a1 ≤ 3) : FX12_isFloat a0 a1 a2 s = some (0, if (0 ≤ a1 ∧ a1 < gm s 12 a0 1) ∧ 0 ≤ a2 ∧ a2 < gm s 112 a0 a1 then 1 else 0, s) := by
  simp only [FX12_isFloat, fX12_isFloat_0, fX12_isFloat_28, fX12_isFloat_29, emIsSociety h0 h1, emIn, bnd_ok, bz_or, z01, o01, if_true]
  by_cases h : 0 ≤ a1 ∧ a1 < gm s 12 a0 1
  · obtain ⟨h3, h4⟩ := h2 h.1 h.2
    rw [wq (by omega) (by omega)]
    grind
  · grind
theorem emIsPenalty {a0 a1 a2 : Int} {s : St} (h0 : 0 ≤ gm s 12 a0 1) (h1 : gm s 12 a0 1 ≤ 10) (h2 : 0 ≤ a1 → a1 < gm s 12 a0 1 → 0 ≤ gm s 147 a0 a1 ∧ gm s 147 a0 a1 ≤ 20) : FX12_isPenalty a0 a1 a2 s = some (0, if (0 ≤ a1 ∧ a1 < gm s 12 a0 1) ∧ 0 ≤ a2 ∧ a2 < gm s 147 a0 a1 then 1 else 0, s) := by
  simp only [FX12_isPenalty, fX12_isPenalty_0, fX12_isPenalty_28, fX12_isPenalty_29, emIsSociety h0 h1, emIn, bnd_ok, bz_or, z01, o01, if_true]
  by_cases h : 0 ≤ a1 ∧ a1 < gm s 12 a0 1
  · obtain ⟨h3, h4⟩ := h2 h.1 h.2
    rw [wq (by omega) (by omega)]
    grind
  · grind
theorem emIsBound {a0 a1 : Int} {s : St} (h0 : 0 ≤ a1) (h1 : a1 < 2) : FX12_isBound a0 a1 s = some (0, if 0 < gm s 130 a0 a1 ∨ 0 < gm s 126 a0 a1 then 1 else 0, s) := by
  simp only [FX12_isBound, fX12_isBound_0, fX12_isBound_18, fX12_isBound_22, fX12_isBound_23, z01, o01, if_true]
  grind
theorem emIsStruck {a0 a1 a2 : Int} {s : St} (h0 : 0 ≤ a1) (h1 : a1 < 10) (h2 : 0 ≤ gm s 109 a0 a1) (h3 : gm s 109 a0 a1 < 64) (h4 : 0 ≤ a2) (h5 : a2 < 6) : FX12_isStruck a0 a1 a2 s = some (0, if bit (gm s 109 a0 a1) a2 = 1 then 1 else 0, s) := by
  simp only [FX12_isStruck, fX12_isStruck_0, fX12_isStruck_18, fX12_isStruck_19, z01, o01, if_true]
  rw [ibit h2 (by omega) h4 (by omega)]
  grind
theorem emBits_lp {v : Int} (n : Nat) (a : Int) (s : St) (h0 : 0 ≤ v) (h1 : v < 4096) (hn : pc v < n) (ha : 0 ≤ a) (ha2 : a + pc v ≤ 1000) : fX12_bits_4 (kX12_bits n) a v s = some (0, a + pc v, s) := by
  induction n generalizing v a with
  | zero => have := pc_le v; omega
  | succ n ih =>
    simp only [fX12_bits_4, fX12_bits_20]
    by_cases hv : 0 < v
    · obtain ⟨k1, k2, k3⟩ := pc_ker hv h1
      have hp := pc_le v
      rw [if_pos hv, wq (z := v - 1) (by omega) (by omega), wq (z := a + 1) (by omega) (by omega), uX12_bits_4, ih (a + 1) k1 k2 (by omega) (by omega) (by omega), k3]
      rw [show a + 1 + (pc v - 1) = a + pc v by omega]
    · have : v = 0 := by omega
      subst this
      rw [if_neg hv, pc_0, Int.add_zero]
theorem emBits {v : Int} (s : St) (h0 : 0 ≤ v) (h1 : v < 4096) : FX12_bits v s = some (0, pc v, s) := by
  simp only [FX12_bits, fX12_bits_0]
  rw [emBits_lp 9999 0 s h0 h1 (by have := pc_le v; omega) (by omega) (by have := pc_le v; omega)]
  simp
theorem emLeftSongs {a0 a1 : Int} {s : St} (h0 : 0 ≤ a1) (h1 : a1 < 10) (h2 : 0 ≤ gm s 109 a0 a1) (h3 : gm s 109 a0 a1 < 64) (h4 : 0 ≤ gm s 108 a0 a1) (h5 : gm s 108 a0 a1 ≤ 6) : FX12_leftSongs a0 a1 s = some (0, gm s 108 a0 a1 - pc (gm s 109 a0 a1), s) := by
  have hp := pc_le (gm s 109 a0 a1)
  simp only [FX12_leftSongs, fX12_leftSongs_0, emBits s h2 (show gm s 109 a0 a1 < 4096 by omega), bnd_ok]
  rw [wq (by omega) (by omega)]
  grind
