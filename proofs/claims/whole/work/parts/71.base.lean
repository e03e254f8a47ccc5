/-! Numbers, memory, and the class's smallest methods, as plain values. -/
theorem wq {z : Int} (h1 : -2147483648 ≤ z) (h2 : z ≤ 2147483647) : wr z = z := by
  rw [wr_eq]
  omega
theorem idv_id {x y : Int} (hx : 0 ≤ x) (h2 : x ≤ 2147483647) (hy : 0 < y) : idv x y = x / y := by
  rw [idv_eq, Int.tdiv_eq_ediv_of_nonneg hx]
  have h := Int.ediv_le_self y hx
  have h3 := Int.ediv_nonneg hx (Int.le_of_lt hy)
  exact wq (by omega) (by omega)
theorem irm_id {x y : Int} (hx : 0 ≤ x) : irm x y = x % y := by
  rw [irm_eq, Int.tmod_eq_emod_of_nonneg hx]
theorem bnd_ok (v : Int) (s : St) (k : Int → St → Res) : bnd (some (0, v, s)) k = k v s := rfl
theorem bnd_ex (o : Nat) (ho : o ≠ 0) (v : Int) (s : St) (k : Int → St → Res) : bnd (some (o, v, s)) k = some (o, v, s) := by
  unfold bnd
  simp [ho]
theorem bnh_ok (v : Int) (s : St) (k : Int → St → Res) (h : Nat → St → Res) : bnh (some (0, v, s)) k h = k v s := rfl
theorem bnh_ex (o : Nat) (ho : o ≠ 0) (v : Int) (s : St) (k : Int → St → Res) (h : Nat → St → Res) : bnh (some (o, v, s)) k h = h o s := by
  unfold bnh
  simp [ho]
theorem bz_or (p : Prop) [Decidable p] : ((if p then (1 : Int) else 0) = 0 ∨ (if p then (1 : Int) else 0) = 1) = True := by
  by_cases h : p <;> simp [h]
theorem z01 : ((0 : Int) = 0 ∨ (0 : Int) = 1) = True := by simp
theorem o01 : ((1 : Int) = 0 ∨ (1 : Int) = 1) = True := by simp
theorem ecWithin (a b c : Int) (s : St) : FX11_isWithin a b c s = some (0, if b ≤ a ∧ a ≤ c then 1 else 0, s) := by
  simp only [FX11_isWithin, fX11_isWithin_0, fX11_isWithin_14, fX11_isWithin_15, z01, o01, if_true]
  grind
theorem ecMin (a b : Int) (s : St) : FJ9_min_7cf53 a b s = some (0, min a b, s) := by
  simp only [FJ9_min_7cf53, fJ9_min_7cf53_0, fJ9_min_7cf53_9, fJ9_min_7cf53_10]
  grind
theorem ecMax (a b : Int) (s : St) : FJ9_max_7cf53 a b s = some (0, max a b, s) := by
  simp only [FJ9_max_7cf53, fJ9_max_7cf53_0, fJ9_max_7cf53_9, fJ9_max_7cf53_10]
  grind
theorem ecAbs {a : Int} (h1 : -1000000 ≤ a) (h2 : a ≤ 1000000) (s : St) : FJ9_abs_0f7a4 a s = some (0, (if a < 0 then -a else a), s) := by
  simp only [FJ9_abs_0f7a4, fJ9_abs_0f7a4_0, fJ9_abs_0f7a4_9, fJ9_abs_0f7a4_10]
  rw [wq (by omega) (by omega)]
  grind
/-- a place of a row of societies -/
theorem ecAt {a0 a1 : Int} {s : St} (h0 : 0 ≤ gm s 4 a0 1) (h1 : gm s 4 a0 1 ≤ 10) : FX4_at a0 a1 s = some (0, if 0 ≤ a1 ∧ a1 < gm s 4 a0 1 then gm s 27 a0 a1 else -1, s) := by
  simp only [FX4_at, fX4_at_0, fX4_at_32, fX4_at_33, ecWithin, bnd_ok]
  rw [wq (by omega) (by omega)]
  grind
theorem ecPartAt {a0 a1 : Int} {s : St} (h0 : 0 ≤ gm s 1 a0 2) (h1 : gm s 1 a0 2 ≤ 60) : FX1_partAt a0 a1 s = some (0, if 0 ≤ a1 ∧ a1 < gm s 1 a0 2 then gm s 28 a0 a1 else -1, s) := by
  simp only [FX1_partAt, fX1_partAt_0, fX1_partAt_32, fX1_partAt_33, ecWithin, bnd_ok]
  rw [wq (by omega) (by omega)]
  grind
theorem ecWagonAt {a0 a1 : Int} {s : St} (h0 : 0 ≤ gm s 6 a0 10) (h1 : gm s 6 a0 10 ≤ 3) : FX6_wagonAt a0 a1 s = some (0, if 0 ≤ a1 ∧ a1 < gm s 6 a0 10 then gm s 15 a0 a1 else -1, s) := by
  simp only [FX6_wagonAt, fX6_wagonAt_0, fX6_wagonAt_32, fX6_wagonAt_33, ecWithin, bnd_ok]
  rw [wq (by omega) (by omega)]
  grind
theorem ecCornerAt {a0 a1 : Int} {s : St} (h0 : 0 ≤ gm s 3 a0 3) (h1 : gm s 3 a0 3 ≤ 10) : FX3_cornerAt a0 a1 s = some (0, if 0 ≤ a1 ∧ a1 < gm s 3 a0 3 then gm s 24 a0 a1 else -1, s) := by
  simp only [FX3_cornerAt, fX3_cornerAt_0, fX3_cornerAt_32, fX3_cornerAt_33, ecWithin, bnd_ok]
  rw [wq (by omega) (by omega)]
  grind
theorem ecStreetTo {a0 a1 : Int} {s : St} (h0 : 0 ≤ gm s 3 a0 3) (h1 : gm s 3 a0 3 ≤ 10) : FX3_streetTo a0 a1 s = some (0, if 1 ≤ a1 ∧ a1 < gm s 3 a0 3 then gm s 26 a0 a1 else -1, s) := by
  simp only [FX3_streetTo, fX3_streetTo_0, fX3_streetTo_32, fX3_streetTo_33, ecWithin, bnd_ok]
  rw [wq (by omega) (by omega)]
  grind
theorem ecSocietyAt (a0 a1 : Int) (s : St) : FX11_societyAt a0 a1 s = some (0, if 0 ≤ a1 ∧ a1 < 10 then gm s 13 a0 a1 else -1, s) := by
  simp only [FX11_societyAt, fX11_societyAt_0, fX11_societyAt_24, fX11_societyAt_25, ecWithin, bnd_ok]
  rw [wq (by omega) (by omega)]
  grind
theorem ecLeagueAt (a0 a1 : Int) (s : St) : FX11_leagueAt a0 a1 s = some (0, if 0 ≤ a1 ∧ a1 < 2 then gm s 14 a0 a1 else -1, s) := by
  simp only [FX11_leagueAt, fX11_leagueAt_0, fX11_leagueAt_24, fX11_leagueAt_25, ecWithin, bnd_ok]
  rw [wq (by omega) (by omega)]
  grind
theorem ecIsLeague (a : Int) (s : St) : FX11_isLeague a s = some (0, if 0 ≤ a ∧ a < 2 then 1 else 0, s) := by
  simp only [FX11_isLeague, fX11_isLeague_0, ecWithin, bnd_ok, bz_or, if_true]
  grind
theorem ecIsCorner (a : Int) (s : St) : FX11_isCorner a s = some (0, if 0 ≤ a ∧ a < 12 then 1 else 0, s) := by
  simp only [FX11_isCorner, fX11_isCorner_0, ecWithin, bnd_ok, bz_or, if_true]
  grind
theorem ecIsJudge (a : Int) (s : St) : FX11_isJudge a s = some (0, if 0 ≤ a ∧ a < 4 then 1 else 0, s) := by
  simp only [FX11_isJudge, fX11_isJudge_0, ecWithin, bnd_ok, bz_or, if_true]
  grind
theorem ecIsCategory (a : Int) (s : St) : FX11_isCategory a s = some (0, if 0 ≤ a ∧ a < 5 then 1 else 0, s) := by
  simp only [FX11_isCategory, fX11_isCategory_0, ecWithin, bnd_ok, bz_or, if_true]
  grind
theorem ecHasPenalty {a0 a1 : Int} {s : St} (h0 : 0 ≤ gm s 5 a0 4) (h1 : gm s 5 a0 4 ≤ 20) : FX5_hasPenalty a0 a1 s = some (0, if 0 ≤ a1 ∧ a1 < gm s 5 a0 4 then 1 else 0, s) := by
  simp only [FX5_hasPenalty, fX5_hasPenalty_0, fX5_hasPenalty_24, fX5_hasPenalty_25, ecWithin, bnd_ok, z01, o01, if_true]
  rw [wq (by omega) (by omega)]
  grind
theorem ecHasSong {a0 a1 : Int} {s : St} (h0 : 0 ≤ gm s 7 a0 2) (h1 : gm s 7 a0 2 ≤ 6) : FX7_has a0 a1 s = some (0, if 0 ≤ a1 ∧ a1 < gm s 7 a0 2 then 1 else 0, s) := by
  simp only [FX7_has, fX7_has_0, fX7_has_36, fX7_has_37, ecWithin, bnd_ok, z01, o01, if_true]
  rw [wq (by omega) (by omega)]
  grind
theorem ecGoesOn (a0 : Int) (s : St) : FX1_goesOn a0 s = some (0, if gm s 1 a0 6 ≠ 0 ∧ gm s 1 a0 7 = 0 then 1 else 0, s) := by
  simp only [FX1_goesOn, fX1_goesOn_0, fX1_goesOn_18, fX1_goesOn_19, z01, o01, if_true]
  grind
theorem ecStartAtPlace (a0 a1 : Int) (s : St) : FX3_startAtPlace a0 a1 s = some (0, if 0 ≤ a1 ∧ a1 < 10 then gm s 25 a0 a1 else 0, s) := by
  simp only [FX3_startAtPlace, fX3_startAtPlace_0, fX3_startAtPlace_24, fX3_startAtPlace_25, ecWithin, bnd_ok]
  rw [wq (by omega) (by omega)]
  grind
theorem ecCells {a0 : Int} {s : St} (h0 : 0 ≤ gm s 3 a0 3) (h1 : gm s 3 a0 3 ≤ 10) : FX3_cells a0 s = some (0, if 1 ≤ gm s 3 a0 3 then gm s 25 a0 (gm s 3 a0 3 - 1) else 0, s) := by
  simp only [FX3_cells, fX3_cells_0, ecStartAtPlace, bnd_ok]
  rw [wq (by omega) (by omega)]
  grind
theorem ecHasJury (a0 a1 : Int) (s : St) : FX9_hasJury a0 a1 s = some (0, if 0 ≤ a1 ∧ a1 < 12 ∧ gm s 23 a0 a1 ≠ 0 then 1 else 0, s) := by
  simp only [FX9_hasJury, fX9_hasJury_0, fX9_hasJury_28, fX9_hasJury_29, ecWithin, bnd_ok, z01, o01, if_true]
  rw [wq (by omega) (by omega)]
  grind
theorem ecIsHeld (a0 a1 : Int) (s : St) : FX1_isHeld a0 a1 s = some (0, if 0 ≤ a1 ∧ a1 < 12 ∧ 0 < gm s 29 a0 a1 then 1 else 0, s) := by
  simp only [FX1_isHeld, fX1_isHeld_0, fX1_isHeld_28, fX1_isHeld_29, ecWithin, bnd_ok, z01, o01, if_true]
  rw [wq (by omega) (by omega)]
  grind
theorem ecRouteFixed (a0 : Int) (s : St) : FX0_isRouteFixed a0 s = some (0, if gm s 1 a0 6 ≠ 0 ∨ 0 < gm s 4 (2 * a0) 1 then 1 else 0, s) := by
  simp only [FX0_isRouteFixed, fX0_isRouteFixed_0, fX0_isRouteFixed_20, fX0_isRouteFixed_24, fX0_isRouteFixed_25, z01, o01, if_true]
  grind
theorem ecHasEntrant (a0 a1 : Int) (s : St) (h : -1 ≤ a1) : FX0_hasEntrant a0 a1 s = some (0, if 0 ≤ a1 ∧ gm s 6 a1 5 = gm s 0 a0 0 ∧ gm s 6 a1 15 ≠ 0 then 1 else 0, s) := by
  simp only [FX0_hasEntrant, fX0_hasEntrant_0, fX0_hasEntrant_26, fX0_hasEntrant_27, z01, o01, if_true]
  grind
theorem ecOrderKey {a0 a1 a2 : Int} {s : St} (h : 0 ≤ a1) : FX0_orderKey a0 a1 a2 s = some (0, if gm s 6 a1 0 = a2 then -1 else if gm s 6 a1 0 = gm s 0 a0 5 then 100 else gm s 6 a1 11, s) := by
  simp only [FX0_orderKey, fX0_orderKey_0, fX0_orderKey_10, fX0_orderKey_26, fX0_orderKey_30, if_pos h]
  grind
theorem ecNoteBy {a0 a1 a2 : Int} {s : St} (h1 : 0 ≤ a1) (h2 : a1 < 4) (h3 : 0 ≤ a2) (h4 : a2 < 5) : FX5_noteBy a0 a1 a2 s = some (0, gm s 18 a0 (5 * a1 + a2), s) := by
  simp only [FX5_noteBy, fX5_noteBy_0, fX5_noteBy_28, fX5_noteBy_29]
  rw [wq (z := a1 * 5) (by omega) (by omega), wq (by omega) (by omega)]
  rw [show a1 * 5 + a2 = 5 * a1 + a2 by omega]
  grind
theorem ecNumberAt {a0 a1 : Int} {s : St} (h0 : 0 ≤ gm s 4 a0 1) (h1 : gm s 4 a0 1 ≤ 10) (h2 : 0 ≤ a1 → a1 < gm s 4 a0 1 → 0 ≤ gm s 27 a0 a1) : FX4_numberAt a0 a1 s = some (0, if 0 ≤ a1 ∧ a1 < gm s 4 a0 1 then gm s 6 (gm s 27 a0 a1) 0 else -1, s) := by
  simp only [FX4_numberAt, fX4_numberAt_0, fX4_numberAt_14, fX4_numberAt_18, ecAt h0 h1, bnd_ok]
  grind
theorem ecTail {a0 : Int} {s : St} (h1 : -1000000 ≤ gm s 2 a0 2) (h2 : gm s 2 a0 2 ≤ 1000000) (h3 : 0 ≤ gm s 2 a0 3) (h4 : gm s 2 a0 3 ≤ 1000000) : FX2_tail a0 s = some (0, gm s 2 a0 2 - gm s 2 a0 3 + 1, s) := by
  simp only [FX2_tail, fX2_tail_0]
  rw [wq (z := gm s 2 a0 3 - 1) (by omega) (by omega), wq (by omega) (by omega)]
  rw [show gm s 2 a0 2 - (gm s 2 a0 3 - 1) = gm s 2 a0 2 - gm s 2 a0 3 + 1 by omega]
theorem ecIsOut {a0 a1 : Int} {s : St} (h1 : -1000000 ≤ gm s 2 a0 2) (h2 : gm s 2 a0 2 ≤ 1000000) (h3 : 0 ≤ gm s 2 a0 3) (h4 : gm s 2 a0 3 ≤ 1000000) : FX2_isOut a0 a1 s = some (0, if a1 ≤ gm s 2 a0 2 - gm s 2 a0 3 + 1 then 1 else 0, s) := by
  simp only [FX2_isOut, fX2_isOut_0, fX2_isOut_12, fX2_isOut_13, ecTail h1 h2 h3 h4, bnd_ok, z01, o01, if_true]
  grind
theorem ecSpeed (a0 a1 : Int) (s : St) : FX2_speed a0 a1 s = some (0, if gm s 2 a0 1 = -1 ∧ a1 = 0 then 3 else 2, s) := by
  simp only [FX2_speed, fX2_speed_0, fX2_speed_16, fX2_speed_17]
  grind
theorem ecTime {a0 : Int} {s : St} (h1 : -1 ≤ gm s 6 a0 12) (h2 : gm s 6 a0 12 ≤ 1000000) (h3 : -1 ≤ gm s 6 a0 13) (h4 : gm s 6 a0 13 ≤ 1000000) : FX6_time a0 s = some (0, if gm s 6 a0 13 = -1 then -1 else gm s 6 a0 13 - gm s 6 a0 12 + 1, s) := by
  simp only [FX6_time, fX6_time_0, fX6_time_12, fX6_time_23]
  rw [wq (z := gm s 6 a0 13 - gm s 6 a0 12) (by omega) (by omega), wq (by omega) (by omega)]
  grind
theorem ecWing {a0 : Int} {s : St} (h1 : 0 ≤ gm s 6 a0 1) (h2 : gm s 6 a0 1 ≤ 1000000) : FX6_wingLength a0 s = some (0, min (gm s 6 a0 1 / 10 + 1) 9, s) := by
  simp only [FX6_wingLength, fX6_wingLength_0]
  rw [if_neg (by decide), idv_id h1 (by omega) (by decide), wq (by omega) (by omega)]
  simp only [ecMin, bnd_ok]
theorem ecPlaceBefore (a0 a1 a2 : Int) (s : St) : FX4_placeBefore a0 a1 a2 s = some (0, if a0 = a1 then a2 else if a0 = a2 then a1 else a0, s) := by
  simp only [FX4_placeBefore, fX4_placeBefore_0, fX4_placeBefore_7, fX4_placeBefore_16, fX4_placeBefore_17]
  grind
theorem ecIsFull (a0 : Int) (s : St) : FX5_isFull a0 s = some (0, if 20 ≤ gm s 5 a0 4 then 1 else 0, s) := by
  simp only [FX5_isFull, fX5_isFull_0, fX5_isFull_13, fX5_isFull_14, z01, o01, if_true]
  grind
theorem ecIsAppealed {a0 a1 : Int} {s : St} (h0 : 0 ≤ gm s 5 a0 4) (h1 : gm s 5 a0 4 ≤ 20) : FX5_isAppealed a0 a1 s = some (0, if (0 ≤ a1 ∧ a1 < gm s 5 a0 4) ∧ gm s 21 a0 a1 ≠ 0 then 1 else 0, s) := by
  simp only [FX5_isAppealed, fX5_isAppealed_0, fX5_isAppealed_21, fX5_isAppealed_22, ecHasPenalty h0 h1, bnd_ok, z01, o01, if_true]
  grind
theorem ecIsStruck {a0 a1 : Int} {s : St} (h0 : 0 ≤ gm s 7 a0 2) (h1 : gm s 7 a0 2 ≤ 6) : FX7_isStruck a0 a1 s = some (0, if (0 ≤ a1 ∧ a1 < gm s 7 a0 2) ∧ gm s 17 a0 a1 ≠ 0 then 1 else 0, s) := by
  simp only [FX7_isStruck, fX7_isStruck_0, fX7_isStruck_21, fX7_isStruck_22, ecHasSong h0 h1, bnd_ok, z01, o01, if_true]
  grind
theorem ecMayGrow (a0 : Int) (s : St) : FX7_mayGrow a0 s = some (0, if gm s 7 a0 2 < 6 ∧ gm s 7 a0 3 = 0 then 1 else 0, s) := by
  simp only [FX7_mayGrow, fX7_mayGrow_0, fX7_mayGrow_20, fX7_mayGrow_21, z01, o01, if_true]
  grind
theorem ecJoins (a0 a1 a2 : Int) (s : St) : FX8_joins a0 a1 a2 s = some (0, if (gm s 8 a0 0 = a1 ∧ gm s 8 a0 1 = a2) ∨ (gm s 8 a0 0 = a2 ∧ gm s 8 a0 1 = a1) then 1 else 0, s) := by
  simp only [FX8_joins, fX8_joins_0, fX8_joins_16, fX8_joins_32, fX8_joins_36, fX8_joins_37, z01, o01, if_true]
  grind
theorem ecTownFull (a0 : Int) (s : St) : FX9_isFull a0 s = some (0, if 16 ≤ gm s 9 a0 2 then 1 else 0, s) := by
  simp only [FX9_isFull, fX9_isFull_0, fX9_isFull_16, fX9_isFull_17, z01, o01, if_true]
  grind
theorem ecStreetLets {a0 a1 : Int} {s : St} (h1 : 0 ≤ a1) (h2 : 0 ≤ gm s 8 a0 3 ∧ gm s 8 a0 3 ≤ 100) (h3 : 0 ≤ gm s 8 a0 4 ∧ gm s 8 a0 4 ≤ 100) : FX8_lets a0 a1 s = some (0, if gm s 10 a1 0 ≤ gm s 8 a0 3 - 2 ∧ gm s 10 a1 1 ≤ gm s 8 a0 4 - 1 ∧ gm s 10 a1 2 ≤ gm s 8 a0 5 then 1 else 0, s) := by
  simp only [FX8_lets, fX8_lets_0, fX8_lets_41, fX8_lets_42, if_pos h1, z01, o01, if_true]
  rw [wq (by omega) (by omega), wq (by omega) (by omega)]
  grind
theorem ecHasMarched (a0 a1 : Int) (s : St) (h : 0 ≤ a1) (h1 : 0 ≤ gm s 6 a1 5 ∧ gm s 6 a1 5 < 2) (h2 : 0 ≤ gm s 14 a0 (gm s 6 a1 5)) : FX11_hasMarched a0 a1 s = some (0, if gm s 1 (gm s 14 a0 (gm s 6 a1 5)) 7 ≠ 0 ∧ gm s 6 a1 15 ≠ 0 then 1 else 0, s) := by
  simp only [FX11_hasMarched, fX11_hasMarched_0, fX11_hasMarched_34, fX11_hasMarched_35, ecLeagueAt, bnd_ok, z01, o01, if_true]
  grind
