theorem oiC : Cond.code Lib.objectInit ⟨#[0xb1]⟩ 1 none ∈ TW := wat_mem (i := 98) (by decide +kernel)
theorem oiI : Cond.instanceMethod Lib.objectInit ∈ TW := wat_mem (i := 97) (by decide +kernel)
theorem len_1 {xs : List Int} (h : xs.length = 1) : ∃ x1, xs = [x1] := by
  match xs, h with
  | [x1], _ => exact ⟨x1, rfl⟩
theorem len_3 {xs : List Int} (h : xs.length = 3) : ∃ x1 x2 x3, xs = [x1, x2, x3] := by
  match xs, h with
  | [x1, x2, x3], _ => exact ⟨x1, x2, x3, rfl⟩
theorem len_4 {xs : List Int} (h : xs.length = 4) : ∃ x1 x2 x3 x4, xs = [x1, x2, x3, x4] := by
  match xs, h with
  | [x1, x2, x3, x4], _ => exact ⟨x1, x2, x3, x4, rfl⟩
theorem len_6 {xs : List Int} (h : xs.length = 6) : ∃ x1 x2 x3 x4 x5 x6, xs = [x1, x2, x3, x4, x5, x6] := by
  match xs, h with
  | [x1, x2, x3, x4, x5, x6], _ => exact ⟨x1, x2, x3, x4, x5, x6, rfl⟩
theorem dX2_init_0 : decode cX2_init 0 = .ok (.aload_n 0, 1) := by decide +kernel
theorem dX2_init_1 : decode cX2_init 1 = .ok (.invokespecial 3, 3) := by decide +kernel
theorem dX2_init_4 : decode cX2_init 4 = .ok (.return_, 1) := by decide +kernel
def trX2_init : Wd → Nat → List Int → Tr := fun w sz xs => ((dfs 2), [])
set_option maxRecDepth 100000 in
theorem ctX2_init : CT 2 yX2_init cX2_init 1 0 1 12 0 [] trX2_init := by
  refine ct_of (own := "Floatparade$Part") (by decide) rfl rfl ?_
  intro l w sz a xs hxs p e s m below meth c hk hr hlk hao hI
  obtain rfl := List.length_eq_zero_iff.mp hxs
  have hl := lv_entry [Value.ref a] (n := 1) (Nat.le_of_ble_eq_true rfl)
  rw [lg_entry_eq]
  generalize hls : (lg_sl (Value.ref a :: List.map (fun v => Value.int (i32 v)) []) ++ List.replicate (1 - (lg_sl (Value.ref a :: List.map (fun v => Value.int (i32 v)) [])).length) Slot.unset).toArray = ls
  have hl : lv_has ls 1 [(0, .ref a)] := by rw [← hls]; exact hl
  obtain ⟨hx, hb, hml, hown, hkw, hin⟩ := id hk
  have hT := hkw.2.1
  refine lv_aload_n hx hb dX2_init_0 rfl (lv_at hl 0 rfl) ?_
  refine W.eq (g2 := F0 m 1 ls [.ref a]) rfl ?_
  refine W.objInit hx hb hown (hT.at (wat_mem (i := 940) (by decide +kernel)) _) (hT.at oiI _) (hT.at oiC _) rfl (hl.1.trans hml.symm) rfl dX2_init_1 (Nat.le_of_ble_eq_true rfl) (Nat.le_of_ble_eq_true rfl) ?_
  refine W.eq (g2 := F0 m 4 ls []) rfl ?_
  exact ct_end (T := trX2_init w sz []) hk hr hlk hI dX2_init_4 (Nat.le_of_ble_eq_true rfl) (Nat.le_of_ble_eq_true rfl)
theorem dX10_init_0 : decode cX10_init 0 = .ok (.aload_n 0, 1) := by decide +kernel
theorem dX10_init_1 : decode cX10_init 1 = .ok (.invokespecial 1, 3) := by decide +kernel
theorem dX10_init_4 : decode cX10_init 4 = .ok (.aload_n 0, 1) := by decide +kernel
theorem dX10_init_5 : decode cX10_init 5 = .ok (.iload_n 1, 1) := by decide +kernel
theorem dX10_init_6 : decode cX10_init 6 = .ok (.putfield 7, 3) := by decide +kernel
theorem dX10_init_9 : decode cX10_init 9 = .ok (.aload_n 0, 1) := by decide +kernel
theorem dX10_init_10 : decode cX10_init 10 = .ok (.iload_n 2, 1) := by decide +kernel
theorem dX10_init_11 : decode cX10_init 11 = .ok (.putfield 13, 3) := by decide +kernel
theorem dX10_init_14 : decode cX10_init 14 = .ok (.aload_n 0, 1) := by decide +kernel
theorem dX10_init_15 : decode cX10_init 15 = .ok (.iload_n 3, 1) := by decide +kernel
theorem dX10_init_16 : decode cX10_init 16 = .ok (.putfield 16, 3) := by decide +kernel
theorem dX10_init_19 : decode cX10_init 19 = .ok (.aload_n 0, 1) := by decide +kernel
theorem dX10_init_20 : decode cX10_init 20 = .ok (.iload 4, 2) := by decide +kernel
theorem dX10_init_22 : decode cX10_init 22 = .ok (.putfield 19, 3) := by decide +kernel
theorem dX10_init_25 : decode cX10_init 25 = .ok (.return_, 1) := by decide +kernel
def trX10_init : Wd → Nat → List Int → Tr := fun w sz xs => ((((((dfs 10).set 0 (.int (i32 (xs.getD 0 0)))).set 1 (.int (i32 (xs.getD 1 0)))).set 2 (.int (i32 (xs.getD 2 0)))).set 3 (.int (i32 (xs.getD 3 0)))), [])
set_option maxRecDepth 100000 in
theorem ctX10_init : CT 10 yX10_init cX10_init 5 4 1 12 0 [] trX10_init := by
  refine ct_of (own := "Floatparade$Wagon") (by decide) rfl rfl ?_
  intro l w sz a xs hxs p e s m below meth c hk hr hlk hao hI
  obtain ⟨x1, x2, x3, x4, rfl⟩ := len_4 hxs
  have hl := lv_entry [Value.ref a, .int (i32 x1), .int (i32 x2), .int (i32 x3), .int (i32 x4)] (n := 5) (Nat.le_of_ble_eq_true rfl)
  rw [lg_entry_eq]
  generalize hls : (lg_sl (Value.ref a :: List.map (fun v => Value.int (i32 v)) [x1, x2, x3, x4]) ++ List.replicate (5 - (lg_sl (Value.ref a :: List.map (fun v => Value.int (i32 v)) [x1, x2, x3, x4])).length) Slot.unset).toArray = ls
  have hl : lv_has ls 5 [(0, .ref a), (1, .int (i32 x1)), (2, .int (i32 x2)), (3, .int (i32 x3)), (4, .int (i32 x4))] := by rw [← hls]; exact hl
  obtain ⟨hx, hb, hml, hown, hkw, hin⟩ := id hk
  have hT := hkw.2.1
  refine lv_aload_n hx hb dX10_init_0 rfl (lv_at hl 0 rfl) ?_
  refine W.eq (g2 := F0 m 1 ls [.ref a]) rfl ?_
  refine W.objInit hx hb hown (hT.at (wat_mem (i := 744) (by decide +kernel)) _) (hT.at oiI _) (hT.at oiC _) rfl (hl.1.trans hml.symm) rfl dX10_init_1 (Nat.le_of_ble_eq_true rfl) (Nat.le_of_ble_eq_true rfl) ?_
  refine W.eq (g2 := F0 m 4 ls []) rfl ?_
  refine lv_aload_n hx hb dX10_init_4 rfl (lv_at hl 0 rfl) ?_
  refine W.eq (g2 := F0 m 5 ls [.ref a]) rfl ?_
  refine lv_iload_n hx hb dX10_init_5 rfl (lv_at hl 1 rfl) ?_
  refine W.eq (g2 := F0 m 6 ls [.int (i32 x1), .ref a]) rfl ?_
  refine ct_put (j := 0) hk hI dX10_init_6 (by decide) (by decide) (wat_mem (i := 745) (by decide +kernel)) (cl_ty (q := 10) (by decide) 0 (by decide)) (narrow_i _).1 (narrow_i _).2 (Nat.le_of_ble_eq_true rfl) rfl fun H locs hI => ?_
  have hI : CI w s a sz 10 ((dfs 10).set 0 (.int (i32 x1))) [] H locs := hI
  refine W.eq (g2 := F0 m 9 ls []) rfl ?_
  refine lv_aload_n hx hb dX10_init_9 rfl (lv_at hl 0 rfl) ?_
  refine W.eq (g2 := F0 m 10 ls [.ref a]) rfl ?_
  refine lv_iload_n hx hb dX10_init_10 rfl (lv_at hl 2 rfl) ?_
  refine W.eq (g2 := F0 m 11 ls [.int (i32 x2), .ref a]) rfl ?_
  refine ct_put (j := 1) hk hI dX10_init_11 (by decide) (by decide) (wat_mem (i := 748) (by decide +kernel)) (cl_ty (q := 10) (by decide) 1 (by decide)) (narrow_i _).1 (narrow_i _).2 (Nat.le_of_ble_eq_true rfl) rfl fun H locs hI => ?_
  have hI : CI w s a sz 10 (((dfs 10).set 0 (.int (i32 x1))).set 1 (.int (i32 x2))) [] H locs := hI
  refine W.eq (g2 := F0 m 14 ls []) rfl ?_
  refine lv_aload_n hx hb dX10_init_14 rfl (lv_at hl 0 rfl) ?_
  refine W.eq (g2 := F0 m 15 ls [.ref a]) rfl ?_
  refine lv_iload_n hx hb dX10_init_15 rfl (lv_at hl 3 rfl) ?_
  refine W.eq (g2 := F0 m 16 ls [.int (i32 x3), .ref a]) rfl ?_
  refine ct_put (j := 2) hk hI dX10_init_16 (by decide) (by decide) (wat_mem (i := 751) (by decide +kernel)) (cl_ty (q := 10) (by decide) 2 (by decide)) (narrow_i _).1 (narrow_i _).2 (Nat.le_of_ble_eq_true rfl) rfl fun H locs hI => ?_
  have hI : CI w s a sz 10 ((((dfs 10).set 0 (.int (i32 x1))).set 1 (.int (i32 x2))).set 2 (.int (i32 x3))) [] H locs := hI
  refine W.eq (g2 := F0 m 19 ls []) rfl ?_
  refine lv_aload_n hx hb dX10_init_19 rfl (lv_at hl 0 rfl) ?_
  refine W.eq (g2 := F0 m 20 ls [.ref a]) rfl ?_
  refine lv_iload hx hb dX10_init_20 (lv_at hl 4 rfl) ?_
  refine W.eq (g2 := F0 m 22 ls [.int (i32 x4), .ref a]) rfl ?_
  refine ct_put (j := 3) hk hI dX10_init_22 (by decide) (by decide) (wat_mem (i := 754) (by decide +kernel)) (cl_ty (q := 10) (by decide) 3 (by decide)) (narrow_i _).1 (narrow_i _).2 (Nat.le_of_ble_eq_true rfl) rfl fun H locs hI => ?_
  have hI : CI w s a sz 10 (((((dfs 10).set 0 (.int (i32 x1))).set 1 (.int (i32 x2))).set 2 (.int (i32 x3))).set 3 (.int (i32 x4))) [] H locs := hI
  refine W.eq (g2 := F0 m 25 ls []) rfl ?_
  exact ct_end (T := trX10_init w sz [x1, x2, x3, x4]) hk hr hlk hI dX10_init_25 (Nat.le_of_ble_eq_true rfl) (Nat.le_of_ble_eq_true rfl)
theorem dX8_init_0 : decode cX8_init 0 = .ok (.aload_n 0, 1) := by decide +kernel
theorem dX8_init_1 : decode cX8_init 1 = .ok (.invokespecial 1, 3) := by decide +kernel
theorem dX8_init_4 : decode cX8_init 4 = .ok (.aload_n 0, 1) := by decide +kernel
theorem dX8_init_5 : decode cX8_init 5 = .ok (.iload_n 1, 1) := by decide +kernel
theorem dX8_init_6 : decode cX8_init 6 = .ok (.putfield 7, 3) := by decide +kernel
theorem dX8_init_9 : decode cX8_init 9 = .ok (.aload_n 0, 1) := by decide +kernel
theorem dX8_init_10 : decode cX8_init 10 = .ok (.iload_n 2, 1) := by decide +kernel
theorem dX8_init_11 : decode cX8_init 11 = .ok (.putfield 13, 3) := by decide +kernel
theorem dX8_init_14 : decode cX8_init 14 = .ok (.aload_n 0, 1) := by decide +kernel
theorem dX8_init_15 : decode cX8_init 15 = .ok (.iload_n 3, 1) := by decide +kernel
theorem dX8_init_16 : decode cX8_init 16 = .ok (.putfield 16, 3) := by decide +kernel
theorem dX8_init_19 : decode cX8_init 19 = .ok (.aload_n 0, 1) := by decide +kernel
theorem dX8_init_20 : decode cX8_init 20 = .ok (.iload 4, 2) := by decide +kernel
theorem dX8_init_22 : decode cX8_init 22 = .ok (.putfield 19, 3) := by decide +kernel
theorem dX8_init_25 : decode cX8_init 25 = .ok (.aload_n 0, 1) := by decide +kernel
theorem dX8_init_26 : decode cX8_init 26 = .ok (.iload 5, 2) := by decide +kernel
theorem dX8_init_28 : decode cX8_init 28 = .ok (.putfield 22, 3) := by decide +kernel
theorem dX8_init_31 : decode cX8_init 31 = .ok (.aload_n 0, 1) := by decide +kernel
theorem dX8_init_32 : decode cX8_init 32 = .ok (.iload 6, 2) := by decide +kernel
theorem dX8_init_34 : decode cX8_init 34 = .ok (.putfield 25, 3) := by decide +kernel
theorem dX8_init_37 : decode cX8_init 37 = .ok (.return_, 1) := by decide +kernel
def trX8_init : Wd → Nat → List Int → Tr := fun w sz xs => ((((((((dfs 8).set 0 (.int (i32 (xs.getD 0 0)))).set 1 (.int (i32 (xs.getD 1 0)))).set 2 (.int (i32 (xs.getD 2 0)))).set 3 (.int (i32 (xs.getD 3 0)))).set 4 (.int (i32 (xs.getD 4 0)))).set 5 (.int (i32 (xs.getD 5 0)))), [])
set_option maxRecDepth 100000 in
theorem ctX8_init : CT 8 yX8_init cX8_init 7 6 1 12 0 [] trX8_init := by
  refine ct_of (own := "Floatparade$Street") (by decide) rfl rfl ?_
  intro l w sz a xs hxs p e s m below meth c hk hr hlk hao hI
  obtain ⟨x1, x2, x3, x4, x5, x6, rfl⟩ := len_6 hxs
  have hl := lv_entry [Value.ref a, .int (i32 x1), .int (i32 x2), .int (i32 x3), .int (i32 x4), .int (i32 x5), .int (i32 x6)] (n := 7) (Nat.le_of_ble_eq_true rfl)
  rw [lg_entry_eq]
  generalize hls : (lg_sl (Value.ref a :: List.map (fun v => Value.int (i32 v)) [x1, x2, x3, x4, x5, x6]) ++ List.replicate (7 - (lg_sl (Value.ref a :: List.map (fun v => Value.int (i32 v)) [x1, x2, x3, x4, x5, x6])).length) Slot.unset).toArray = ls
  have hl : lv_has ls 7 [(0, .ref a), (1, .int (i32 x1)), (2, .int (i32 x2)), (3, .int (i32 x3)), (4, .int (i32 x4)), (5, .int (i32 x5)), (6, .int (i32 x6))] := by rw [← hls]; exact hl
  obtain ⟨hx, hb, hml, hown, hkw, hin⟩ := id hk
  have hT := hkw.2.1
  refine lv_aload_n hx hb dX8_init_0 rfl (lv_at hl 0 rfl) ?_
  refine W.eq (g2 := F0 m 1 ls [.ref a]) rfl ?_
  refine W.objInit hx hb hown (hT.at (wat_mem (i := 630) (by decide +kernel)) _) (hT.at oiI _) (hT.at oiC _) rfl (hl.1.trans hml.symm) rfl dX8_init_1 (Nat.le_of_ble_eq_true rfl) (Nat.le_of_ble_eq_true rfl) ?_
  refine W.eq (g2 := F0 m 4 ls []) rfl ?_
  refine lv_aload_n hx hb dX8_init_4 rfl (lv_at hl 0 rfl) ?_
  refine W.eq (g2 := F0 m 5 ls [.ref a]) rfl ?_
  refine lv_iload_n hx hb dX8_init_5 rfl (lv_at hl 1 rfl) ?_
  refine W.eq (g2 := F0 m 6 ls [.int (i32 x1), .ref a]) rfl ?_
  refine ct_put (j := 0) hk hI dX8_init_6 (by decide) (by decide) (wat_mem (i := 631) (by decide +kernel)) (cl_ty (q := 8) (by decide) 0 (by decide)) (narrow_i _).1 (narrow_i _).2 (Nat.le_of_ble_eq_true rfl) rfl fun H locs hI => ?_
  have hI : CI w s a sz 8 ((dfs 8).set 0 (.int (i32 x1))) [] H locs := hI
  refine W.eq (g2 := F0 m 9 ls []) rfl ?_
  refine lv_aload_n hx hb dX8_init_9 rfl (lv_at hl 0 rfl) ?_
  refine W.eq (g2 := F0 m 10 ls [.ref a]) rfl ?_
  refine lv_iload_n hx hb dX8_init_10 rfl (lv_at hl 2 rfl) ?_
  refine W.eq (g2 := F0 m 11 ls [.int (i32 x2), .ref a]) rfl ?_
  refine ct_put (j := 1) hk hI dX8_init_11 (by decide) (by decide) (wat_mem (i := 632) (by decide +kernel)) (cl_ty (q := 8) (by decide) 1 (by decide)) (narrow_i _).1 (narrow_i _).2 (Nat.le_of_ble_eq_true rfl) rfl fun H locs hI => ?_
  have hI : CI w s a sz 8 (((dfs 8).set 0 (.int (i32 x1))).set 1 (.int (i32 x2))) [] H locs := hI
  refine W.eq (g2 := F0 m 14 ls []) rfl ?_
  refine lv_aload_n hx hb dX8_init_14 rfl (lv_at hl 0 rfl) ?_
  refine W.eq (g2 := F0 m 15 ls [.ref a]) rfl ?_
  refine lv_iload_n hx hb dX8_init_15 rfl (lv_at hl 3 rfl) ?_
  refine W.eq (g2 := F0 m 16 ls [.int (i32 x3), .ref a]) rfl ?_
  refine ct_put (j := 2) hk hI dX8_init_16 (by decide) (by decide) (wat_mem (i := 633) (by decide +kernel)) (cl_ty (q := 8) (by decide) 2 (by decide)) (narrow_i _).1 (narrow_i _).2 (Nat.le_of_ble_eq_true rfl) rfl fun H locs hI => ?_
  have hI : CI w s a sz 8 ((((dfs 8).set 0 (.int (i32 x1))).set 1 (.int (i32 x2))).set 2 (.int (i32 x3))) [] H locs := hI
  refine W.eq (g2 := F0 m 19 ls []) rfl ?_
  refine lv_aload_n hx hb dX8_init_19 rfl (lv_at hl 0 rfl) ?_
  refine W.eq (g2 := F0 m 20 ls [.ref a]) rfl ?_
  refine lv_iload hx hb dX8_init_20 (lv_at hl 4 rfl) ?_
  refine W.eq (g2 := F0 m 22 ls [.int (i32 x4), .ref a]) rfl ?_
  refine ct_put (j := 3) hk hI dX8_init_22 (by decide) (by decide) (wat_mem (i := 635) (by decide +kernel)) (cl_ty (q := 8) (by decide) 3 (by decide)) (narrow_i _).1 (narrow_i _).2 (Nat.le_of_ble_eq_true rfl) rfl fun H locs hI => ?_
  have hI : CI w s a sz 8 (((((dfs 8).set 0 (.int (i32 x1))).set 1 (.int (i32 x2))).set 2 (.int (i32 x3))).set 3 (.int (i32 x4))) [] H locs := hI
  refine W.eq (g2 := F0 m 25 ls []) rfl ?_
  refine lv_aload_n hx hb dX8_init_25 rfl (lv_at hl 0 rfl) ?_
  refine W.eq (g2 := F0 m 26 ls [.ref a]) rfl ?_
  refine lv_iload hx hb dX8_init_26 (lv_at hl 5 rfl) ?_
  refine W.eq (g2 := F0 m 28 ls [.int (i32 x5), .ref a]) rfl ?_
  refine ct_put (j := 4) hk hI dX8_init_28 (by decide) (by decide) (wat_mem (i := 637) (by decide +kernel)) (cl_ty (q := 8) (by decide) 4 (by decide)) (narrow_i _).1 (narrow_i _).2 (Nat.le_of_ble_eq_true rfl) rfl fun H locs hI => ?_
  have hI : CI w s a sz 8 ((((((dfs 8).set 0 (.int (i32 x1))).set 1 (.int (i32 x2))).set 2 (.int (i32 x3))).set 3 (.int (i32 x4))).set 4 (.int (i32 x5))) [] H locs := hI
  refine W.eq (g2 := F0 m 31 ls []) rfl ?_
  refine lv_aload_n hx hb dX8_init_31 rfl (lv_at hl 0 rfl) ?_
  refine W.eq (g2 := F0 m 32 ls [.ref a]) rfl ?_
  refine lv_iload hx hb dX8_init_32 (lv_at hl 6 rfl) ?_
  refine W.eq (g2 := F0 m 34 ls [.int (i32 x6), .ref a]) rfl ?_
  refine ct_put (j := 5) hk hI dX8_init_34 (by decide) (by decide) (wat_mem (i := 638) (by decide +kernel)) (cl_ty (q := 8) (by decide) 5 (by decide)) (narrow_i _).1 (narrow_i _).2 (Nat.le_of_ble_eq_true rfl) rfl fun H locs hI => ?_
  have hI : CI w s a sz 8 (((((((dfs 8).set 0 (.int (i32 x1))).set 1 (.int (i32 x2))).set 2 (.int (i32 x3))).set 3 (.int (i32 x4))).set 4 (.int (i32 x5))).set 5 (.int (i32 x6))) [] H locs := hI
  refine W.eq (g2 := F0 m 37 ls []) rfl ?_
  exact ct_end (T := trX8_init w sz [x1, x2, x3, x4, x5, x6]) hk hr hlk hI dX8_init_37 (Nat.le_of_ble_eq_true rfl) (Nat.le_of_ble_eq_true rfl)
theorem dX7_init_0 : decode cX7_init 0 = .ok (.aload_n 0, 1) := by decide +kernel
theorem dX7_init_1 : decode cX7_init 1 = .ok (.invokespecial 3, 3) := by decide +kernel
theorem dX7_init_4 : decode cX7_init 4 = .ok (.aload_n 0, 1) := by decide +kernel
theorem dX7_init_5 : decode cX7_init 5 = .ok (.bipush 6, 2) := by decide +kernel
theorem dX7_init_7 : decode cX7_init 7 = .ok (.newarray .int, 2) := by decide +kernel
theorem dX7_init_9 : decode cX7_init 9 = .ok (.putfield 9, 3) := by decide +kernel
theorem dX7_init_12 : decode cX7_init 12 = .ok (.aload_n 0, 1) := by decide +kernel
theorem dX7_init_13 : decode cX7_init 13 = .ok (.bipush 6, 2) := by decide +kernel
theorem dX7_init_15 : decode cX7_init 15 = .ok (.newarray .boolean, 2) := by decide +kernel
theorem dX7_init_17 : decode cX7_init 17 = .ok (.putfield 15, 3) := by decide +kernel
theorem dX7_init_20 : decode cX7_init 20 = .ok (.return_, 1) := by decide +kernel
def trX7_init : Wd → Nat → List Int → Tr := fun w sz xs => ((((dfs 7).set 0 (.ref (sz + 0))).set 1 (.ref (sz + 1))), [dar w 16, dar w 17])
set_option maxRecDepth 100000 in
theorem ctX7_init : CT 7 yX7_init cX7_init 1 0 1 12 12 [] trX7_init := by
  refine ct_of (own := "Floatparade$Songs") (by decide) rfl rfl ?_
  intro l w sz a xs hxs p e s m below meth c hk hr hlk hao hI
  obtain rfl := List.length_eq_zero_iff.mp hxs
  have hl := lv_entry [Value.ref a] (n := 1) (Nat.le_of_ble_eq_true rfl)
  rw [lg_entry_eq]
  generalize hls : (lg_sl (Value.ref a :: List.map (fun v => Value.int (i32 v)) []) ++ List.replicate (1 - (lg_sl (Value.ref a :: List.map (fun v => Value.int (i32 v)) [])).length) Slot.unset).toArray = ls
  have hl : lv_has ls 1 [(0, .ref a)] := by rw [← hls]; exact hl
  obtain ⟨hx, hb, hml, hown, hkw, hin⟩ := id hk
  have hT := hkw.2.1
  refine lv_aload_n hx hb dX7_init_0 rfl (lv_at hl 0 rfl) ?_
  refine W.eq (g2 := F0 m 1 ls [.ref a]) rfl ?_
  refine W.objInit hx hb hown (hT.at (wat_mem (i := 362) (by decide +kernel)) _) (hT.at oiI _) (hT.at oiC _) rfl (hl.1.trans hml.symm) rfl dX7_init_1 (Nat.le_of_ble_eq_true rfl) (Nat.le_of_ble_eq_true rfl) ?_
  refine W.eq (g2 := F0 m 4 ls []) rfl ?_
  refine lv_aload_n hx hb dX7_init_4 rfl (lv_at hl 0 rfl) ?_
  refine W.eq (g2 := F0 m 5 ls [.ref a]) rfl ?_
  refine lv_bipush hx hb (v := i32 6) dX7_init_5 (by decide) ?_
  refine W.eq (g2 := F0 m 7 ls [.int (i32 6), .ref a]) rfl ?_
  refine ct_newa (k2 := 16) (t := 0) (N' := 6) hk hI dX7_init_7 rfl (wat_mem (i := 148) (by decide +kernel)) rfl rfl (fun _ _ => Iff.rfl) (fun _ => rfl) (by decide) (by decide) (Nat.le_of_ble_eq_true rfl) (Nat.le_of_ble_eq_true rfl) (Nat.le_of_ble_eq_true rfl) fun H hI => ?_
  have hI : CI w s a sz 7 (dfs 7) [dar w 16] H _ := hI
  refine W.eq (g2 := F0 m 9 ls [.ref (sz + 0), .ref a]) rfl ?_
  refine ct_put (j := 0) hk hI dX7_init_9 (by decide) (by decide) (wat_mem (i := 363) (by decide +kernel)) (cl_ty (q := 7) (by decide) 0 (by decide)) rfl rfl (Nat.le_of_ble_eq_true rfl) rfl fun H locs hI => ?_
  have hI : CI w s a sz 7 ((dfs 7).set 0 (.ref (sz + 0))) [dar w 16] H locs := hI
  refine W.eq (g2 := F0 m 12 ls []) rfl ?_
  refine lv_aload_n hx hb dX7_init_12 rfl (lv_at hl 0 rfl) ?_
  refine W.eq (g2 := F0 m 13 ls [.ref a]) rfl ?_
  refine lv_bipush hx hb (v := i32 6) dX7_init_13 (by decide) ?_
  refine W.eq (g2 := F0 m 15 ls [.int (i32 6), .ref a]) rfl ?_
  refine ct_newa (k2 := 17) (t := 1) (N' := 6) hk hI dX7_init_15 rfl (wat_mem (i := 121) (by decide +kernel)) rfl rfl (fun _ _ => Iff.rfl) (fun _ => rfl) (by decide) (by decide) (Nat.le_of_ble_eq_true rfl) (Nat.le_of_ble_eq_true rfl) (Nat.le_of_ble_eq_true rfl) fun H hI => ?_
  have hI : CI w s a sz 7 ((dfs 7).set 0 (.ref (sz + 0))) [dar w 16, dar w 17] H _ := hI
  refine W.eq (g2 := F0 m 17 ls [.ref (sz + 1), .ref a]) rfl ?_
  refine ct_put (j := 1) hk hI dX7_init_17 (by decide) (by decide) (wat_mem (i := 364) (by decide +kernel)) (cl_ty (q := 7) (by decide) 1 (by decide)) rfl rfl (Nat.le_of_ble_eq_true rfl) rfl fun H locs hI => ?_
  have hI : CI w s a sz 7 (((dfs 7).set 0 (.ref (sz + 0))).set 1 (.ref (sz + 1))) [dar w 16, dar w 17] H locs := hI
  refine W.eq (g2 := F0 m 20 ls []) rfl ?_
  exact ct_end (T := trX7_init w sz []) hk hr hlk hI dX7_init_20 (Nat.le_of_ble_eq_true rfl) (Nat.le_of_ble_eq_true rfl)
theorem dX5_init_0 : decode cX5_init 0 = .ok (.aload_n 0, 1) := by decide +kernel
theorem dX5_init_1 : decode cX5_init 1 = .ok (.invokespecial 3, 3) := by decide +kernel
theorem dX5_init_4 : decode cX5_init 4 = .ok (.aload_n 0, 1) := by decide +kernel
theorem dX5_init_5 : decode cX5_init 5 = .ok (.bipush 20, 2) := by decide +kernel
theorem dX5_init_7 : decode cX5_init 7 = .ok (.newarray .int, 2) := by decide +kernel
theorem dX5_init_9 : decode cX5_init 9 = .ok (.putfield 9, 3) := by decide +kernel
theorem dX5_init_12 : decode cX5_init 12 = .ok (.aload_n 0, 1) := by decide +kernel
theorem dX5_init_13 : decode cX5_init 13 = .ok (.bipush 20, 2) := by decide +kernel
theorem dX5_init_15 : decode cX5_init 15 = .ok (.newarray .int, 2) := by decide +kernel
theorem dX5_init_17 : decode cX5_init 17 = .ok (.putfield 15, 3) := by decide +kernel
theorem dX5_init_20 : decode cX5_init 20 = .ok (.aload_n 0, 1) := by decide +kernel
theorem dX5_init_21 : decode cX5_init 21 = .ok (.bipush 20, 2) := by decide +kernel
theorem dX5_init_23 : decode cX5_init 23 = .ok (.newarray .int, 2) := by decide +kernel
theorem dX5_init_25 : decode cX5_init 25 = .ok (.putfield 18, 3) := by decide +kernel
theorem dX5_init_28 : decode cX5_init 28 = .ok (.aload_n 0, 1) := by decide +kernel
theorem dX5_init_29 : decode cX5_init 29 = .ok (.bipush 20, 2) := by decide +kernel
theorem dX5_init_31 : decode cX5_init 31 = .ok (.newarray .boolean, 2) := by decide +kernel
theorem dX5_init_33 : decode cX5_init 33 = .ok (.putfield 21, 3) := by decide +kernel
theorem dX5_init_36 : decode cX5_init 36 = .ok (.return_, 1) := by decide +kernel
def trX5_init : Wd → Nat → List Int → Tr := fun w sz xs => ((((((dfs 5).set 0 (.ref (sz + 0))).set 1 (.ref (sz + 1))).set 2 (.ref (sz + 2))).set 3 (.ref (sz + 3))), [dar w 18, dar w 19, dar w 20, dar w 21])
set_option maxRecDepth 100000 in
theorem ctX5_init : CT 5 yX5_init cX5_init 1 0 1 12 80 [] trX5_init := by
  refine ct_of (own := "Floatparade$Score") (by decide) rfl rfl ?_
  intro l w sz a xs hxs p e s m below meth c hk hr hlk hao hI
  obtain rfl := List.length_eq_zero_iff.mp hxs
  have hl := lv_entry [Value.ref a] (n := 1) (Nat.le_of_ble_eq_true rfl)
  rw [lg_entry_eq]
  generalize hls : (lg_sl (Value.ref a :: List.map (fun v => Value.int (i32 v)) []) ++ List.replicate (1 - (lg_sl (Value.ref a :: List.map (fun v => Value.int (i32 v)) [])).length) Slot.unset).toArray = ls
  have hl : lv_has ls 1 [(0, .ref a)] := by rw [← hls]; exact hl
  obtain ⟨hx, hb, hml, hown, hkw, hin⟩ := id hk
  have hT := hkw.2.1
  refine lv_aload_n hx hb dX5_init_0 rfl (lv_at hl 0 rfl) ?_
  refine W.eq (g2 := F0 m 1 ls [.ref a]) rfl ?_
  refine W.objInit hx hb hown (hT.at (wat_mem (i := 381) (by decide +kernel)) _) (hT.at oiI _) (hT.at oiC _) rfl (hl.1.trans hml.symm) rfl dX5_init_1 (Nat.le_of_ble_eq_true rfl) (Nat.le_of_ble_eq_true rfl) ?_
  refine W.eq (g2 := F0 m 4 ls []) rfl ?_
  refine lv_aload_n hx hb dX5_init_4 rfl (lv_at hl 0 rfl) ?_
  refine W.eq (g2 := F0 m 5 ls [.ref a]) rfl ?_
  refine lv_bipush hx hb (v := i32 20) dX5_init_5 (by decide) ?_
  refine W.eq (g2 := F0 m 7 ls [.int (i32 20), .ref a]) rfl ?_
  refine ct_newa (k2 := 18) (t := 0) (N' := 20) hk hI dX5_init_7 rfl (wat_mem (i := 148) (by decide +kernel)) rfl rfl (fun _ _ => Iff.rfl) (fun _ => rfl) (by decide) (by decide) (Nat.le_of_ble_eq_true rfl) (Nat.le_of_ble_eq_true rfl) (Nat.le_of_ble_eq_true rfl) fun H hI => ?_
  have hI : CI w s a sz 5 (dfs 5) [dar w 18] H _ := hI
  refine W.eq (g2 := F0 m 9 ls [.ref (sz + 0), .ref a]) rfl ?_
  refine ct_put (j := 0) hk hI dX5_init_9 (by decide) (by decide) (wat_mem (i := 382) (by decide +kernel)) (cl_ty (q := 5) (by decide) 0 (by decide)) rfl rfl (Nat.le_of_ble_eq_true rfl) rfl fun H locs hI => ?_
  have hI : CI w s a sz 5 ((dfs 5).set 0 (.ref (sz + 0))) [dar w 18] H locs := hI
  refine W.eq (g2 := F0 m 12 ls []) rfl ?_
  refine lv_aload_n hx hb dX5_init_12 rfl (lv_at hl 0 rfl) ?_
  refine W.eq (g2 := F0 m 13 ls [.ref a]) rfl ?_
  refine lv_bipush hx hb (v := i32 20) dX5_init_13 (by decide) ?_
  refine W.eq (g2 := F0 m 15 ls [.int (i32 20), .ref a]) rfl ?_
  refine ct_newa (k2 := 19) (t := 0) (N' := 20) hk hI dX5_init_15 rfl (wat_mem (i := 148) (by decide +kernel)) rfl rfl (fun _ _ => Iff.rfl) (fun _ => rfl) (by decide) (by decide) (Nat.le_of_ble_eq_true rfl) (Nat.le_of_ble_eq_true rfl) (Nat.le_of_ble_eq_true rfl) fun H hI => ?_
  have hI : CI w s a sz 5 ((dfs 5).set 0 (.ref (sz + 0))) [dar w 18, dar w 19] H _ := hI
  refine W.eq (g2 := F0 m 17 ls [.ref (sz + 1), .ref a]) rfl ?_
  refine ct_put (j := 1) hk hI dX5_init_17 (by decide) (by decide) (wat_mem (i := 383) (by decide +kernel)) (cl_ty (q := 5) (by decide) 1 (by decide)) rfl rfl (Nat.le_of_ble_eq_true rfl) rfl fun H locs hI => ?_
  have hI : CI w s a sz 5 (((dfs 5).set 0 (.ref (sz + 0))).set 1 (.ref (sz + 1))) [dar w 18, dar w 19] H locs := hI
  refine W.eq (g2 := F0 m 20 ls []) rfl ?_
  refine lv_aload_n hx hb dX5_init_20 rfl (lv_at hl 0 rfl) ?_
  refine W.eq (g2 := F0 m 21 ls [.ref a]) rfl ?_
  refine lv_bipush hx hb (v := i32 20) dX5_init_21 (by decide) ?_
  refine W.eq (g2 := F0 m 23 ls [.int (i32 20), .ref a]) rfl ?_
  refine ct_newa (k2 := 20) (t := 0) (N' := 20) hk hI dX5_init_23 rfl (wat_mem (i := 148) (by decide +kernel)) rfl rfl (fun _ _ => Iff.rfl) (fun _ => rfl) (by decide) (by decide) (Nat.le_of_ble_eq_true rfl) (Nat.le_of_ble_eq_true rfl) (Nat.le_of_ble_eq_true rfl) fun H hI => ?_
  have hI : CI w s a sz 5 (((dfs 5).set 0 (.ref (sz + 0))).set 1 (.ref (sz + 1))) [dar w 18, dar w 19, dar w 20] H _ := hI
  refine W.eq (g2 := F0 m 25 ls [.ref (sz + 2), .ref a]) rfl ?_
  refine ct_put (j := 2) hk hI dX5_init_25 (by decide) (by decide) (wat_mem (i := 384) (by decide +kernel)) (cl_ty (q := 5) (by decide) 2 (by decide)) rfl rfl (Nat.le_of_ble_eq_true rfl) rfl fun H locs hI => ?_
  have hI : CI w s a sz 5 ((((dfs 5).set 0 (.ref (sz + 0))).set 1 (.ref (sz + 1))).set 2 (.ref (sz + 2))) [dar w 18, dar w 19, dar w 20] H locs := hI
  refine W.eq (g2 := F0 m 28 ls []) rfl ?_
  refine lv_aload_n hx hb dX5_init_28 rfl (lv_at hl 0 rfl) ?_
  refine W.eq (g2 := F0 m 29 ls [.ref a]) rfl ?_
  refine lv_bipush hx hb (v := i32 20) dX5_init_29 (by decide) ?_
  refine W.eq (g2 := F0 m 31 ls [.int (i32 20), .ref a]) rfl ?_
  refine ct_newa (k2 := 21) (t := 1) (N' := 20) hk hI dX5_init_31 rfl (wat_mem (i := 121) (by decide +kernel)) rfl rfl (fun _ _ => Iff.rfl) (fun _ => rfl) (by decide) (by decide) (Nat.le_of_ble_eq_true rfl) (Nat.le_of_ble_eq_true rfl) (Nat.le_of_ble_eq_true rfl) fun H hI => ?_
  have hI : CI w s a sz 5 ((((dfs 5).set 0 (.ref (sz + 0))).set 1 (.ref (sz + 1))).set 2 (.ref (sz + 2))) [dar w 18, dar w 19, dar w 20, dar w 21] H _ := hI
  refine W.eq (g2 := F0 m 33 ls [.ref (sz + 3), .ref a]) rfl ?_
  refine ct_put (j := 3) hk hI dX5_init_33 (by decide) (by decide) (wat_mem (i := 385) (by decide +kernel)) (cl_ty (q := 5) (by decide) 3 (by decide)) rfl rfl (Nat.le_of_ble_eq_true rfl) rfl fun H locs hI => ?_
  have hI : CI w s a sz 5 (((((dfs 5).set 0 (.ref (sz + 0))).set 1 (.ref (sz + 1))).set 2 (.ref (sz + 2))).set 3 (.ref (sz + 3))) [dar w 18, dar w 19, dar w 20, dar w 21] H locs := hI
  refine W.eq (g2 := F0 m 36 ls []) rfl ?_
  exact ct_end (T := trX5_init w sz []) hk hr hlk hI dX5_init_36 (Nat.le_of_ble_eq_true rfl) (Nat.le_of_ble_eq_true rfl)
theorem dX6_init_0 : decode cX6_init 0 = .ok (.aload_n 0, 1) := by decide +kernel
theorem dX6_init_1 : decode cX6_init 1 = .ok (.invokespecial 3, 3) := by decide +kernel
theorem dX6_init_4 : decode cX6_init 4 = .ok (.aload_n 0, 1) := by decide +kernel
theorem dX6_init_5 : decode cX6_init 5 = .ok (.new 9, 3) := by decide +kernel
theorem dX6_init_8 : decode cX6_init 8 = .ok (.dup, 1) := by decide +kernel
theorem dX6_init_9 : decode cX6_init 9 = .ok (.invokespecial 11, 3) := by decide +kernel
theorem dX6_init_12 : decode cX6_init 12 = .ok (.putfield 12, 3) := by decide +kernel
theorem dX6_init_15 : decode cX6_init 15 = .ok (.aload_n 0, 1) := by decide +kernel
theorem dX6_init_16 : decode cX6_init 16 = .ok (.new 18, 3) := by decide +kernel
theorem dX6_init_19 : decode cX6_init 19 = .ok (.dup, 1) := by decide +kernel
theorem dX6_init_20 : decode cX6_init 20 = .ok (.invokespecial 20, 3) := by decide +kernel
theorem dX6_init_23 : decode cX6_init 23 = .ok (.putfield 21, 3) := by decide +kernel
theorem dX6_init_26 : decode cX6_init 26 = .ok (.aload_n 0, 1) := by decide +kernel
theorem dX6_init_27 : decode cX6_init 27 = .ok (.iconst 3, 1) := by decide +kernel
theorem dX6_init_28 : decode cX6_init 28 = .ok (.anewarray 25, 3) := by decide +kernel
theorem dX6_init_31 : decode cX6_init 31 = .ok (.putfield 27, 3) := by decide +kernel
theorem dX6_init_34 : decode cX6_init 34 = .ok (.aload_n 0, 1) := by decide +kernel
theorem dX6_init_35 : decode cX6_init 35 = .ok (.iconst (-1), 1) := by decide +kernel
theorem dX6_init_36 : decode cX6_init 36 = .ok (.putfield 31, 3) := by decide +kernel
theorem dX6_init_39 : decode cX6_init 39 = .ok (.aload_n 0, 1) := by decide +kernel
theorem dX6_init_40 : decode cX6_init 40 = .ok (.iconst (-1), 1) := by decide +kernel
theorem dX6_init_41 : decode cX6_init 41 = .ok (.putfield 35, 3) := by decide +kernel
theorem dX6_init_44 : decode cX6_init 44 = .ok (.aload_n 0, 1) := by decide +kernel
theorem dX6_init_45 : decode cX6_init 45 = .ok (.iload_n 1, 1) := by decide +kernel
theorem dX6_init_46 : decode cX6_init 46 = .ok (.putfield 38, 3) := by decide +kernel
theorem dX6_init_49 : decode cX6_init 49 = .ok (.aload_n 0, 1) := by decide +kernel
theorem dX6_init_50 : decode cX6_init 50 = .ok (.iload_n 2, 1) := by decide +kernel
theorem dX6_init_51 : decode cX6_init 51 = .ok (.putfield 41, 3) := by decide +kernel
theorem dX6_init_54 : decode cX6_init 54 = .ok (.aload_n 0, 1) := by decide +kernel
theorem dX6_init_55 : decode cX6_init 55 = .ok (.iload_n 3, 1) := by decide +kernel
theorem dX6_init_56 : decode cX6_init 56 = .ok (.putfield 44, 3) := by decide +kernel
theorem dX6_init_59 : decode cX6_init 59 = .ok (.return_, 1) := by decide +kernel
def trX6_init : Wd → Nat → List Int → Tr := fun w sz xs => ((((((((((dfs 6).set 2 (.ref (sz + 0))).set 3 (.ref (sz + 3))).set 4 (.ref (sz + 8))).set 12 (.int (i32 (-1)))).set 13 (.int (i32 (-1)))).set 0 (.int (i32 (xs.getD 0 0)))).set 5 (.int (i32 (xs.getD 1 0)))).set 1 (.int (i32 (xs.getD 2 0)))), [.inr (7, (trX7_init w (sz + 1) []).1), dar w 16, dar w 17, .inr (5, (trX5_init w (sz + 4) []).1), dar w 18, dar w 19, dar w 20, dar w 21, dar w 15])
set_option maxRecDepth 100000 in
theorem ctX6_init : CT 6 yX6_init cX6_init 4 3 2 32 104 [RX10] trX6_init := by
  refine ct_of (own := "Floatparade$Society") (by decide) rfl rfl ?_
  intro l w sz a xs hxs p e s m below meth c hk hr hlk hao hI
  obtain ⟨x1, x2, x3, rfl⟩ := len_3 hxs
  have hl := lv_entry [Value.ref a, .int (i32 x1), .int (i32 x2), .int (i32 x3)] (n := 4) (Nat.le_of_ble_eq_true rfl)
  rw [lg_entry_eq]
  generalize hls : (lg_sl (Value.ref a :: List.map (fun v => Value.int (i32 v)) [x1, x2, x3]) ++ List.replicate (4 - (lg_sl (Value.ref a :: List.map (fun v => Value.int (i32 v)) [x1, x2, x3])).length) Slot.unset).toArray = ls
  have hl : lv_has ls 4 [(0, .ref a), (1, .int (i32 x1)), (2, .int (i32 x2)), (3, .int (i32 x3))] := by rw [← hls]; exact hl
  obtain ⟨hx, hb, hml, hown, hkw, hin⟩ := id hk
  have hT := hkw.2.1
  refine lv_aload_n hx hb dX6_init_0 rfl (lv_at hl 0 rfl) ?_
  refine W.eq (g2 := F0 m 1 ls [.ref a]) rfl ?_
  refine W.objInit hx hb hown (hT.at (wat_mem (i := 356) (by decide +kernel)) _) (hT.at oiI _) (hT.at oiC _) rfl (hl.1.trans hml.symm) rfl dX6_init_1 (Nat.le_of_ble_eq_true rfl) (Nat.le_of_ble_eq_true rfl) ?_
  refine W.eq (g2 := F0 m 4 ls []) rfl ?_
  refine lv_aload_n hx hb dX6_init_4 rfl (lv_at hl 0 rfl) ?_
  refine W.eq (g2 := F0 m 5 ls [.ref a]) rfl ?_
  refine ct_new (k2 := 7) hk hI dX6_init_5 (by decide) (wat_mem (i := 357) (by decide +kernel)) (wat_mem (i := 358) (by decide +kernel)) (wat_mem (i := 83) (by decide +kernel)) (Nat.le_of_ble_eq_true rfl) (Nat.le_of_ble_eq_true rfl) fun H hI => ?_
  have hI : CI w s a sz 6 (dfs 6) [.inr (7, dfs 7)] H _ := hI
  refine W.eq (g2 := F0 m 8 ls [.ref (sz + 0), .ref a]) rfl ?_
  refine lv_dup hx hb dX6_init_8 rfl ?_
  refine W.eq (g2 := F0 m 9 ls [.ref (sz + 0), .ref (sz + 0), .ref a]) rfl ?_
  refine ct_callN (k2 := 7) (vs := []) (xs := []) (rest := []) hk ctX7_init hI dX6_init_9 hl.1 rfl rfl (fun C hC => (nomatch hC)) (wat_mem (i := 359) (by decide +kernel)) (wat_mem (i := 361) (by decide +kernel)) (wat_mem (i := 83) (by decide +kernel)) (wat_mem (i := 360) (by decide +kernel)) rfl (by decide) (by decide +kernel) (Nat.le_of_ble_eq_true rfl) (Nat.le_of_ble_eq_true rfl) (Nat.le_of_ble_eq_true rfl) (Nat.le_of_ble_eq_true rfl) (Nat.le_of_ble_eq_true rfl) fun H locs hI => ?_
  have hI : CI w s a sz 6 (dfs 6) [.inr (7, (trX7_init w (sz + 1) []).1), dar w 16, dar w 17] H locs := hI
  refine W.eq (g2 := F0 m 12 ls [.ref (sz + 0), .ref a]) rfl ?_
  refine ct_put (j := 2) hk hI dX6_init_12 (by decide) (by decide) (wat_mem (i := 408) (by decide +kernel)) (cl_ty (q := 6) (by decide) 2 (by decide)) rfl rfl (Nat.le_of_ble_eq_true rfl) rfl fun H locs hI => ?_
  have hI : CI w s a sz 6 ((dfs 6).set 2 (.ref (sz + 0))) [.inr (7, (trX7_init w (sz + 1) []).1), dar w 16, dar w 17] H locs := hI
  refine W.eq (g2 := F0 m 15 ls []) rfl ?_
  refine lv_aload_n hx hb dX6_init_15 rfl (lv_at hl 0 rfl) ?_
  refine W.eq (g2 := F0 m 16 ls [.ref a]) rfl ?_
  refine ct_new (k2 := 5) hk hI dX6_init_16 (by decide) (wat_mem (i := 376) (by decide +kernel)) (wat_mem (i := 377) (by decide +kernel)) (wat_mem (i := 84) (by decide +kernel)) (Nat.le_of_ble_eq_true rfl) (Nat.le_of_ble_eq_true rfl) fun H hI => ?_
  have hI : CI w s a sz 6 ((dfs 6).set 2 (.ref (sz + 0))) [.inr (7, (trX7_init w (sz + 1) []).1), dar w 16, dar w 17, .inr (5, dfs 5)] H _ := hI
  refine W.eq (g2 := F0 m 19 ls [.ref (sz + 3), .ref a]) rfl ?_
  refine lv_dup hx hb dX6_init_19 rfl ?_
  refine W.eq (g2 := F0 m 20 ls [.ref (sz + 3), .ref (sz + 3), .ref a]) rfl ?_
  refine ct_callN (k2 := 5) (vs := []) (xs := []) (rest := [.inr (7, (trX7_init w (sz + 1) []).1), dar w 16, dar w 17]) hk ctX5_init hI dX6_init_20 hl.1 rfl rfl (fun C hC => (nomatch hC)) (wat_mem (i := 378) (by decide +kernel)) (wat_mem (i := 380) (by decide +kernel)) (wat_mem (i := 84) (by decide +kernel)) (wat_mem (i := 379) (by decide +kernel)) rfl (by decide) (by decide +kernel) (Nat.le_of_ble_eq_true rfl) (Nat.le_of_ble_eq_true rfl) (Nat.le_of_ble_eq_true rfl) (Nat.le_of_ble_eq_true rfl) (Nat.le_of_ble_eq_true rfl) fun H locs hI => ?_
  have hI : CI w s a sz 6 ((dfs 6).set 2 (.ref (sz + 0))) [.inr (7, (trX7_init w (sz + 1) []).1), dar w 16, dar w 17, .inr (5, (trX5_init w (sz + 4) []).1), dar w 18, dar w 19, dar w 20, dar w 21] H locs := hI
  refine W.eq (g2 := F0 m 23 ls [.ref (sz + 3), .ref a]) rfl ?_
  refine ct_put (j := 3) hk hI dX6_init_23 (by decide) (by decide) (wat_mem (i := 410) (by decide +kernel)) (cl_ty (q := 6) (by decide) 3 (by decide)) rfl rfl (Nat.le_of_ble_eq_true rfl) rfl fun H locs hI => ?_
  have hI : CI w s a sz 6 (((dfs 6).set 2 (.ref (sz + 0))).set 3 (.ref (sz + 3))) [.inr (7, (trX7_init w (sz + 1) []).1), dar w 16, dar w 17, .inr (5, (trX5_init w (sz + 4) []).1), dar w 18, dar w 19, dar w 20, dar w 21] H locs := hI
  refine W.eq (g2 := F0 m 26 ls []) rfl ?_
  refine lv_aload_n hx hb dX6_init_26 rfl (lv_at hl 0 rfl) ?_
  refine W.eq (g2 := F0 m 27 ls [.ref a]) rfl ?_
  refine lv_iconst hx hb (v := i32 3) dX6_init_27 rfl ?_
  refine W.eq (g2 := F0 m 28 ls [.int (i32 3), .ref a]) rfl ?_
  refine ct_newr (k2 := 15) (t := 5) (N' := 3) hk hI dX6_init_28 (wat_mem (i := 400) (by decide +kernel)) (hao _ (by decide)) rfl (by decide) rfl (by decide) (by decide) (Nat.le_of_ble_eq_true rfl) (Nat.le_of_ble_eq_true rfl) (Nat.le_of_ble_eq_true rfl) fun H hI => ?_
  have hI : CI w s a sz 6 (((dfs 6).set 2 (.ref (sz + 0))).set 3 (.ref (sz + 3))) [.inr (7, (trX7_init w (sz + 1) []).1), dar w 16, dar w 17, .inr (5, (trX5_init w (sz + 4) []).1), dar w 18, dar w 19, dar w 20, dar w 21, dar w 15] H _ := hI
  refine W.eq (g2 := F0 m 31 ls [.ref (sz + 8), .ref a]) rfl ?_
  refine ct_put (j := 4) hk hI dX6_init_31 (by decide) (by decide) (wat_mem (i := 412) (by decide +kernel)) (cl_ty (q := 6) (by decide) 4 (by decide)) rfl rfl (Nat.le_of_ble_eq_true rfl) rfl fun H locs hI => ?_
  have hI : CI w s a sz 6 ((((dfs 6).set 2 (.ref (sz + 0))).set 3 (.ref (sz + 3))).set 4 (.ref (sz + 8))) [.inr (7, (trX7_init w (sz + 1) []).1), dar w 16, dar w 17, .inr (5, (trX5_init w (sz + 4) []).1), dar w 18, dar w 19, dar w 20, dar w 21, dar w 15] H locs := hI
  refine W.eq (g2 := F0 m 34 ls []) rfl ?_
  refine lv_aload_n hx hb dX6_init_34 rfl (lv_at hl 0 rfl) ?_
  refine W.eq (g2 := F0 m 35 ls [.ref a]) rfl ?_
  refine lv_iconst hx hb (v := i32 (-1)) dX6_init_35 rfl ?_
  refine W.eq (g2 := F0 m 36 ls [.int (i32 (-1)), .ref a]) rfl ?_
  refine ct_put (j := 12) hk hI dX6_init_36 (by decide) (by decide) (wat_mem (i := 430) (by decide +kernel)) (cl_ty (q := 6) (by decide) 12 (by decide)) (narrow_i _).1 (narrow_i _).2 (Nat.le_of_ble_eq_true rfl) rfl fun H locs hI => ?_
  have hI : CI w s a sz 6 (((((dfs 6).set 2 (.ref (sz + 0))).set 3 (.ref (sz + 3))).set 4 (.ref (sz + 8))).set 12 (.int (i32 (-1)))) [.inr (7, (trX7_init w (sz + 1) []).1), dar w 16, dar w 17, .inr (5, (trX5_init w (sz + 4) []).1), dar w 18, dar w 19, dar w 20, dar w 21, dar w 15] H locs := hI
  refine W.eq (g2 := F0 m 39 ls []) rfl ?_
  refine lv_aload_n hx hb dX6_init_39 rfl (lv_at hl 0 rfl) ?_
  refine W.eq (g2 := F0 m 40 ls [.ref a]) rfl ?_
  refine lv_iconst hx hb (v := i32 (-1)) dX6_init_40 rfl ?_
  refine W.eq (g2 := F0 m 41 ls [.int (i32 (-1)), .ref a]) rfl ?_
  refine ct_put (j := 13) hk hI dX6_init_41 (by decide) (by decide) (wat_mem (i := 433) (by decide +kernel)) (cl_ty (q := 6) (by decide) 13 (by decide)) (narrow_i _).1 (narrow_i _).2 (Nat.le_of_ble_eq_true rfl) rfl fun H locs hI => ?_
  have hI : CI w s a sz 6 ((((((dfs 6).set 2 (.ref (sz + 0))).set 3 (.ref (sz + 3))).set 4 (.ref (sz + 8))).set 12 (.int (i32 (-1)))).set 13 (.int (i32 (-1)))) [.inr (7, (trX7_init w (sz + 1) []).1), dar w 16, dar w 17, .inr (5, (trX5_init w (sz + 4) []).1), dar w 18, dar w 19, dar w 20, dar w 21, dar w 15] H locs := hI
  refine W.eq (g2 := F0 m 44 ls []) rfl ?_
  refine lv_aload_n hx hb dX6_init_44 rfl (lv_at hl 0 rfl) ?_
  refine W.eq (g2 := F0 m 45 ls [.ref a]) rfl ?_
  refine lv_iload_n hx hb dX6_init_45 rfl (lv_at hl 1 rfl) ?_
  refine W.eq (g2 := F0 m 46 ls [.int (i32 x1), .ref a]) rfl ?_
  refine ct_put (j := 0) hk hI dX6_init_46 (by decide) (by decide) (wat_mem (i := 402) (by decide +kernel)) (cl_ty (q := 6) (by decide) 0 (by decide)) (narrow_i _).1 (narrow_i _).2 (Nat.le_of_ble_eq_true rfl) rfl fun H locs hI => ?_
  have hI : CI w s a sz 6 (((((((dfs 6).set 2 (.ref (sz + 0))).set 3 (.ref (sz + 3))).set 4 (.ref (sz + 8))).set 12 (.int (i32 (-1)))).set 13 (.int (i32 (-1)))).set 0 (.int (i32 x1))) [.inr (7, (trX7_init w (sz + 1) []).1), dar w 16, dar w 17, .inr (5, (trX5_init w (sz + 4) []).1), dar w 18, dar w 19, dar w 20, dar w 21, dar w 15] H locs := hI
  refine W.eq (g2 := F0 m 49 ls []) rfl ?_
  refine lv_aload_n hx hb dX6_init_49 rfl (lv_at hl 0 rfl) ?_
  refine W.eq (g2 := F0 m 50 ls [.ref a]) rfl ?_
  refine lv_iload_n hx hb dX6_init_50 rfl (lv_at hl 2 rfl) ?_
  refine W.eq (g2 := F0 m 51 ls [.int (i32 x2), .ref a]) rfl ?_
  refine ct_put (j := 5) hk hI dX6_init_51 (by decide) (by decide) (wat_mem (i := 413) (by decide +kernel)) (cl_ty (q := 6) (by decide) 5 (by decide)) (narrow_i _).1 (narrow_i _).2 (Nat.le_of_ble_eq_true rfl) rfl fun H locs hI => ?_
  have hI : CI w s a sz 6 ((((((((dfs 6).set 2 (.ref (sz + 0))).set 3 (.ref (sz + 3))).set 4 (.ref (sz + 8))).set 12 (.int (i32 (-1)))).set 13 (.int (i32 (-1)))).set 0 (.int (i32 x1))).set 5 (.int (i32 x2))) [.inr (7, (trX7_init w (sz + 1) []).1), dar w 16, dar w 17, .inr (5, (trX5_init w (sz + 4) []).1), dar w 18, dar w 19, dar w 20, dar w 21, dar w 15] H locs := hI
  refine W.eq (g2 := F0 m 54 ls []) rfl ?_
  refine lv_aload_n hx hb dX6_init_54 rfl (lv_at hl 0 rfl) ?_
  refine W.eq (g2 := F0 m 55 ls [.ref a]) rfl ?_
  refine lv_iload_n hx hb dX6_init_55 rfl (lv_at hl 3 rfl) ?_
  refine W.eq (g2 := F0 m 56 ls [.int (i32 x3), .ref a]) rfl ?_
  refine ct_put (j := 1) hk hI dX6_init_56 (by decide) (by decide) (wat_mem (i := 407) (by decide +kernel)) (cl_ty (q := 6) (by decide) 1 (by decide)) (narrow_i _).1 (narrow_i _).2 (Nat.le_of_ble_eq_true rfl) rfl fun H locs hI => ?_
  have hI : CI w s a sz 6 (((((((((dfs 6).set 2 (.ref (sz + 0))).set 3 (.ref (sz + 3))).set 4 (.ref (sz + 8))).set 12 (.int (i32 (-1)))).set 13 (.int (i32 (-1)))).set 0 (.int (i32 x1))).set 5 (.int (i32 x2))).set 1 (.int (i32 x3))) [.inr (7, (trX7_init w (sz + 1) []).1), dar w 16, dar w 17, .inr (5, (trX5_init w (sz + 4) []).1), dar w 18, dar w 19, dar w 20, dar w 21, dar w 15] H locs := hI
  refine W.eq (g2 := F0 m 59 ls []) rfl ?_
  exact ct_end (T := trX6_init w sz [x1, x2, x3]) hk hr hlk hI dX6_init_59 (Nat.le_of_ble_eq_true rfl) (Nat.le_of_ble_eq_true rfl)
