theorem dX3_init_0 : decode cX3_init 0 = .ok (.aload_n 0, 1) := by decide +kernel
theorem dX3_init_1 : decode cX3_init 1 = .ok (.invokespecial 3, 3) := by decide +kernel
theorem dX3_init_4 : decode cX3_init 4 = .ok (.aload_n 0, 1) := by decide +kernel
theorem dX3_init_5 : decode cX3_init 5 = .ok (.bipush 10, 2) := by decide +kernel
theorem dX3_init_7 : decode cX3_init 7 = .ok (.newarray .int, 2) := by decide +kernel
theorem dX3_init_9 : decode cX3_init 9 = .ok (.putfield 9, 3) := by decide +kernel
theorem dX3_init_12 : decode cX3_init 12 = .ok (.aload_n 0, 1) := by decide +kernel
theorem dX3_init_13 : decode cX3_init 13 = .ok (.bipush 10, 2) := by decide +kernel
theorem dX3_init_15 : decode cX3_init 15 = .ok (.newarray .int, 2) := by decide +kernel
theorem dX3_init_17 : decode cX3_init 17 = .ok (.putfield 15, 3) := by decide +kernel
theorem dX3_init_20 : decode cX3_init 20 = .ok (.aload_n 0, 1) := by decide +kernel
theorem dX3_init_21 : decode cX3_init 21 = .ok (.bipush 10, 2) := by decide +kernel
theorem dX3_init_23 : decode cX3_init 23 = .ok (.anewarray 18, 3) := by decide +kernel
theorem dX3_init_26 : decode cX3_init 26 = .ok (.putfield 20, 3) := by decide +kernel
theorem dX3_init_29 : decode cX3_init 29 = .ok (.return_, 1) := by decide +kernel
def trX3_init : Wd → Nat → List Int → Tr := fun w sz xs => (((((dfs 3).set 0 (.ref (sz + 0))).set 1 (.ref (sz + 1))).set 2 (.ref (sz + 2))), [dar w 24, dar w 25, dar w 26])
set_option maxRecDepth 100000 in
theorem ctX3_init : CT 3 yX3_init cX3_init 1 0 1 12 30 [RX8] trX3_init := by
  refine ct_of (own := "Floatparade$Route") (by decide) rfl rfl ?_
  intro l w sz a xs hxs p e s m below meth c hk hr hlk hao hI
  obtain rfl := List.length_eq_zero_iff.mp hxs
  have hl := lv_entry [Value.ref a] (n := 1) (Nat.le_of_ble_eq_true rfl)
  rw [lg_entry_eq]
  generalize hls : (lg_sl (Value.ref a :: List.map (fun v => Value.int (i32 v)) []) ++ List.replicate (1 - (lg_sl (Value.ref a :: List.map (fun v => Value.int (i32 v)) [])).length) Slot.unset).toArray = ls
  have hl : lv_has ls 1 [(0, .ref a)] := by rw [← hls]; exact hl
  obtain ⟨hx, hb, hml, hown, hkw, hin⟩ := id hk
  have hT := hkw.2.1
  refine lv_aload_n hx hb dX3_init_0 rfl (lv_at hl 0 rfl) ?_
  refine W.eq (g2 := F0 m 1 ls [.ref a]) rfl ?_
  refine W.objInit hx hb hown (hT.at (wat_mem (i := 132) (by decide +kernel)) _) (hT.at oiI _) (hT.at oiC _) rfl (hl.1.trans hml.symm) rfl dX3_init_1 (Nat.le_of_ble_eq_true rfl) (Nat.le_of_ble_eq_true rfl) ?_
  refine W.eq (g2 := F0 m 4 ls []) rfl ?_
  refine lv_aload_n hx hb dX3_init_4 rfl (lv_at hl 0 rfl) ?_
  refine W.eq (g2 := F0 m 5 ls [.ref a]) rfl ?_
  refine lv_bipush hx hb (v := i32 10) dX3_init_5 (by decide) ?_
  refine W.eq (g2 := F0 m 7 ls [.int (i32 10), .ref a]) rfl ?_
  refine ct_newa (k2 := 24) (t := 0) (N' := 10) hk hI dX3_init_7 rfl (wat_mem (i := 148) (by decide +kernel)) rfl rfl (fun _ _ => Iff.rfl) (fun _ => rfl) (by decide) (by decide) (Nat.le_of_ble_eq_true rfl) (Nat.le_of_ble_eq_true rfl) (Nat.le_of_ble_eq_true rfl) fun H hI => ?_
  have hI : CI w s a sz 3 (dfs 3) [dar w 24] H _ := hI
  refine W.eq (g2 := F0 m 9 ls [.ref (sz + 0), .ref a]) rfl ?_
  refine ct_put (j := 0) hk hI dX3_init_9 (by decide) (by decide) (wat_mem (i := 134) (by decide +kernel)) (cl_ty (q := 3) (by decide) 0 (by decide)) rfl rfl (Nat.le_of_ble_eq_true rfl) rfl fun H locs hI => ?_
  have hI : CI w s a sz 3 ((dfs 3).set 0 (.ref (sz + 0))) [dar w 24] H locs := hI
  refine W.eq (g2 := F0 m 12 ls []) rfl ?_
  refine lv_aload_n hx hb dX3_init_12 rfl (lv_at hl 0 rfl) ?_
  refine W.eq (g2 := F0 m 13 ls [.ref a]) rfl ?_
  refine lv_bipush hx hb (v := i32 10) dX3_init_13 (by decide) ?_
  refine W.eq (g2 := F0 m 15 ls [.int (i32 10), .ref a]) rfl ?_
  refine ct_newa (k2 := 25) (t := 0) (N' := 10) hk hI dX3_init_15 rfl (wat_mem (i := 148) (by decide +kernel)) rfl rfl (fun _ _ => Iff.rfl) (fun _ => rfl) (by decide) (by decide) (Nat.le_of_ble_eq_true rfl) (Nat.le_of_ble_eq_true rfl) (Nat.le_of_ble_eq_true rfl) fun H hI => ?_
  have hI : CI w s a sz 3 ((dfs 3).set 0 (.ref (sz + 0))) [dar w 24, dar w 25] H _ := hI
  refine W.eq (g2 := F0 m 17 ls [.ref (sz + 1), .ref a]) rfl ?_
  refine ct_put (j := 1) hk hI dX3_init_17 (by decide) (by decide) (wat_mem (i := 135) (by decide +kernel)) (cl_ty (q := 3) (by decide) 1 (by decide)) rfl rfl (Nat.le_of_ble_eq_true rfl) rfl fun H locs hI => ?_
  have hI : CI w s a sz 3 (((dfs 3).set 0 (.ref (sz + 0))).set 1 (.ref (sz + 1))) [dar w 24, dar w 25] H locs := hI
  refine W.eq (g2 := F0 m 20 ls []) rfl ?_
  refine lv_aload_n hx hb dX3_init_20 rfl (lv_at hl 0 rfl) ?_
  refine W.eq (g2 := F0 m 21 ls [.ref a]) rfl ?_
  refine lv_bipush hx hb (v := i32 10) dX3_init_21 (by decide) ?_
  refine W.eq (g2 := F0 m 23 ls [.int (i32 10), .ref a]) rfl ?_
  refine ct_newr (k2 := 26) (t := 6) (N' := 10) hk hI dX3_init_23 (wat_mem (i := 133) (by decide +kernel)) (hao _ (by decide)) rfl (by decide) rfl (by decide) (by decide) (Nat.le_of_ble_eq_true rfl) (Nat.le_of_ble_eq_true rfl) (Nat.le_of_ble_eq_true rfl) fun H hI => ?_
  have hI : CI w s a sz 3 (((dfs 3).set 0 (.ref (sz + 0))).set 1 (.ref (sz + 1))) [dar w 24, dar w 25, dar w 26] H _ := hI
  refine W.eq (g2 := F0 m 26 ls [.ref (sz + 2), .ref a]) rfl ?_
  refine ct_put (j := 2) hk hI dX3_init_26 (by decide) (by decide) (wat_mem (i := 136) (by decide +kernel)) (cl_ty (q := 3) (by decide) 2 (by decide)) rfl rfl (Nat.le_of_ble_eq_true rfl) rfl fun H locs hI => ?_
  have hI : CI w s a sz 3 ((((dfs 3).set 0 (.ref (sz + 0))).set 1 (.ref (sz + 1))).set 2 (.ref (sz + 2))) [dar w 24, dar w 25, dar w 26] H locs := hI
  refine W.eq (g2 := F0 m 29 ls []) rfl ?_
  exact ct_end (T := trX3_init w sz []) hk hr hlk hI dX3_init_29 (Nat.le_of_ble_eq_true rfl) (Nat.le_of_ble_eq_true rfl)
theorem dX4_init_0 : decode cX4_init 0 = .ok (.aload_n 0, 1) := by decide +kernel
theorem dX4_init_1 : decode cX4_init 1 = .ok (.invokespecial 3, 3) := by decide +kernel
theorem dX4_init_4 : decode cX4_init 4 = .ok (.aload_n 0, 1) := by decide +kernel
theorem dX4_init_5 : decode cX4_init 5 = .ok (.bipush 10, 2) := by decide +kernel
theorem dX4_init_7 : decode cX4_init 7 = .ok (.anewarray 9, 3) := by decide +kernel
theorem dX4_init_10 : decode cX4_init 10 = .ok (.putfield 11, 3) := by decide +kernel
theorem dX4_init_13 : decode cX4_init 13 = .ok (.return_, 1) := by decide +kernel
def trX4_init : Wd → Nat → List Int → Tr := fun w sz xs => (((dfs 4).set 0 (.ref (sz + 0))), [dar w 27])
set_option maxRecDepth 100000 in
theorem ctX4_init : CT 4 yX4_init cX4_init 1 0 1 12 10 [RX6] trX4_init := by
  refine ct_of (own := "Floatparade$Row") (by decide) rfl rfl ?_
  intro l w sz a xs hxs p e s m below meth c hk hr hlk hao hI
  obtain rfl := List.length_eq_zero_iff.mp hxs
  have hl := lv_entry [Value.ref a] (n := 1) (Nat.le_of_ble_eq_true rfl)
  rw [lg_entry_eq]
  generalize hls : (lg_sl (Value.ref a :: List.map (fun v => Value.int (i32 v)) []) ++ List.replicate (1 - (lg_sl (Value.ref a :: List.map (fun v => Value.int (i32 v)) [])).length) Slot.unset).toArray = ls
  have hl : lv_has ls 1 [(0, .ref a)] := by rw [← hls]; exact hl
  obtain ⟨hx, hb, hml, hown, hkw, hin⟩ := id hk
  have hT := hkw.2.1
  refine lv_aload_n hx hb dX4_init_0 rfl (lv_at hl 0 rfl) ?_
  refine W.eq (g2 := F0 m 1 ls [.ref a]) rfl ?_
  refine W.objInit hx hb hown (hT.at (wat_mem (i := 154) (by decide +kernel)) _) (hT.at oiI _) (hT.at oiC _) rfl (hl.1.trans hml.symm) rfl dX4_init_1 (Nat.le_of_ble_eq_true rfl) (Nat.le_of_ble_eq_true rfl) ?_
  refine W.eq (g2 := F0 m 4 ls []) rfl ?_
  refine lv_aload_n hx hb dX4_init_4 rfl (lv_at hl 0 rfl) ?_
  refine W.eq (g2 := F0 m 5 ls [.ref a]) rfl ?_
  refine lv_bipush hx hb (v := i32 10) dX4_init_5 (by decide) ?_
  refine W.eq (g2 := F0 m 7 ls [.int (i32 10), .ref a]) rfl ?_
  refine ct_newr (k2 := 27) (t := 3) (N' := 10) hk hI dX4_init_7 (wat_mem (i := 155) (by decide +kernel)) (hao _ (by decide)) rfl (by decide) rfl (by decide) (by decide) (Nat.le_of_ble_eq_true rfl) (Nat.le_of_ble_eq_true rfl) (Nat.le_of_ble_eq_true rfl) fun H hI => ?_
  have hI : CI w s a sz 4 (dfs 4) [dar w 27] H _ := hI
  refine W.eq (g2 := F0 m 10 ls [.ref (sz + 0), .ref a]) rfl ?_
  refine ct_put (j := 0) hk hI dX4_init_10 (by decide) (by decide) (wat_mem (i := 156) (by decide +kernel)) (cl_ty (q := 4) (by decide) 0 (by decide)) rfl rfl (Nat.le_of_ble_eq_true rfl) rfl fun H locs hI => ?_
  have hI : CI w s a sz 4 ((dfs 4).set 0 (.ref (sz + 0))) [dar w 27] H locs := hI
  refine W.eq (g2 := F0 m 13 ls []) rfl ?_
  exact ct_end (T := trX4_init w sz []) hk hr hlk hI dX4_init_13 (Nat.le_of_ble_eq_true rfl) (Nat.le_of_ble_eq_true rfl)
theorem dX1_init_0 : decode cX1_init 0 = .ok (.aload_n 0, 1) := by decide +kernel
theorem dX1_init_1 : decode cX1_init 1 = .ok (.invokespecial 3, 3) := by decide +kernel
theorem dX1_init_4 : decode cX1_init 4 = .ok (.aload_n 0, 1) := by decide +kernel
theorem dX1_init_5 : decode cX1_init 5 = .ok (.bipush 60, 2) := by decide +kernel
theorem dX1_init_7 : decode cX1_init 7 = .ok (.anewarray 9, 3) := by decide +kernel
theorem dX1_init_10 : decode cX1_init 10 = .ok (.putfield 11, 3) := by decide +kernel
theorem dX1_init_13 : decode cX1_init 13 = .ok (.aload_n 0, 1) := by decide +kernel
theorem dX1_init_14 : decode cX1_init 14 = .ok (.bipush 12, 2) := by decide +kernel
theorem dX1_init_16 : decode cX1_init 16 = .ok (.newarray .int, 2) := by decide +kernel
theorem dX1_init_18 : decode cX1_init 18 = .ok (.putfield 17, 3) := by decide +kernel
theorem dX1_init_21 : decode cX1_init 21 = .ok (.aload_n 0, 1) := by decide +kernel
theorem dX1_init_22 : decode cX1_init 22 = .ok (.iconst 1, 1) := by decide +kernel
theorem dX1_init_23 : decode cX1_init 23 = .ok (.putfield 21, 3) := by decide +kernel
theorem dX1_init_26 : decode cX1_init 26 = .ok (.aload_n 0, 1) := by decide +kernel
theorem dX1_init_27 : decode cX1_init 27 = .ok (.sipush 200, 3) := by decide +kernel
theorem dX1_init_30 : decode cX1_init 30 = .ok (.putfield 25, 3) := by decide +kernel
theorem dX1_init_33 : decode cX1_init 33 = .ok (.return_, 1) := by decide +kernel
def trX1_init : Wd → Nat → List Int → Tr := fun w sz xs => ((((((dfs 1).set 0 (.ref (sz + 0))).set 1 (.ref (sz + 1))).set 4 (.int (i32 1))).set 5 (.int (i32 200))), [dar w 28, dar w 29])
set_option maxRecDepth 100000 in
theorem ctX1_init : CT 1 yX1_init cX1_init 1 0 1 12 72 [RX2] trX1_init := by
  refine ct_of (own := "Floatparade$Line") (by decide) rfl rfl ?_
  intro l w sz a xs hxs p e s m below meth c hk hr hlk hao hI
  obtain rfl := List.length_eq_zero_iff.mp hxs
  have hl := lv_entry [Value.ref a] (n := 1) (Nat.le_of_ble_eq_true rfl)
  rw [lg_entry_eq]
  generalize hls : (lg_sl (Value.ref a :: List.map (fun v => Value.int (i32 v)) []) ++ List.replicate (1 - (lg_sl (Value.ref a :: List.map (fun v => Value.int (i32 v)) [])).length) Slot.unset).toArray = ls
  have hl : lv_has ls 1 [(0, .ref a)] := by rw [← hls]; exact hl
  obtain ⟨hx, hb, hml, hown, hkw, hin⟩ := id hk
  have hT := hkw.2.1
  refine lv_aload_n hx hb dX1_init_0 rfl (lv_at hl 0 rfl) ?_
  refine W.eq (g2 := F0 m 1 ls [.ref a]) rfl ?_
  refine W.objInit hx hb hown (hT.at (wat_mem (i := 171) (by decide +kernel)) _) (hT.at oiI _) (hT.at oiC _) rfl (hl.1.trans hml.symm) rfl dX1_init_1 (Nat.le_of_ble_eq_true rfl) (Nat.le_of_ble_eq_true rfl) ?_
  refine W.eq (g2 := F0 m 4 ls []) rfl ?_
  refine lv_aload_n hx hb dX1_init_4 rfl (lv_at hl 0 rfl) ?_
  refine W.eq (g2 := F0 m 5 ls [.ref a]) rfl ?_
  refine lv_bipush hx hb (v := i32 60) dX1_init_5 (by decide) ?_
  refine W.eq (g2 := F0 m 7 ls [.int (i32 60), .ref a]) rfl ?_
  refine ct_newr (k2 := 28) (t := 7) (N' := 60) hk hI dX1_init_7 (wat_mem (i := 172) (by decide +kernel)) (hao _ (by decide)) rfl (by decide) rfl (by decide) (by decide) (Nat.le_of_ble_eq_true rfl) (Nat.le_of_ble_eq_true rfl) (Nat.le_of_ble_eq_true rfl) fun H hI => ?_
  have hI : CI w s a sz 1 (dfs 1) [dar w 28] H _ := hI
  refine W.eq (g2 := F0 m 10 ls [.ref (sz + 0), .ref a]) rfl ?_
  refine ct_put (j := 0) hk hI dX1_init_10 (by decide) (by decide) (wat_mem (i := 174) (by decide +kernel)) (cl_ty (q := 1) (by decide) 0 (by decide)) rfl rfl (Nat.le_of_ble_eq_true rfl) rfl fun H locs hI => ?_
  have hI : CI w s a sz 1 ((dfs 1).set 0 (.ref (sz + 0))) [dar w 28] H locs := hI
  refine W.eq (g2 := F0 m 13 ls []) rfl ?_
  refine lv_aload_n hx hb dX1_init_13 rfl (lv_at hl 0 rfl) ?_
  refine W.eq (g2 := F0 m 14 ls [.ref a]) rfl ?_
  refine lv_bipush hx hb (v := i32 12) dX1_init_14 (by decide) ?_
  refine W.eq (g2 := F0 m 16 ls [.int (i32 12), .ref a]) rfl ?_
  refine ct_newa (k2 := 29) (t := 0) (N' := 12) hk hI dX1_init_16 rfl (wat_mem (i := 148) (by decide +kernel)) rfl rfl (fun _ _ => Iff.rfl) (fun _ => rfl) (by decide) (by decide) (Nat.le_of_ble_eq_true rfl) (Nat.le_of_ble_eq_true rfl) (Nat.le_of_ble_eq_true rfl) fun H hI => ?_
  have hI : CI w s a sz 1 ((dfs 1).set 0 (.ref (sz + 0))) [dar w 28, dar w 29] H _ := hI
  refine W.eq (g2 := F0 m 18 ls [.ref (sz + 1), .ref a]) rfl ?_
  refine ct_put (j := 1) hk hI dX1_init_18 (by decide) (by decide) (wat_mem (i := 175) (by decide +kernel)) (cl_ty (q := 1) (by decide) 1 (by decide)) rfl rfl (Nat.le_of_ble_eq_true rfl) rfl fun H locs hI => ?_
  have hI : CI w s a sz 1 (((dfs 1).set 0 (.ref (sz + 0))).set 1 (.ref (sz + 1))) [dar w 28, dar w 29] H locs := hI
  refine W.eq (g2 := F0 m 21 ls []) rfl ?_
  refine lv_aload_n hx hb dX1_init_21 rfl (lv_at hl 0 rfl) ?_
  refine W.eq (g2 := F0 m 22 ls [.ref a]) rfl ?_
  refine lv_iconst hx hb (v := i32 1) dX1_init_22 rfl ?_
  refine W.eq (g2 := F0 m 23 ls [.int (i32 1), .ref a]) rfl ?_
  refine ct_put (j := 4) hk hI dX1_init_23 (by decide) (by decide) (wat_mem (i := 179) (by decide +kernel)) (cl_ty (q := 1) (by decide) 4 (by decide)) (narrow_i _).1 (narrow_i _).2 (Nat.le_of_ble_eq_true rfl) rfl fun H locs hI => ?_
  have hI : CI w s a sz 1 ((((dfs 1).set 0 (.ref (sz + 0))).set 1 (.ref (sz + 1))).set 4 (.int (i32 1))) [dar w 28, dar w 29] H locs := hI
  refine W.eq (g2 := F0 m 26 ls []) rfl ?_
  refine lv_aload_n hx hb dX1_init_26 rfl (lv_at hl 0 rfl) ?_
  refine W.eq (g2 := F0 m 27 ls [.ref a]) rfl ?_
  refine lv_sipush hx hb (v := i32 200) dX1_init_27 (by decide) ?_
  refine W.eq (g2 := F0 m 30 ls [.int (i32 200), .ref a]) rfl ?_
  refine ct_put (j := 5) hk hI dX1_init_30 (by decide) (by decide) (wat_mem (i := 180) (by decide +kernel)) (cl_ty (q := 1) (by decide) 5 (by decide)) (narrow_i _).1 (narrow_i _).2 (Nat.le_of_ble_eq_true rfl) rfl fun H locs hI => ?_
  have hI : CI w s a sz 1 (((((dfs 1).set 0 (.ref (sz + 0))).set 1 (.ref (sz + 1))).set 4 (.int (i32 1))).set 5 (.int (i32 200))) [dar w 28, dar w 29] H locs := hI
  refine W.eq (g2 := F0 m 33 ls []) rfl ?_
  exact ct_end (T := trX1_init w sz []) hk hr hlk hI dX1_init_33 (Nat.le_of_ble_eq_true rfl) (Nat.le_of_ble_eq_true rfl)
theorem dX9_init_0 : decode cX9_init 0 = .ok (.aload_n 0, 1) := by decide +kernel
theorem dX9_init_1 : decode cX9_init 1 = .ok (.invokespecial 3, 3) := by decide +kernel
theorem dX9_init_4 : decode cX9_init 4 = .ok (.aload_n 0, 1) := by decide +kernel
theorem dX9_init_5 : decode cX9_init 5 = .ok (.bipush 16, 2) := by decide +kernel
theorem dX9_init_7 : decode cX9_init 7 = .ok (.anewarray 9, 3) := by decide +kernel
theorem dX9_init_10 : decode cX9_init 10 = .ok (.putfield 11, 3) := by decide +kernel
theorem dX9_init_13 : decode cX9_init 13 = .ok (.aload_n 0, 1) := by decide +kernel
theorem dX9_init_14 : decode cX9_init 14 = .ok (.bipush 12, 2) := by decide +kernel
theorem dX9_init_16 : decode cX9_init 16 = .ok (.newarray .boolean, 2) := by decide +kernel
theorem dX9_init_18 : decode cX9_init 18 = .ok (.putfield 17, 3) := by decide +kernel
theorem dX9_init_21 : decode cX9_init 21 = .ok (.return_, 1) := by decide +kernel
def trX9_init : Wd → Nat → List Int → Tr := fun w sz xs => ((((dfs 9).set 0 (.ref (sz + 0))).set 1 (.ref (sz + 1))), [dar w 22, dar w 23])
set_option maxRecDepth 100000 in
theorem ctX9_init : CT 9 yX9_init cX9_init 1 0 1 12 28 [RX8] trX9_init := by
  refine ct_of (own := "Floatparade$Town") (by decide) rfl rfl ?_
  intro l w sz a xs hxs p e s m below meth c hk hr hlk hao hI
  obtain rfl := List.length_eq_zero_iff.mp hxs
  have hl := lv_entry [Value.ref a] (n := 1) (Nat.le_of_ble_eq_true rfl)
  rw [lg_entry_eq]
  generalize hls : (lg_sl (Value.ref a :: List.map (fun v => Value.int (i32 v)) []) ++ List.replicate (1 - (lg_sl (Value.ref a :: List.map (fun v => Value.int (i32 v)) [])).length) Slot.unset).toArray = ls
  have hl : lv_has ls 1 [(0, .ref a)] := by rw [← hls]; exact hl
  obtain ⟨hx, hb, hml, hown, hkw, hin⟩ := id hk
  have hT := hkw.2.1
  refine lv_aload_n hx hb dX9_init_0 rfl (lv_at hl 0 rfl) ?_
  refine W.eq (g2 := F0 m 1 ls [.ref a]) rfl ?_
  refine W.objInit hx hb hown (hT.at (wat_mem (i := 108) (by decide +kernel)) _) (hT.at oiI _) (hT.at oiC _) rfl (hl.1.trans hml.symm) rfl dX9_init_1 (Nat.le_of_ble_eq_true rfl) (Nat.le_of_ble_eq_true rfl) ?_
  refine W.eq (g2 := F0 m 4 ls []) rfl ?_
  refine lv_aload_n hx hb dX9_init_4 rfl (lv_at hl 0 rfl) ?_
  refine W.eq (g2 := F0 m 5 ls [.ref a]) rfl ?_
  refine lv_bipush hx hb (v := i32 16) dX9_init_5 (by decide) ?_
  refine W.eq (g2 := F0 m 7 ls [.int (i32 16), .ref a]) rfl ?_
  refine ct_newr (k2 := 22) (t := 6) (N' := 16) hk hI dX9_init_7 (wat_mem (i := 109) (by decide +kernel)) (hao _ (by decide)) rfl (by decide) rfl (by decide) (by decide) (Nat.le_of_ble_eq_true rfl) (Nat.le_of_ble_eq_true rfl) (Nat.le_of_ble_eq_true rfl) fun H hI => ?_
  have hI : CI w s a sz 9 (dfs 9) [dar w 22] H _ := hI
  refine W.eq (g2 := F0 m 10 ls [.ref (sz + 0), .ref a]) rfl ?_
  refine ct_put (j := 0) hk hI dX9_init_10 (by decide) (by decide) (wat_mem (i := 111) (by decide +kernel)) (cl_ty (q := 9) (by decide) 0 (by decide)) rfl rfl (Nat.le_of_ble_eq_true rfl) rfl fun H locs hI => ?_
  have hI : CI w s a sz 9 ((dfs 9).set 0 (.ref (sz + 0))) [dar w 22] H locs := hI
  refine W.eq (g2 := F0 m 13 ls []) rfl ?_
  refine lv_aload_n hx hb dX9_init_13 rfl (lv_at hl 0 rfl) ?_
  refine W.eq (g2 := F0 m 14 ls [.ref a]) rfl ?_
  refine lv_bipush hx hb (v := i32 12) dX9_init_14 (by decide) ?_
  refine W.eq (g2 := F0 m 16 ls [.int (i32 12), .ref a]) rfl ?_
  refine ct_newa (k2 := 23) (t := 1) (N' := 12) hk hI dX9_init_16 rfl (wat_mem (i := 121) (by decide +kernel)) rfl rfl (fun _ _ => Iff.rfl) (fun _ => rfl) (by decide) (by decide) (Nat.le_of_ble_eq_true rfl) (Nat.le_of_ble_eq_true rfl) (Nat.le_of_ble_eq_true rfl) fun H hI => ?_
  have hI : CI w s a sz 9 ((dfs 9).set 0 (.ref (sz + 0))) [dar w 22, dar w 23] H _ := hI
  refine W.eq (g2 := F0 m 18 ls [.ref (sz + 1), .ref a]) rfl ?_
  refine ct_put (j := 1) hk hI dX9_init_18 (by decide) (by decide) (wat_mem (i := 112) (by decide +kernel)) (cl_ty (q := 9) (by decide) 1 (by decide)) rfl rfl (Nat.le_of_ble_eq_true rfl) rfl fun H locs hI => ?_
  have hI : CI w s a sz 9 (((dfs 9).set 0 (.ref (sz + 0))).set 1 (.ref (sz + 1))) [dar w 22, dar w 23] H locs := hI
  refine W.eq (g2 := F0 m 21 ls []) rfl ?_
  exact ct_end (T := trX9_init w sz []) hk hr hlk hI dX9_init_21 (Nat.le_of_ble_eq_true rfl) (Nat.le_of_ble_eq_true rfl)
theorem dX0_init_0 : decode cX0_init 0 = .ok (.aload_n 0, 1) := by decide +kernel
theorem dX0_init_1 : decode cX0_init 1 = .ok (.invokespecial 3, 3) := by decide +kernel
theorem dX0_init_4 : decode cX0_init 4 = .ok (.aload_n 0, 1) := by decide +kernel
theorem dX0_init_5 : decode cX0_init 5 = .ok (.new 9, 3) := by decide +kernel
theorem dX0_init_8 : decode cX0_init 8 = .ok (.dup, 1) := by decide +kernel
theorem dX0_init_9 : decode cX0_init 9 = .ok (.invokespecial 11, 3) := by decide +kernel
theorem dX0_init_12 : decode cX0_init 12 = .ok (.putfield 12, 3) := by decide +kernel
theorem dX0_init_15 : decode cX0_init 15 = .ok (.aload_n 0, 1) := by decide +kernel
theorem dX0_init_16 : decode cX0_init 16 = .ok (.new 18, 3) := by decide +kernel
theorem dX0_init_19 : decode cX0_init 19 = .ok (.dup, 1) := by decide +kernel
theorem dX0_init_20 : decode cX0_init 20 = .ok (.invokespecial 20, 3) := by decide +kernel
theorem dX0_init_23 : decode cX0_init 23 = .ok (.putfield 21, 3) := by decide +kernel
theorem dX0_init_26 : decode cX0_init 26 = .ok (.aload_n 0, 1) := by decide +kernel
theorem dX0_init_27 : decode cX0_init 27 = .ok (.new 18, 3) := by decide +kernel
theorem dX0_init_30 : decode cX0_init 30 = .ok (.dup, 1) := by decide +kernel
theorem dX0_init_31 : decode cX0_init 31 = .ok (.invokespecial 20, 3) := by decide +kernel
theorem dX0_init_34 : decode cX0_init 34 = .ok (.putfield 25, 3) := by decide +kernel
theorem dX0_init_37 : decode cX0_init 37 = .ok (.aload_n 0, 1) := by decide +kernel
theorem dX0_init_38 : decode cX0_init 38 = .ok (.new 28, 3) := by decide +kernel
theorem dX0_init_41 : decode cX0_init 41 = .ok (.dup, 1) := by decide +kernel
theorem dX0_init_42 : decode cX0_init 42 = .ok (.invokespecial 30, 3) := by decide +kernel
theorem dX0_init_45 : decode cX0_init 45 = .ok (.putfield 31, 3) := by decide +kernel
theorem dX0_init_48 : decode cX0_init 48 = .ok (.aload_n 0, 1) := by decide +kernel
theorem dX0_init_49 : decode cX0_init 49 = .ok (.iconst (-1), 1) := by decide +kernel
theorem dX0_init_50 : decode cX0_init 50 = .ok (.putfield 35, 3) := by decide +kernel
theorem dX0_init_53 : decode cX0_init 53 = .ok (.aload_n 0, 1) := by decide +kernel
theorem dX0_init_54 : decode cX0_init 54 = .ok (.iload_n 1, 1) := by decide +kernel
theorem dX0_init_55 : decode cX0_init 55 = .ok (.putfield 39, 3) := by decide +kernel
theorem dX0_init_58 : decode cX0_init 58 = .ok (.return_, 1) := by decide +kernel
def trX0_init : Wd → Nat → List Int → Tr := fun w sz xs => ((((((((dfs 0).set 1 (.ref (sz + 0))).set 2 (.ref (sz + 4))).set 3 (.ref (sz + 6))).set 4 (.ref (sz + 8))).set 5 (.int (i32 (-1)))).set 0 (.int (i32 (xs.getD 0 0)))), [.inr (3, (trX3_init w (sz + 1) []).1), dar w 24, dar w 25, dar w 26, .inr (4, (trX4_init w (sz + 5) []).1), dar w 27, .inr (4, (trX4_init w (sz + 7) []).1), dar w 27, .inr (1, (trX1_init w (sz + 9) []).1), dar w 28, dar w 29])
set_option maxRecDepth 100000 in
theorem ctX0_init : CT 0 yX0_init cX0_init 2 1 2 32 138 [RX8, RX6, RX2] trX0_init := by
  refine ct_of (own := "Floatparade$League") (by decide) rfl rfl ?_
  intro l w sz a xs hxs p e s m below meth c hk hr hlk hao hI
  obtain ⟨x1, rfl⟩ := len_1 hxs
  have hl := lv_entry [Value.ref a, .int (i32 x1)] (n := 2) (Nat.le_of_ble_eq_true rfl)
  rw [lg_entry_eq]
  generalize hls : (lg_sl (Value.ref a :: List.map (fun v => Value.int (i32 v)) [x1]) ++ List.replicate (2 - (lg_sl (Value.ref a :: List.map (fun v => Value.int (i32 v)) [x1])).length) Slot.unset).toArray = ls
  have hl : lv_has ls 2 [(0, .ref a), (1, .int (i32 x1))] := by rw [← hls]; exact hl
  obtain ⟨hx, hb, hml, hown, hkw, hin⟩ := id hk
  have hT := hkw.2.1
  refine lv_aload_n hx hb dX0_init_0 rfl (lv_at hl 0 rfl) ?_
  refine W.eq (g2 := F0 m 1 ls [.ref a]) rfl ?_
  refine W.objInit hx hb hown (hT.at (wat_mem (i := 126) (by decide +kernel)) _) (hT.at oiI _) (hT.at oiC _) rfl (hl.1.trans hml.symm) rfl dX0_init_1 (Nat.le_of_ble_eq_true rfl) (Nat.le_of_ble_eq_true rfl) ?_
  refine W.eq (g2 := F0 m 4 ls []) rfl ?_
  refine lv_aload_n hx hb dX0_init_4 rfl (lv_at hl 0 rfl) ?_
  refine W.eq (g2 := F0 m 5 ls [.ref a]) rfl ?_
  refine ct_new (k2 := 3) hk hI dX0_init_5 (by decide) (wat_mem (i := 127) (by decide +kernel)) (wat_mem (i := 128) (by decide +kernel)) (wat_mem (i := 73) (by decide +kernel)) (Nat.le_of_ble_eq_true rfl) (Nat.le_of_ble_eq_true rfl) fun H hI => ?_
  have hI : CI w s a sz 0 (dfs 0) [.inr (3, dfs 3)] H _ := hI
  refine W.eq (g2 := F0 m 8 ls [.ref (sz + 0), .ref a]) rfl ?_
  refine lv_dup hx hb dX0_init_8 rfl ?_
  refine W.eq (g2 := F0 m 9 ls [.ref (sz + 0), .ref (sz + 0), .ref a]) rfl ?_
  refine ct_callN (k2 := 3) (vs := []) (xs := []) (rest := []) hk ctX3_init hI dX0_init_9 hl.1 rfl rfl (fun C hC => hao C (by first | exact List.mem_of_mem_tail hC | (revert C; decide))) (wat_mem (i := 129) (by decide +kernel)) (wat_mem (i := 131) (by decide +kernel)) (wat_mem (i := 73) (by decide +kernel)) (wat_mem (i := 130) (by decide +kernel)) rfl (by decide) (by decide +kernel) (Nat.le_of_ble_eq_true rfl) (Nat.le_of_ble_eq_true rfl) (Nat.le_of_ble_eq_true rfl) (Nat.le_of_ble_eq_true rfl) (Nat.le_of_ble_eq_true rfl) fun H locs hI => ?_
  have hI : CI w s a sz 0 (dfs 0) [.inr (3, (trX3_init w (sz + 1) []).1), dar w 24, dar w 25, dar w 26] H locs := hI
  refine W.eq (g2 := F0 m 12 ls [.ref (sz + 0), .ref a]) rfl ?_
  refine ct_put (j := 1) hk hI dX0_init_12 (by decide) (by decide) (wat_mem (i := 205) (by decide +kernel)) (cl_ty (q := 0) (by decide) 1 (by decide)) rfl rfl (Nat.le_of_ble_eq_true rfl) rfl fun H locs hI => ?_
  have hI : CI w s a sz 0 ((dfs 0).set 1 (.ref (sz + 0))) [.inr (3, (trX3_init w (sz + 1) []).1), dar w 24, dar w 25, dar w 26] H locs := hI
  refine W.eq (g2 := F0 m 15 ls []) rfl ?_
  refine lv_aload_n hx hb dX0_init_15 rfl (lv_at hl 0 rfl) ?_
  refine W.eq (g2 := F0 m 16 ls [.ref a]) rfl ?_
  refine ct_new (k2 := 4) hk hI dX0_init_16 (by decide) (wat_mem (i := 149) (by decide +kernel)) (wat_mem (i := 150) (by decide +kernel)) (wat_mem (i := 74) (by decide +kernel)) (Nat.le_of_ble_eq_true rfl) (Nat.le_of_ble_eq_true rfl) fun H hI => ?_
  have hI : CI w s a sz 0 ((dfs 0).set 1 (.ref (sz + 0))) [.inr (3, (trX3_init w (sz + 1) []).1), dar w 24, dar w 25, dar w 26, .inr (4, dfs 4)] H _ := hI
  refine W.eq (g2 := F0 m 19 ls [.ref (sz + 4), .ref a]) rfl ?_
  refine lv_dup hx hb dX0_init_19 rfl ?_
  refine W.eq (g2 := F0 m 20 ls [.ref (sz + 4), .ref (sz + 4), .ref a]) rfl ?_
  refine ct_callN (k2 := 4) (vs := []) (xs := []) (rest := [.inr (3, (trX3_init w (sz + 1) []).1), dar w 24, dar w 25, dar w 26]) hk ctX4_init hI dX0_init_20 hl.1 rfl rfl (fun C hC => hao C (by first | exact List.mem_of_mem_tail hC | (revert C; decide))) (wat_mem (i := 151) (by decide +kernel)) (wat_mem (i := 153) (by decide +kernel)) (wat_mem (i := 74) (by decide +kernel)) (wat_mem (i := 152) (by decide +kernel)) rfl (by decide) (by decide +kernel) (Nat.le_of_ble_eq_true rfl) (Nat.le_of_ble_eq_true rfl) (Nat.le_of_ble_eq_true rfl) (Nat.le_of_ble_eq_true rfl) (Nat.le_of_ble_eq_true rfl) fun H locs hI => ?_
  have hI : CI w s a sz 0 ((dfs 0).set 1 (.ref (sz + 0))) [.inr (3, (trX3_init w (sz + 1) []).1), dar w 24, dar w 25, dar w 26, .inr (4, (trX4_init w (sz + 5) []).1), dar w 27] H locs := hI
  refine W.eq (g2 := F0 m 23 ls [.ref (sz + 4), .ref a]) rfl ?_
  refine ct_put (j := 2) hk hI dX0_init_23 (by decide) (by decide) (wat_mem (i := 207) (by decide +kernel)) (cl_ty (q := 0) (by decide) 2 (by decide)) rfl rfl (Nat.le_of_ble_eq_true rfl) rfl fun H locs hI => ?_
  have hI : CI w s a sz 0 (((dfs 0).set 1 (.ref (sz + 0))).set 2 (.ref (sz + 4))) [.inr (3, (trX3_init w (sz + 1) []).1), dar w 24, dar w 25, dar w 26, .inr (4, (trX4_init w (sz + 5) []).1), dar w 27] H locs := hI
  refine W.eq (g2 := F0 m 26 ls []) rfl ?_
  refine lv_aload_n hx hb dX0_init_26 rfl (lv_at hl 0 rfl) ?_
  refine W.eq (g2 := F0 m 27 ls [.ref a]) rfl ?_
  refine ct_new (k2 := 4) hk hI dX0_init_27 (by decide) (wat_mem (i := 149) (by decide +kernel)) (wat_mem (i := 150) (by decide +kernel)) (wat_mem (i := 74) (by decide +kernel)) (Nat.le_of_ble_eq_true rfl) (Nat.le_of_ble_eq_true rfl) fun H hI => ?_
  have hI : CI w s a sz 0 (((dfs 0).set 1 (.ref (sz + 0))).set 2 (.ref (sz + 4))) [.inr (3, (trX3_init w (sz + 1) []).1), dar w 24, dar w 25, dar w 26, .inr (4, (trX4_init w (sz + 5) []).1), dar w 27, .inr (4, dfs 4)] H _ := hI
  refine W.eq (g2 := F0 m 30 ls [.ref (sz + 6), .ref a]) rfl ?_
  refine lv_dup hx hb dX0_init_30 rfl ?_
  refine W.eq (g2 := F0 m 31 ls [.ref (sz + 6), .ref (sz + 6), .ref a]) rfl ?_
  refine ct_callN (k2 := 4) (vs := []) (xs := []) (rest := [.inr (3, (trX3_init w (sz + 1) []).1), dar w 24, dar w 25, dar w 26, .inr (4, (trX4_init w (sz + 5) []).1), dar w 27]) hk ctX4_init hI dX0_init_31 hl.1 rfl rfl (fun C hC => hao C (by first | exact List.mem_of_mem_tail hC | (revert C; decide))) (wat_mem (i := 151) (by decide +kernel)) (wat_mem (i := 153) (by decide +kernel)) (wat_mem (i := 74) (by decide +kernel)) (wat_mem (i := 152) (by decide +kernel)) rfl (by decide) (by decide +kernel) (Nat.le_of_ble_eq_true rfl) (Nat.le_of_ble_eq_true rfl) (Nat.le_of_ble_eq_true rfl) (Nat.le_of_ble_eq_true rfl) (Nat.le_of_ble_eq_true rfl) fun H locs hI => ?_
  have hI : CI w s a sz 0 (((dfs 0).set 1 (.ref (sz + 0))).set 2 (.ref (sz + 4))) [.inr (3, (trX3_init w (sz + 1) []).1), dar w 24, dar w 25, dar w 26, .inr (4, (trX4_init w (sz + 5) []).1), dar w 27, .inr (4, (trX4_init w (sz + 7) []).1), dar w 27] H locs := hI
  refine W.eq (g2 := F0 m 34 ls [.ref (sz + 6), .ref a]) rfl ?_
  refine ct_put (j := 3) hk hI dX0_init_34 (by decide) (by decide) (wat_mem (i := 209) (by decide +kernel)) (cl_ty (q := 0) (by decide) 3 (by decide)) rfl rfl (Nat.le_of_ble_eq_true rfl) rfl fun H locs hI => ?_
  have hI : CI w s a sz 0 ((((dfs 0).set 1 (.ref (sz + 0))).set 2 (.ref (sz + 4))).set 3 (.ref (sz + 6))) [.inr (3, (trX3_init w (sz + 1) []).1), dar w 24, dar w 25, dar w 26, .inr (4, (trX4_init w (sz + 5) []).1), dar w 27, .inr (4, (trX4_init w (sz + 7) []).1), dar w 27] H locs := hI
  refine W.eq (g2 := F0 m 37 ls []) rfl ?_
  refine lv_aload_n hx hb dX0_init_37 rfl (lv_at hl 0 rfl) ?_
  refine W.eq (g2 := F0 m 38 ls [.ref a]) rfl ?_
  refine ct_new (k2 := 1) hk hI dX0_init_38 (by decide) (wat_mem (i := 166) (by decide +kernel)) (wat_mem (i := 167) (by decide +kernel)) (wat_mem (i := 75) (by decide +kernel)) (Nat.le_of_ble_eq_true rfl) (Nat.le_of_ble_eq_true rfl) fun H hI => ?_
  have hI : CI w s a sz 0 ((((dfs 0).set 1 (.ref (sz + 0))).set 2 (.ref (sz + 4))).set 3 (.ref (sz + 6))) [.inr (3, (trX3_init w (sz + 1) []).1), dar w 24, dar w 25, dar w 26, .inr (4, (trX4_init w (sz + 5) []).1), dar w 27, .inr (4, (trX4_init w (sz + 7) []).1), dar w 27, .inr (1, dfs 1)] H _ := hI
  refine W.eq (g2 := F0 m 41 ls [.ref (sz + 8), .ref a]) rfl ?_
  refine lv_dup hx hb dX0_init_41 rfl ?_
  refine W.eq (g2 := F0 m 42 ls [.ref (sz + 8), .ref (sz + 8), .ref a]) rfl ?_
  refine ct_callN (k2 := 1) (vs := []) (xs := []) (rest := [.inr (3, (trX3_init w (sz + 1) []).1), dar w 24, dar w 25, dar w 26, .inr (4, (trX4_init w (sz + 5) []).1), dar w 27, .inr (4, (trX4_init w (sz + 7) []).1), dar w 27]) hk ctX1_init hI dX0_init_42 hl.1 rfl rfl (fun C hC => hao C (by first | exact List.mem_of_mem_tail hC | (revert C; decide))) (wat_mem (i := 168) (by decide +kernel)) (wat_mem (i := 170) (by decide +kernel)) (wat_mem (i := 75) (by decide +kernel)) (wat_mem (i := 169) (by decide +kernel)) rfl (by decide) (by decide +kernel) (Nat.le_of_ble_eq_true rfl) (Nat.le_of_ble_eq_true rfl) (Nat.le_of_ble_eq_true rfl) (Nat.le_of_ble_eq_true rfl) (Nat.le_of_ble_eq_true rfl) fun H locs hI => ?_
  have hI : CI w s a sz 0 ((((dfs 0).set 1 (.ref (sz + 0))).set 2 (.ref (sz + 4))).set 3 (.ref (sz + 6))) [.inr (3, (trX3_init w (sz + 1) []).1), dar w 24, dar w 25, dar w 26, .inr (4, (trX4_init w (sz + 5) []).1), dar w 27, .inr (4, (trX4_init w (sz + 7) []).1), dar w 27, .inr (1, (trX1_init w (sz + 9) []).1), dar w 28, dar w 29] H locs := hI
  refine W.eq (g2 := F0 m 45 ls [.ref (sz + 8), .ref a]) rfl ?_
  refine ct_put (j := 4) hk hI dX0_init_45 (by decide) (by decide) (wat_mem (i := 211) (by decide +kernel)) (cl_ty (q := 0) (by decide) 4 (by decide)) rfl rfl (Nat.le_of_ble_eq_true rfl) rfl fun H locs hI => ?_
  have hI : CI w s a sz 0 (((((dfs 0).set 1 (.ref (sz + 0))).set 2 (.ref (sz + 4))).set 3 (.ref (sz + 6))).set 4 (.ref (sz + 8))) [.inr (3, (trX3_init w (sz + 1) []).1), dar w 24, dar w 25, dar w 26, .inr (4, (trX4_init w (sz + 5) []).1), dar w 27, .inr (4, (trX4_init w (sz + 7) []).1), dar w 27, .inr (1, (trX1_init w (sz + 9) []).1), dar w 28, dar w 29] H locs := hI
  refine W.eq (g2 := F0 m 48 ls []) rfl ?_
  refine lv_aload_n hx hb dX0_init_48 rfl (lv_at hl 0 rfl) ?_
  refine W.eq (g2 := F0 m 49 ls [.ref a]) rfl ?_
  refine lv_iconst hx hb (v := i32 (-1)) dX0_init_49 rfl ?_
  refine W.eq (g2 := F0 m 50 ls [.int (i32 (-1)), .ref a]) rfl ?_
  refine ct_put (j := 5) hk hI dX0_init_50 (by decide) (by decide) (wat_mem (i := 213) (by decide +kernel)) (cl_ty (q := 0) (by decide) 5 (by decide)) (narrow_i _).1 (narrow_i _).2 (Nat.le_of_ble_eq_true rfl) rfl fun H locs hI => ?_
  have hI : CI w s a sz 0 ((((((dfs 0).set 1 (.ref (sz + 0))).set 2 (.ref (sz + 4))).set 3 (.ref (sz + 6))).set 4 (.ref (sz + 8))).set 5 (.int (i32 (-1)))) [.inr (3, (trX3_init w (sz + 1) []).1), dar w 24, dar w 25, dar w 26, .inr (4, (trX4_init w (sz + 5) []).1), dar w 27, .inr (4, (trX4_init w (sz + 7) []).1), dar w 27, .inr (1, (trX1_init w (sz + 9) []).1), dar w 28, dar w 29] H locs := hI
  refine W.eq (g2 := F0 m 53 ls []) rfl ?_
  refine lv_aload_n hx hb dX0_init_53 rfl (lv_at hl 0 rfl) ?_
  refine W.eq (g2 := F0 m 54 ls [.ref a]) rfl ?_
  refine lv_iload_n hx hb dX0_init_54 rfl (lv_at hl 1 rfl) ?_
  refine W.eq (g2 := F0 m 55 ls [.int (i32 x1), .ref a]) rfl ?_
  refine ct_put (j := 0) hk hI dX0_init_55 (by decide) (by decide) (wat_mem (i := 203) (by decide +kernel)) (cl_ty (q := 0) (by decide) 0 (by decide)) (narrow_i _).1 (narrow_i _).2 (Nat.le_of_ble_eq_true rfl) rfl fun H locs hI => ?_
  have hI : CI w s a sz 0 (((((((dfs 0).set 1 (.ref (sz + 0))).set 2 (.ref (sz + 4))).set 3 (.ref (sz + 6))).set 4 (.ref (sz + 8))).set 5 (.int (i32 (-1)))).set 0 (.int (i32 x1))) [.inr (3, (trX3_init w (sz + 1) []).1), dar w 24, dar w 25, dar w 26, .inr (4, (trX4_init w (sz + 5) []).1), dar w 27, .inr (4, (trX4_init w (sz + 7) []).1), dar w 27, .inr (1, (trX1_init w (sz + 9) []).1), dar w 28, dar w 29] H locs := hI
  refine W.eq (g2 := F0 m 58 ls []) rfl ?_
  exact ct_end (T := trX0_init w sz [x1]) hk hr hlk hI dX0_init_58 (Nat.le_of_ble_eq_true rfl) (Nat.le_of_ble_eq_true rfl)
theorem dX11_init_0 : decode cX11_init 0 = .ok (.aload_n 0, 1) := by decide +kernel
theorem dX11_init_1 : decode cX11_init 1 = .ok (.invokespecial 3, 3) := by decide +kernel
theorem dX11_init_4 : decode cX11_init 4 = .ok (.aload_n 0, 1) := by decide +kernel
theorem dX11_init_5 : decode cX11_init 5 = .ok (.bipush 10, 2) := by decide +kernel
theorem dX11_init_7 : decode cX11_init 7 = .ok (.anewarray 9, 3) := by decide +kernel
theorem dX11_init_10 : decode cX11_init 10 = .ok (.putfield 11, 3) := by decide +kernel
theorem dX11_init_13 : decode cX11_init 13 = .ok (.aload_n 0, 1) := by decide +kernel
theorem dX11_init_14 : decode cX11_init 14 = .ok (.iconst 2, 1) := by decide +kernel
theorem dX11_init_15 : decode cX11_init 15 = .ok (.anewarray 15, 3) := by decide +kernel
theorem dX11_init_18 : decode cX11_init 18 = .ok (.putfield 17, 3) := by decide +kernel
theorem dX11_init_21 : decode cX11_init 21 = .ok (.aload_n 0, 1) := by decide +kernel
theorem dX11_init_22 : decode cX11_init 22 = .ok (.new 21, 3) := by decide +kernel
theorem dX11_init_25 : decode cX11_init 25 = .ok (.dup, 1) := by decide +kernel
theorem dX11_init_26 : decode cX11_init 26 = .ok (.invokespecial 23, 3) := by decide +kernel
theorem dX11_init_29 : decode cX11_init 29 = .ok (.putfield 24, 3) := by decide +kernel
theorem dX11_init_32 : decode cX11_init 32 = .ok (.aload_n 0, 1) := by decide +kernel
theorem dX11_init_33 : decode cX11_init 33 = .ok (.iconst (-1), 1) := by decide +kernel
theorem dX11_init_34 : decode cX11_init 34 = .ok (.putfield 28, 3) := by decide +kernel
theorem dX11_init_37 : decode cX11_init 37 = .ok (.iconst 0, 1) := by decide +kernel
theorem dX11_init_38 : decode cX11_init 38 = .ok (.istore_n 1, 1) := by decide +kernel
theorem dX11_init_39 : decode cX11_init 39 = .ok (.iload_n 1, 1) := by decide +kernel
theorem dX11_init_40 : decode cX11_init 40 = .ok (.aload_n 0, 1) := by decide +kernel
theorem dX11_init_41 : decode cX11_init 41 = .ok (.getfield 17, 3) := by decide +kernel
theorem dX11_init_44 : decode cX11_init 44 = .ok (.arraylength, 1) := by decide +kernel
theorem dX11_init_45 : decode cX11_init 45 = .ok (.if_icmp .ge 23, 3) := by decide +kernel
theorem dX11_init_48 : decode cX11_init 48 = .ok (.aload_n 0, 1) := by decide +kernel
theorem dX11_init_49 : decode cX11_init 49 = .ok (.getfield 17, 3) := by decide +kernel
theorem dX11_init_52 : decode cX11_init 52 = .ok (.iload_n 1, 1) := by decide +kernel
theorem dX11_init_53 : decode cX11_init 53 = .ok (.new 15, 3) := by decide +kernel
theorem dX11_init_56 : decode cX11_init 56 = .ok (.dup, 1) := by decide +kernel
theorem dX11_init_57 : decode cX11_init 57 = .ok (.iload_n 1, 1) := by decide +kernel
theorem dX11_init_58 : decode cX11_init 58 = .ok (.invokespecial 32, 3) := by decide +kernel
theorem dX11_init_61 : decode cX11_init 61 = .ok (.aastore, 1) := by decide +kernel
theorem dX11_init_62 : decode cX11_init 62 = .ok (.iinc 1 1, 3) := by decide +kernel
theorem dX11_init_65 : decode cX11_init 65 = .ok (.goto (-26), 3) := by decide +kernel
theorem dX11_init_68 : decode cX11_init 68 = .ok (.return_, 1) := by decide +kernel
def trX11_init : Wd → Nat → List Int → Tr := fun w sz xs => ((((((dfs 11).set 0 (.ref (sz + 0))).set 1 (.ref (sz + 1))).set 2 (.ref (sz + 2))).set 5 (.int (i32 (-1)))), [dar w 13, .inl (w.2.1 4, 2, .inr (.inr (.inr (.inr (va_up (va_up (fun _ => none) 0 (some (sz + 5))) 1 (some (sz + 17))))))), .inr (9, (trX9_init w (sz + 3) []).1), dar w 22, dar w 23, .inr (0, (trX0_init w (sz + 6) [0]).1), .inr (3, (trX3_init w (sz + 7) []).1), dar w 24, dar w 25, dar w 26, .inr (4, (trX4_init w (sz + 11) []).1), dar w 27, .inr (4, (trX4_init w (sz + 13) []).1), dar w 27, .inr (1, (trX1_init w (sz + 15) []).1), dar w 28, dar w 29, .inr (0, (trX0_init w (sz + 18) [1]).1), .inr (3, (trX3_init w (sz + 19) []).1), dar w 24, dar w 25, dar w 26, .inr (4, (trX4_init w (sz + 23) []).1), dar w 27, .inr (4, (trX4_init w (sz + 25) []).1), dar w 27, .inr (1, (trX1_init w (sz + 27) []).1), dar w 28, dar w 29])
set_option maxRecDepth 100000 in
theorem ctX11_init : CT 11 yX11_init cX11_init 2 0 3 53 331 [RX6, RX0, RX8, RX2] trX11_init := by
  refine ct_of (own := "Floatparade") (by decide) rfl rfl ?_
  intro l w sz a xs hxs p e s m below meth c hk hr hlk hao hI
  obtain rfl := List.length_eq_zero_iff.mp hxs
  have hl := lv_entry [Value.ref a] (n := 2) (Nat.le_of_ble_eq_true rfl)
  rw [lg_entry_eq]
  generalize hls : (lg_sl (Value.ref a :: List.map (fun v => Value.int (i32 v)) []) ++ List.replicate (2 - (lg_sl (Value.ref a :: List.map (fun v => Value.int (i32 v)) [])).length) Slot.unset).toArray = ls
  have hl : lv_has ls 2 [(0, .ref a)] := by rw [← hls]; exact hl
  obtain ⟨hx, hb, hml, hown, hkw, hin⟩ := id hk
  have hT := hkw.2.1
  refine lv_aload_n hx hb dX11_init_0 rfl (lv_at hl 0 rfl) ?_
  refine W.eq (g2 := F0 m 1 ls [.ref a]) rfl ?_
  refine W.objInit hx hb hown (hT.at (wat_mem (i := 96) (by decide +kernel)) _) (hT.at oiI _) (hT.at oiC _) rfl (hl.1.trans hml.symm) rfl dX11_init_1 (Nat.le_of_ble_eq_true rfl) (Nat.le_of_ble_eq_true rfl) ?_
  refine W.eq (g2 := F0 m 4 ls []) rfl ?_
  refine lv_aload_n hx hb dX11_init_4 rfl (lv_at hl 0 rfl) ?_
  refine W.eq (g2 := F0 m 5 ls [.ref a]) rfl ?_
  refine lv_bipush hx hb (v := i32 10) dX11_init_5 (by decide) ?_
  refine W.eq (g2 := F0 m 7 ls [.int (i32 10), .ref a]) rfl ?_
  refine ct_newr (k2 := 13) (t := 3) (N' := 10) hk hI dX11_init_7 (wat_mem (i := 99) (by decide +kernel)) (hao _ (by decide)) rfl (by decide) rfl (by decide) (by decide) (Nat.le_of_ble_eq_true rfl) (Nat.le_of_ble_eq_true rfl) (Nat.le_of_ble_eq_true rfl) fun H hI => ?_
  have hI : CI w s a sz 11 (dfs 11) [dar w 13] H _ := hI
  refine W.eq (g2 := F0 m 10 ls [.ref (sz + 0), .ref a]) rfl ?_
  refine ct_put (j := 0) hk hI dX11_init_10 (by decide) (by decide) (wat_mem (i := 227) (by decide +kernel)) (cl_ty (q := 11) (by decide) 0 (by decide)) rfl rfl (Nat.le_of_ble_eq_true rfl) rfl fun H locs hI => ?_
  have hI : CI w s a sz 11 ((dfs 11).set 0 (.ref (sz + 0))) [dar w 13] H locs := hI
  refine W.eq (g2 := F0 m 13 ls []) rfl ?_
  refine lv_aload_n hx hb dX11_init_13 rfl (lv_at hl 0 rfl) ?_
  refine W.eq (g2 := F0 m 14 ls [.ref a]) rfl ?_
  refine lv_iconst hx hb (v := i32 2) dX11_init_14 rfl ?_
  refine W.eq (g2 := F0 m 15 ls [.int (i32 2), .ref a]) rfl ?_
  refine ct_newr (k2 := 14) (t := 4) (N' := 2) hk hI dX11_init_15 (wat_mem (i := 101) (by decide +kernel)) (hao _ (by decide)) rfl (by decide) rfl (by decide) (by decide) (Nat.le_of_ble_eq_true rfl) (Nat.le_of_ble_eq_true rfl) (Nat.le_of_ble_eq_true rfl) fun H hI => ?_
  have hI : CI w s a sz 11 ((dfs 11).set 0 (.ref (sz + 0))) [dar w 13, dar w 14] H _ := hI
  refine W.eq (g2 := F0 m 18 ls [.ref (sz + 1), .ref a]) rfl ?_
  refine ct_put (j := 1) hk hI dX11_init_18 (by decide) (by decide) (wat_mem (i := 228) (by decide +kernel)) (cl_ty (q := 11) (by decide) 1 (by decide)) rfl rfl (Nat.le_of_ble_eq_true rfl) rfl fun H locs hI => ?_
  have hI : CI w s a sz 11 (((dfs 11).set 0 (.ref (sz + 0))).set 1 (.ref (sz + 1))) [dar w 13, dar w 14] H locs := hI
  refine W.eq (g2 := F0 m 21 ls []) rfl ?_
  refine lv_aload_n hx hb dX11_init_21 rfl (lv_at hl 0 rfl) ?_
  refine W.eq (g2 := F0 m 22 ls [.ref a]) rfl ?_
  refine ct_new (k2 := 9) hk hI dX11_init_22 (by decide) (wat_mem (i := 103) (by decide +kernel)) (wat_mem (i := 104) (by decide +kernel)) (wat_mem (i := 71) (by decide +kernel)) (Nat.le_of_ble_eq_true rfl) (Nat.le_of_ble_eq_true rfl) fun H hI => ?_
  have hI : CI w s a sz 11 (((dfs 11).set 0 (.ref (sz + 0))).set 1 (.ref (sz + 1))) [dar w 13, dar w 14, .inr (9, dfs 9)] H _ := hI
  refine W.eq (g2 := F0 m 25 ls [.ref (sz + 2), .ref a]) rfl ?_
  refine lv_dup hx hb dX11_init_25 rfl ?_
  refine W.eq (g2 := F0 m 26 ls [.ref (sz + 2), .ref (sz + 2), .ref a]) rfl ?_
  refine ct_callN (k2 := 9) (vs := []) (xs := []) (rest := [dar w 13, dar w 14]) hk ctX9_init hI dX11_init_26 hl.1 rfl rfl (fun C hC => hao C (by first | exact List.mem_of_mem_tail hC | (revert C; decide))) (wat_mem (i := 105) (by decide +kernel)) (wat_mem (i := 107) (by decide +kernel)) (wat_mem (i := 71) (by decide +kernel)) (wat_mem (i := 106) (by decide +kernel)) rfl (by decide) (by decide +kernel) (Nat.le_of_ble_eq_true rfl) (Nat.le_of_ble_eq_true rfl) (Nat.le_of_ble_eq_true rfl) (Nat.le_of_ble_eq_true rfl) (Nat.le_of_ble_eq_true rfl) fun H locs hI => ?_
  have hI : CI w s a sz 11 (((dfs 11).set 0 (.ref (sz + 0))).set 1 (.ref (sz + 1))) [dar w 13, dar w 14, .inr (9, (trX9_init w (sz + 3) []).1), dar w 22, dar w 23] H locs := hI
  refine W.eq (g2 := F0 m 29 ls [.ref (sz + 2), .ref a]) rfl ?_
  refine ct_put (j := 2) hk hI dX11_init_29 (by decide) (by decide) (wat_mem (i := 229) (by decide +kernel)) (cl_ty (q := 11) (by decide) 2 (by decide)) rfl rfl (Nat.le_of_ble_eq_true rfl) rfl fun H locs hI => ?_
  have hI : CI w s a sz 11 ((((dfs 11).set 0 (.ref (sz + 0))).set 1 (.ref (sz + 1))).set 2 (.ref (sz + 2))) [dar w 13, dar w 14, .inr (9, (trX9_init w (sz + 3) []).1), dar w 22, dar w 23] H locs := hI
  refine W.eq (g2 := F0 m 32 ls []) rfl ?_
  refine lv_aload_n hx hb dX11_init_32 rfl (lv_at hl 0 rfl) ?_
  refine W.eq (g2 := F0 m 33 ls [.ref a]) rfl ?_
  refine lv_iconst hx hb (v := i32 (-1)) dX11_init_33 rfl ?_
  refine W.eq (g2 := F0 m 34 ls [.int (i32 (-1)), .ref a]) rfl ?_
  refine ct_put (j := 5) hk hI dX11_init_34 (by decide) (by decide) (wat_mem (i := 232) (by decide +kernel)) (cl_ty (q := 11) (by decide) 5 (by decide)) (narrow_i _).1 (narrow_i _).2 (Nat.le_of_ble_eq_true rfl) rfl fun H locs hI => ?_
  have hI : CI w s a sz 11 (((((dfs 11).set 0 (.ref (sz + 0))).set 1 (.ref (sz + 1))).set 2 (.ref (sz + 2))).set 5 (.int (i32 (-1)))) [dar w 13, dar w 14, .inr (9, (trX9_init w (sz + 3) []).1), dar w 22, dar w 23] H locs := hI
  refine W.eq (g2 := F0 m 37 ls []) rfl ?_
  refine lv_iconst hx hb (v := i32 0) dX11_init_37 rfl ?_
  refine W.eq (g2 := F0 m 38 ls [.int (i32 0)]) rfl ?_
  refine lv_istore_n hx hb dX11_init_38 rfl hl (by decide) rfl fun ls hl => ?_
  have hl : lv_has ls 2 [(1, .int (i32 0)), (0, .ref a)] := hl
  refine W.eq (g2 := F0 m 39 ls []) rfl ?_
  refine lv_iload_n hx hb dX11_init_39 rfl (lv_at hl 0 rfl) ?_
  refine W.eq (g2 := F0 m 40 ls [.int (i32 0)]) rfl ?_
  refine lv_aload_n hx hb dX11_init_40 rfl (lv_at hl 0 rfl) ?_
  refine W.eq (g2 := F0 m 41 ls [.ref a, .int (i32 0)]) rfl ?_
  refine ct_get (j := 1) hk hI dX11_init_41 (by decide) (by decide) (wat_mem (i := 228) (by decide +kernel)) rfl ?_
  refine W.eq (g2 := F0 m 44 ls [.ref (sz + 1), .int (i32 0)]) rfl ?_
  refine ct_alen (i9 := 1) (t := 4) (v := i32 2) hk hI dX11_init_44 rfl rfl (by decide) ?_
  refine W.eq (g2 := F0 m 45 ls [.int (i32 2), .int (i32 0)]) rfl ?_
  refine lv_icmp_ge hx hb dX11_init_45 (tgt := 68) (by decide) (fun h9 => absurd h9 (by decide +kernel)) (fun _ => ?_)
  refine W.eq (g2 := F0 m 48 ls []) rfl ?_
  refine lv_aload_n hx hb dX11_init_48 rfl (lv_at hl 0 rfl) ?_
  refine W.eq (g2 := F0 m 49 ls [.ref a]) rfl ?_
  refine ct_get (j := 1) hk hI dX11_init_49 (by decide) (by decide) (wat_mem (i := 228) (by decide +kernel)) rfl ?_
  refine W.eq (g2 := F0 m 52 ls [.ref (sz + 1)]) rfl ?_
  refine lv_iload_n hx hb dX11_init_52 rfl (lv_at hl 0 rfl) ?_
  refine W.eq (g2 := F0 m 53 ls [.int (i32 0), .ref (sz + 1)]) rfl ?_
  refine ct_new (k2 := 0) hk hI dX11_init_53 (by decide) (wat_mem (i := 101) (by decide +kernel)) (wat_mem (i := 122) (by decide +kernel)) (wat_mem (i := 72) (by decide +kernel)) (Nat.le_of_ble_eq_true rfl) (Nat.le_of_ble_eq_true rfl) fun H hI => ?_
  have hI : CI w s a sz 11 (((((dfs 11).set 0 (.ref (sz + 0))).set 1 (.ref (sz + 1))).set 2 (.ref (sz + 2))).set 5 (.int (i32 (-1)))) [dar w 13, dar w 14, .inr (9, (trX9_init w (sz + 3) []).1), dar w 22, dar w 23, .inr (0, dfs 0)] H _ := hI
  refine W.eq (g2 := F0 m 56 ls [.ref (sz + 5), .int (i32 0), .ref (sz + 1)]) rfl ?_
  refine lv_dup hx hb dX11_init_56 rfl ?_
  refine W.eq (g2 := F0 m 57 ls [.ref (sz + 5), .ref (sz + 5), .int (i32 0), .ref (sz + 1)]) rfl ?_
  refine lv_iload_n hx hb dX11_init_57 rfl (lv_at hl 0 rfl) ?_
  refine W.eq (g2 := F0 m 58 ls [.int (i32 0), .ref (sz + 5), .ref (sz + 5), .int (i32 0), .ref (sz + 1)]) rfl ?_
  refine ct_call (k2 := 0) (vs := [.int (i32 0)]) (xs := [0]) (rest := [dar w 13, dar w 14, .inr (9, (trX9_init w (sz + 3) []).1), dar w 22, dar w 23]) hk ctX0_init hI dX11_init_58 hl.1 rfl rfl (fun C hC => hao C (by first | exact List.mem_of_mem_tail hC | (revert C; decide))) (wat_mem (i := 123) (by decide +kernel)) (wat_mem (i := 125) (by decide +kernel)) (wat_mem (i := 72) (by decide +kernel)) (wat_mem (i := 124) (by decide +kernel)) rfl (by decide) (by decide +kernel) (Nat.le_of_ble_eq_true rfl) (Nat.le_of_ble_eq_true rfl) (Nat.le_of_ble_eq_true rfl) (Nat.le_of_ble_eq_true rfl) (Nat.le_of_ble_eq_true rfl) fun H locs hI => ?_
  have hI : CI w s a sz 11 (((((dfs 11).set 0 (.ref (sz + 0))).set 1 (.ref (sz + 1))).set 2 (.ref (sz + 2))).set 5 (.int (i32 (-1)))) [dar w 13, dar w 14, .inr (9, (trX9_init w (sz + 3) []).1), dar w 22, dar w 23, .inr (0, (trX0_init w (sz + 6) [0]).1), .inr (3, (trX3_init w (sz + 7) []).1), dar w 24, dar w 25, dar w 26, .inr (4, (trX4_init w (sz + 11) []).1), dar w 27, .inr (4, (trX4_init w (sz + 13) []).1), dar w 27, .inr (1, (trX1_init w (sz + 15) []).1), dar w 28, dar w 29] H locs := hI
  refine W.eq (g2 := F0 m 61 ls [.ref (sz + 5), .int (i32 0), .ref (sz + 1)]) rfl ?_
  refine ct_aast (i9 := 1) (j9 := 5) (t := 4) (n := 2) (f := (fun _ => none)) hk hI dX11_init_61 (by decide) rfl rfl (by decide) fun H locs hI => ?_
  have hI : CI w s a sz 11 (((((dfs 11).set 0 (.ref (sz + 0))).set 1 (.ref (sz + 1))).set 2 (.ref (sz + 2))).set 5 (.int (i32 (-1)))) [dar w 13, .inl (w.2.1 4, 2, .inr (.inr (.inr (.inr (va_up (fun _ => none) 0 (some (sz + 5))))))), .inr (9, (trX9_init w (sz + 3) []).1), dar w 22, dar w 23, .inr (0, (trX0_init w (sz + 6) [0]).1), .inr (3, (trX3_init w (sz + 7) []).1), dar w 24, dar w 25, dar w 26, .inr (4, (trX4_init w (sz + 11) []).1), dar w 27, .inr (4, (trX4_init w (sz + 13) []).1), dar w 27, .inr (1, (trX1_init w (sz + 15) []).1), dar w 28, dar w 29] H locs := hI
  refine W.eq (g2 := F0 m 62 ls []) rfl ?_
  refine lv_iinc hx hb dX11_init_62 hl (k := 0) (v := i32 1) rfl (by decide +kernel) (by decide) rfl fun ls hl => ?_
  have hl : lv_has ls 2 [(1, .int (i32 1)), (0, .ref a)] := hl
  refine W.eq (g2 := F0 m 65 ls []) rfl ?_
  refine lv_goto hx hb dX11_init_65 (tgt := 39) (by decide) ?_
  refine W.eq (g2 := F0 m 39 ls []) rfl ?_
  refine lv_iload_n hx hb dX11_init_39 rfl (lv_at hl 0 rfl) ?_
  refine W.eq (g2 := F0 m 40 ls [.int (i32 1)]) rfl ?_
  refine lv_aload_n hx hb dX11_init_40 rfl (lv_at hl 0 rfl) ?_
  refine W.eq (g2 := F0 m 41 ls [.ref a, .int (i32 1)]) rfl ?_
  refine ct_get (j := 1) hk hI dX11_init_41 (by decide) (by decide) (wat_mem (i := 228) (by decide +kernel)) rfl ?_
  refine W.eq (g2 := F0 m 44 ls [.ref (sz + 1), .int (i32 1)]) rfl ?_
  refine ct_alen (i9 := 1) (t := 4) (v := i32 2) hk hI dX11_init_44 rfl rfl (by decide) ?_
  refine W.eq (g2 := F0 m 45 ls [.int (i32 2), .int (i32 1)]) rfl ?_
  refine lv_icmp_ge hx hb dX11_init_45 (tgt := 68) (by decide) (fun h9 => absurd h9 (by decide +kernel)) (fun _ => ?_)
  refine W.eq (g2 := F0 m 48 ls []) rfl ?_
  refine lv_aload_n hx hb dX11_init_48 rfl (lv_at hl 0 rfl) ?_
  refine W.eq (g2 := F0 m 49 ls [.ref a]) rfl ?_
  refine ct_get (j := 1) hk hI dX11_init_49 (by decide) (by decide) (wat_mem (i := 228) (by decide +kernel)) rfl ?_
  refine W.eq (g2 := F0 m 52 ls [.ref (sz + 1)]) rfl ?_
  refine lv_iload_n hx hb dX11_init_52 rfl (lv_at hl 0 rfl) ?_
  refine W.eq (g2 := F0 m 53 ls [.int (i32 1), .ref (sz + 1)]) rfl ?_
  refine ct_new (k2 := 0) hk hI dX11_init_53 (by decide) (wat_mem (i := 101) (by decide +kernel)) (wat_mem (i := 122) (by decide +kernel)) (wat_mem (i := 72) (by decide +kernel)) (Nat.le_of_ble_eq_true rfl) (Nat.le_of_ble_eq_true rfl) fun H hI => ?_
  have hI : CI w s a sz 11 (((((dfs 11).set 0 (.ref (sz + 0))).set 1 (.ref (sz + 1))).set 2 (.ref (sz + 2))).set 5 (.int (i32 (-1)))) [dar w 13, .inl (w.2.1 4, 2, .inr (.inr (.inr (.inr (va_up (fun _ => none) 0 (some (sz + 5))))))), .inr (9, (trX9_init w (sz + 3) []).1), dar w 22, dar w 23, .inr (0, (trX0_init w (sz + 6) [0]).1), .inr (3, (trX3_init w (sz + 7) []).1), dar w 24, dar w 25, dar w 26, .inr (4, (trX4_init w (sz + 11) []).1), dar w 27, .inr (4, (trX4_init w (sz + 13) []).1), dar w 27, .inr (1, (trX1_init w (sz + 15) []).1), dar w 28, dar w 29, .inr (0, dfs 0)] H _ := hI
  refine W.eq (g2 := F0 m 56 ls [.ref (sz + 17), .int (i32 1), .ref (sz + 1)]) rfl ?_
  refine lv_dup hx hb dX11_init_56 rfl ?_
  refine W.eq (g2 := F0 m 57 ls [.ref (sz + 17), .ref (sz + 17), .int (i32 1), .ref (sz + 1)]) rfl ?_
  refine lv_iload_n hx hb dX11_init_57 rfl (lv_at hl 0 rfl) ?_
  refine W.eq (g2 := F0 m 58 ls [.int (i32 1), .ref (sz + 17), .ref (sz + 17), .int (i32 1), .ref (sz + 1)]) rfl ?_
  refine ct_call (k2 := 0) (vs := [.int (i32 1)]) (xs := [1]) (rest := [dar w 13, .inl (w.2.1 4, 2, .inr (.inr (.inr (.inr (va_up (fun _ => none) 0 (some (sz + 5))))))), .inr (9, (trX9_init w (sz + 3) []).1), dar w 22, dar w 23, .inr (0, (trX0_init w (sz + 6) [0]).1), .inr (3, (trX3_init w (sz + 7) []).1), dar w 24, dar w 25, dar w 26, .inr (4, (trX4_init w (sz + 11) []).1), dar w 27, .inr (4, (trX4_init w (sz + 13) []).1), dar w 27, .inr (1, (trX1_init w (sz + 15) []).1), dar w 28, dar w 29]) hk ctX0_init hI dX11_init_58 hl.1 rfl rfl (fun C hC => hao C (by first | exact List.mem_of_mem_tail hC | (revert C; decide))) (wat_mem (i := 123) (by decide +kernel)) (wat_mem (i := 125) (by decide +kernel)) (wat_mem (i := 72) (by decide +kernel)) (wat_mem (i := 124) (by decide +kernel)) rfl (by decide) (by decide +kernel) (Nat.le_of_ble_eq_true rfl) (Nat.le_of_ble_eq_true rfl) (Nat.le_of_ble_eq_true rfl) (Nat.le_of_ble_eq_true rfl) (Nat.le_of_ble_eq_true rfl) fun H locs hI => ?_
  have hI : CI w s a sz 11 (((((dfs 11).set 0 (.ref (sz + 0))).set 1 (.ref (sz + 1))).set 2 (.ref (sz + 2))).set 5 (.int (i32 (-1)))) [dar w 13, .inl (w.2.1 4, 2, .inr (.inr (.inr (.inr (va_up (fun _ => none) 0 (some (sz + 5))))))), .inr (9, (trX9_init w (sz + 3) []).1), dar w 22, dar w 23, .inr (0, (trX0_init w (sz + 6) [0]).1), .inr (3, (trX3_init w (sz + 7) []).1), dar w 24, dar w 25, dar w 26, .inr (4, (trX4_init w (sz + 11) []).1), dar w 27, .inr (4, (trX4_init w (sz + 13) []).1), dar w 27, .inr (1, (trX1_init w (sz + 15) []).1), dar w 28, dar w 29, .inr (0, (trX0_init w (sz + 18) [1]).1), .inr (3, (trX3_init w (sz + 19) []).1), dar w 24, dar w 25, dar w 26, .inr (4, (trX4_init w (sz + 23) []).1), dar w 27, .inr (4, (trX4_init w (sz + 25) []).1), dar w 27, .inr (1, (trX1_init w (sz + 27) []).1), dar w 28, dar w 29] H locs := hI
  refine W.eq (g2 := F0 m 61 ls [.ref (sz + 17), .int (i32 1), .ref (sz + 1)]) rfl ?_
  refine ct_aast (i9 := 1) (j9 := 17) (t := 4) (n := 2) (f := (va_up (fun _ => none) 0 (some (sz + 5)))) hk hI dX11_init_61 (by decide) rfl rfl (by decide) fun H locs hI => ?_
  have hI : CI w s a sz 11 (((((dfs 11).set 0 (.ref (sz + 0))).set 1 (.ref (sz + 1))).set 2 (.ref (sz + 2))).set 5 (.int (i32 (-1)))) [dar w 13, .inl (w.2.1 4, 2, .inr (.inr (.inr (.inr (va_up (va_up (fun _ => none) 0 (some (sz + 5))) 1 (some (sz + 17))))))), .inr (9, (trX9_init w (sz + 3) []).1), dar w 22, dar w 23, .inr (0, (trX0_init w (sz + 6) [0]).1), .inr (3, (trX3_init w (sz + 7) []).1), dar w 24, dar w 25, dar w 26, .inr (4, (trX4_init w (sz + 11) []).1), dar w 27, .inr (4, (trX4_init w (sz + 13) []).1), dar w 27, .inr (1, (trX1_init w (sz + 15) []).1), dar w 28, dar w 29, .inr (0, (trX0_init w (sz + 18) [1]).1), .inr (3, (trX3_init w (sz + 19) []).1), dar w 24, dar w 25, dar w 26, .inr (4, (trX4_init w (sz + 23) []).1), dar w 27, .inr (4, (trX4_init w (sz + 25) []).1), dar w 27, .inr (1, (trX1_init w (sz + 27) []).1), dar w 28, dar w 29] H locs := hI
  refine W.eq (g2 := F0 m 62 ls []) rfl ?_
  refine lv_iinc hx hb dX11_init_62 hl (k := 0) (v := i32 2) rfl (by decide +kernel) (by decide) rfl fun ls hl => ?_
  have hl : lv_has ls 2 [(1, .int (i32 2)), (0, .ref a)] := hl
  refine W.eq (g2 := F0 m 65 ls []) rfl ?_
  refine lv_goto hx hb dX11_init_65 (tgt := 39) (by decide) ?_
  refine W.eq (g2 := F0 m 39 ls []) rfl ?_
  refine lv_iload_n hx hb dX11_init_39 rfl (lv_at hl 0 rfl) ?_
  refine W.eq (g2 := F0 m 40 ls [.int (i32 2)]) rfl ?_
  refine lv_aload_n hx hb dX11_init_40 rfl (lv_at hl 0 rfl) ?_
  refine W.eq (g2 := F0 m 41 ls [.ref a, .int (i32 2)]) rfl ?_
  refine ct_get (j := 1) hk hI dX11_init_41 (by decide) (by decide) (wat_mem (i := 228) (by decide +kernel)) rfl ?_
  refine W.eq (g2 := F0 m 44 ls [.ref (sz + 1), .int (i32 2)]) rfl ?_
  refine ct_alen (i9 := 1) (t := 4) (v := i32 2) hk hI dX11_init_44 rfl rfl (by decide) ?_
  refine W.eq (g2 := F0 m 45 ls [.int (i32 2), .int (i32 2)]) rfl ?_
  refine lv_icmp_ge hx hb dX11_init_45 (tgt := 68) (by decide) (fun _ => ?_) (fun h9 => absurd (by decide +kernel) h9)
  refine W.eq (g2 := F0 m 68 ls []) rfl ?_
  exact ct_end (T := trX11_init w sz []) hk hr hlk hI dX11_init_68 (Nat.le_of_ble_eq_true rfl) (Nat.le_of_ble_eq_true rfl)
theorem dX12_init_0 : decode cX12_init 0 = .ok (.aload_n 0, 1) := by decide +kernel
theorem dX12_init_1 : decode cX12_init 1 = .ok (.invokespecial 1, 3) := by decide +kernel
theorem dX12_init_4 : decode cX12_init 4 = .ok (.aload_n 0, 1) := by decide +kernel
theorem dX12_init_5 : decode cX12_init 5 = .ok (.bipush 10, 2) := by decide +kernel
theorem dX12_init_7 : decode cX12_init 7 = .ok (.newarray .int, 2) := by decide +kernel
theorem dX12_init_9 : decode cX12_init 9 = .ok (.putfield 7, 3) := by decide +kernel
theorem dX12_init_12 : decode cX12_init 12 = .ok (.aload_n 0, 1) := by decide +kernel
theorem dX12_init_13 : decode cX12_init 13 = .ok (.bipush 10, 2) := by decide +kernel
theorem dX12_init_15 : decode cX12_init 15 = .ok (.newarray .int, 2) := by decide +kernel
theorem dX12_init_17 : decode cX12_init 17 = .ok (.putfield 13, 3) := by decide +kernel
theorem dX12_init_20 : decode cX12_init 20 = .ok (.aload_n 0, 1) := by decide +kernel
theorem dX12_init_21 : decode cX12_init 21 = .ok (.bipush 10, 2) := by decide +kernel
theorem dX12_init_23 : decode cX12_init 23 = .ok (.newarray .int, 2) := by decide +kernel
theorem dX12_init_25 : decode cX12_init 25 = .ok (.putfield 16, 3) := by decide +kernel
theorem dX12_init_28 : decode cX12_init 28 = .ok (.aload_n 0, 1) := by decide +kernel
theorem dX12_init_29 : decode cX12_init 29 = .ok (.bipush 100, 2) := by decide +kernel
theorem dX12_init_31 : decode cX12_init 31 = .ok (.newarray .boolean, 2) := by decide +kernel
theorem dX12_init_33 : decode cX12_init 33 = .ok (.putfield 19, 3) := by decide +kernel
theorem dX12_init_36 : decode cX12_init 36 = .ok (.aload_n 0, 1) := by decide +kernel
theorem dX12_init_37 : decode cX12_init 37 = .ok (.bipush 10, 2) := by decide +kernel
theorem dX12_init_39 : decode cX12_init 39 = .ok (.newarray .int, 2) := by decide +kernel
theorem dX12_init_41 : decode cX12_init 41 = .ok (.putfield 23, 3) := by decide +kernel
theorem dX12_init_44 : decode cX12_init 44 = .ok (.aload_n 0, 1) := by decide +kernel
theorem dX12_init_45 : decode cX12_init 45 = .ok (.bipush 10, 2) := by decide +kernel
theorem dX12_init_47 : decode cX12_init 47 = .ok (.newarray .int, 2) := by decide +kernel
theorem dX12_init_49 : decode cX12_init 49 = .ok (.putfield 26, 3) := by decide +kernel
theorem dX12_init_52 : decode cX12_init 52 = .ok (.aload_n 0, 1) := by decide +kernel
theorem dX12_init_53 : decode cX12_init 53 = .ok (.bipush 10, 2) := by decide +kernel
theorem dX12_init_55 : decode cX12_init 55 = .ok (.newarray .int, 2) := by decide +kernel
theorem dX12_init_57 : decode cX12_init 57 = .ok (.putfield 29, 3) := by decide +kernel
theorem dX12_init_60 : decode cX12_init 60 = .ok (.aload_n 0, 1) := by decide +kernel
theorem dX12_init_61 : decode cX12_init 61 = .ok (.bipush 10, 2) := by decide +kernel
theorem dX12_init_63 : decode cX12_init 63 = .ok (.newarray .int, 2) := by decide +kernel
theorem dX12_init_65 : decode cX12_init 65 = .ok (.putfield 32, 3) := by decide +kernel
theorem dX12_init_68 : decode cX12_init 68 = .ok (.aload_n 0, 1) := by decide +kernel
theorem dX12_init_69 : decode cX12_init 69 = .ok (.bipush 10, 2) := by decide +kernel
theorem dX12_init_71 : decode cX12_init 71 = .ok (.newarray .boolean, 2) := by decide +kernel
theorem dX12_init_73 : decode cX12_init 73 = .ok (.putfield 35, 3) := by decide +kernel
theorem dX12_init_76 : decode cX12_init 76 = .ok (.aload_n 0, 1) := by decide +kernel
theorem dX12_init_77 : decode cX12_init 77 = .ok (.bipush 60, 2) := by decide +kernel
theorem dX12_init_79 : decode cX12_init 79 = .ok (.newarray .int, 2) := by decide +kernel
theorem dX12_init_81 : decode cX12_init 81 = .ok (.putfield 38, 3) := by decide +kernel
theorem dX12_init_84 : decode cX12_init 84 = .ok (.aload_n 0, 1) := by decide +kernel
theorem dX12_init_85 : decode cX12_init 85 = .ok (.bipush 10, 2) := by decide +kernel
theorem dX12_init_87 : decode cX12_init 87 = .ok (.newarray .int, 2) := by decide +kernel
theorem dX12_init_89 : decode cX12_init 89 = .ok (.putfield 41, 3) := by decide +kernel
theorem dX12_init_92 : decode cX12_init 92 = .ok (.aload_n 0, 1) := by decide +kernel
theorem dX12_init_93 : decode cX12_init 93 = .ok (.bipush 120, 2) := by decide +kernel
theorem dX12_init_95 : decode cX12_init 95 = .ok (.newarray .int, 2) := by decide +kernel
theorem dX12_init_97 : decode cX12_init 97 = .ok (.putfield 44, 3) := by decide +kernel
theorem dX12_init_100 : decode cX12_init 100 = .ok (.aload_n 0, 1) := by decide +kernel
theorem dX12_init_101 : decode cX12_init 101 = .ok (.bipush 16, 2) := by decide +kernel
theorem dX12_init_103 : decode cX12_init 103 = .ok (.newarray .int, 2) := by decide +kernel
theorem dX12_init_105 : decode cX12_init 105 = .ok (.putfield 47, 3) := by decide +kernel
theorem dX12_init_108 : decode cX12_init 108 = .ok (.aload_n 0, 1) := by decide +kernel
theorem dX12_init_109 : decode cX12_init 109 = .ok (.bipush 16, 2) := by decide +kernel
theorem dX12_init_111 : decode cX12_init 111 = .ok (.newarray .int, 2) := by decide +kernel
theorem dX12_init_113 : decode cX12_init 113 = .ok (.putfield 50, 3) := by decide +kernel
theorem dX12_init_116 : decode cX12_init 116 = .ok (.aload_n 0, 1) := by decide +kernel
theorem dX12_init_117 : decode cX12_init 117 = .ok (.bipush 16, 2) := by decide +kernel
theorem dX12_init_119 : decode cX12_init 119 = .ok (.newarray .int, 2) := by decide +kernel
theorem dX12_init_121 : decode cX12_init 121 = .ok (.putfield 53, 3) := by decide +kernel
theorem dX12_init_124 : decode cX12_init 124 = .ok (.aload_n 0, 1) := by decide +kernel
theorem dX12_init_125 : decode cX12_init 125 = .ok (.bipush 16, 2) := by decide +kernel
theorem dX12_init_127 : decode cX12_init 127 = .ok (.newarray .int, 2) := by decide +kernel
theorem dX12_init_129 : decode cX12_init 129 = .ok (.putfield 56, 3) := by decide +kernel
theorem dX12_init_132 : decode cX12_init 132 = .ok (.aload_n 0, 1) := by decide +kernel
theorem dX12_init_133 : decode cX12_init 133 = .ok (.bipush 16, 2) := by decide +kernel
theorem dX12_init_135 : decode cX12_init 135 = .ok (.newarray .int, 2) := by decide +kernel
theorem dX12_init_137 : decode cX12_init 137 = .ok (.putfield 59, 3) := by decide +kernel
theorem dX12_init_140 : decode cX12_init 140 = .ok (.aload_n 0, 1) := by decide +kernel
theorem dX12_init_141 : decode cX12_init 141 = .ok (.bipush 16, 2) := by decide +kernel
theorem dX12_init_143 : decode cX12_init 143 = .ok (.newarray .int, 2) := by decide +kernel
theorem dX12_init_145 : decode cX12_init 145 = .ok (.putfield 62, 3) := by decide +kernel
theorem dX12_init_148 : decode cX12_init 148 = .ok (.aload_n 0, 1) := by decide +kernel
theorem dX12_init_149 : decode cX12_init 149 = .ok (.iconst 2, 1) := by decide +kernel
theorem dX12_init_150 : decode cX12_init 150 = .ok (.newarray .int, 2) := by decide +kernel
theorem dX12_init_152 : decode cX12_init 152 = .ok (.putfield 65, 3) := by decide +kernel
theorem dX12_init_155 : decode cX12_init 155 = .ok (.aload_n 0, 1) := by decide +kernel
theorem dX12_init_156 : decode cX12_init 156 = .ok (.bipush 20, 2) := by decide +kernel
theorem dX12_init_158 : decode cX12_init 158 = .ok (.newarray .int, 2) := by decide +kernel
theorem dX12_init_160 : decode cX12_init 160 = .ok (.putfield 68, 3) := by decide +kernel
theorem dX12_init_163 : decode cX12_init 163 = .ok (.aload_n 0, 1) := by decide +kernel
theorem dX12_init_164 : decode cX12_init 164 = .ok (.bipush 12, 2) := by decide +kernel
theorem dX12_init_166 : decode cX12_init 166 = .ok (.newarray .boolean, 2) := by decide +kernel
theorem dX12_init_168 : decode cX12_init 168 = .ok (.putfield 71, 3) := by decide +kernel
theorem dX12_init_171 : decode cX12_init 171 = .ok (.aload_n 0, 1) := by decide +kernel
theorem dX12_init_172 : decode cX12_init 172 = .ok (.bipush 10, 2) := by decide +kernel
theorem dX12_init_174 : decode cX12_init 174 = .ok (.newarray .boolean, 2) := by decide +kernel
theorem dX12_init_176 : decode cX12_init 176 = .ok (.putfield 74, 3) := by decide +kernel
theorem dX12_init_179 : decode cX12_init 179 = .ok (.aload_n 0, 1) := by decide +kernel
theorem dX12_init_180 : decode cX12_init 180 = .ok (.bipush 10, 2) := by decide +kernel
theorem dX12_init_182 : decode cX12_init 182 = .ok (.newarray .int, 2) := by decide +kernel
theorem dX12_init_184 : decode cX12_init 184 = .ok (.putfield 77, 3) := by decide +kernel
theorem dX12_init_187 : decode cX12_init 187 = .ok (.aload_n 0, 1) := by decide +kernel
theorem dX12_init_188 : decode cX12_init 188 = .ok (.iconst 2, 1) := by decide +kernel
theorem dX12_init_189 : decode cX12_init 189 = .ok (.newarray .int, 2) := by decide +kernel
theorem dX12_init_191 : decode cX12_init 191 = .ok (.putfield 80, 3) := by decide +kernel
theorem dX12_init_194 : decode cX12_init 194 = .ok (.aload_n 0, 1) := by decide +kernel
theorem dX12_init_195 : decode cX12_init 195 = .ok (.bipush 20, 2) := by decide +kernel
theorem dX12_init_197 : decode cX12_init 197 = .ok (.newarray .int, 2) := by decide +kernel
theorem dX12_init_199 : decode cX12_init 199 = .ok (.putfield 83, 3) := by decide +kernel
theorem dX12_init_202 : decode cX12_init 202 = .ok (.aload_n 0, 1) := by decide +kernel
theorem dX12_init_203 : decode cX12_init 203 = .ok (.iconst (-1), 1) := by decide +kernel
theorem dX12_init_204 : decode cX12_init 204 = .ok (.putfield 86, 3) := by decide +kernel
theorem dX12_init_207 : decode cX12_init 207 = .ok (.aload_n 0, 1) := by decide +kernel
theorem dX12_init_208 : decode cX12_init 208 = .ok (.iconst 2, 1) := by decide +kernel
theorem dX12_init_209 : decode cX12_init 209 = .ok (.newarray .int, 2) := by decide +kernel
theorem dX12_init_211 : decode cX12_init 211 = .ok (.putfield 90, 3) := by decide +kernel
theorem dX12_init_214 : decode cX12_init 214 = .ok (.aload_n 0, 1) := by decide +kernel
theorem dX12_init_215 : decode cX12_init 215 = .ok (.iconst 2, 1) := by decide +kernel
theorem dX12_init_216 : decode cX12_init 216 = .ok (.newarray .int, 2) := by decide +kernel
theorem dX12_init_218 : decode cX12_init 218 = .ok (.putfield 93, 3) := by decide +kernel
theorem dX12_init_221 : decode cX12_init 221 = .ok (.aload_n 0, 1) := by decide +kernel
theorem dX12_init_222 : decode cX12_init 222 = .ok (.iconst 2, 1) := by decide +kernel
theorem dX12_init_223 : decode cX12_init 223 = .ok (.newarray .int, 2) := by decide +kernel
theorem dX12_init_225 : decode cX12_init 225 = .ok (.putfield 96, 3) := by decide +kernel
theorem dX12_init_228 : decode cX12_init 228 = .ok (.aload_n 0, 1) := by decide +kernel
theorem dX12_init_229 : decode cX12_init 229 = .ok (.iconst 2, 1) := by decide +kernel
theorem dX12_init_230 : decode cX12_init 230 = .ok (.newarray .int, 2) := by decide +kernel
theorem dX12_init_232 : decode cX12_init 232 = .ok (.putfield 99, 3) := by decide +kernel
theorem dX12_init_235 : decode cX12_init 235 = .ok (.aload_n 0, 1) := by decide +kernel
theorem dX12_init_236 : decode cX12_init 236 = .ok (.iconst 2, 1) := by decide +kernel
theorem dX12_init_237 : decode cX12_init 237 = .ok (.newarray .int, 2) := by decide +kernel
theorem dX12_init_239 : decode cX12_init 239 = .ok (.putfield 102, 3) := by decide +kernel
theorem dX12_init_242 : decode cX12_init 242 = .ok (.aload_n 0, 1) := by decide +kernel
theorem dX12_init_243 : decode cX12_init 243 = .ok (.iconst 2, 1) := by decide +kernel
theorem dX12_init_244 : decode cX12_init 244 = .ok (.newarray .int, 2) := by decide +kernel
theorem dX12_init_246 : decode cX12_init 246 = .ok (.putfield 105, 3) := by decide +kernel
theorem dX12_init_249 : decode cX12_init 249 = .ok (.aload_n 0, 1) := by decide +kernel
theorem dX12_init_250 : decode cX12_init 250 = .ok (.bipush 120, 2) := by decide +kernel
theorem dX12_init_252 : decode cX12_init 252 = .ok (.newarray .int, 2) := by decide +kernel
theorem dX12_init_254 : decode cX12_init 254 = .ok (.putfield 108, 3) := by decide +kernel
theorem dX12_init_257 : decode cX12_init 257 = .ok (.aload_n 0, 1) := by decide +kernel
theorem dX12_init_258 : decode cX12_init 258 = .ok (.bipush 120, 2) := by decide +kernel
theorem dX12_init_260 : decode cX12_init 260 = .ok (.newarray .int, 2) := by decide +kernel
theorem dX12_init_262 : decode cX12_init 262 = .ok (.putfield 111, 3) := by decide +kernel
theorem dX12_init_265 : decode cX12_init 265 = .ok (.aload_n 0, 1) := by decide +kernel
theorem dX12_init_266 : decode cX12_init 266 = .ok (.bipush 120, 2) := by decide +kernel
theorem dX12_init_268 : decode cX12_init 268 = .ok (.newarray .int, 2) := by decide +kernel
theorem dX12_init_270 : decode cX12_init 270 = .ok (.putfield 114, 3) := by decide +kernel
theorem dX12_init_273 : decode cX12_init 273 = .ok (.aload_n 0, 1) := by decide +kernel
theorem dX12_init_274 : decode cX12_init 274 = .ok (.bipush 120, 2) := by decide +kernel
theorem dX12_init_276 : decode cX12_init 276 = .ok (.newarray .int, 2) := by decide +kernel
theorem dX12_init_278 : decode cX12_init 278 = .ok (.putfield 117, 3) := by decide +kernel
theorem dX12_init_281 : decode cX12_init 281 = .ok (.aload_n 0, 1) := by decide +kernel
theorem dX12_init_282 : decode cX12_init 282 = .ok (.bipush 120, 2) := by decide +kernel
theorem dX12_init_284 : decode cX12_init 284 = .ok (.newarray .int, 2) := by decide +kernel
theorem dX12_init_286 : decode cX12_init 286 = .ok (.putfield 120, 3) := by decide +kernel
theorem dX12_init_289 : decode cX12_init 289 = .ok (.aload_n 0, 1) := by decide +kernel
theorem dX12_init_290 : decode cX12_init 290 = .ok (.bipush 120, 2) := by decide +kernel
theorem dX12_init_292 : decode cX12_init 292 = .ok (.newarray .boolean, 2) := by decide +kernel
theorem dX12_init_294 : decode cX12_init 294 = .ok (.putfield 123, 3) := by decide +kernel
theorem dX12_init_297 : decode cX12_init 297 = .ok (.aload_n 0, 1) := by decide +kernel
theorem dX12_init_298 : decode cX12_init 298 = .ok (.bipush 24, 2) := by decide +kernel
theorem dX12_init_300 : decode cX12_init 300 = .ok (.newarray .int, 2) := by decide +kernel
theorem dX12_init_302 : decode cX12_init 302 = .ok (.putfield 126, 3) := by decide +kernel
theorem dX12_init_305 : decode cX12_init 305 = .ok (.aload_n 0, 1) := by decide +kernel
theorem dX12_init_306 : decode cX12_init 306 = .ok (.bipush 10, 2) := by decide +kernel
theorem dX12_init_308 : decode cX12_init 308 = .ok (.newarray .int, 2) := by decide +kernel
theorem dX12_init_310 : decode cX12_init 310 = .ok (.putfield 129, 3) := by decide +kernel
theorem dX12_init_313 : decode cX12_init 313 = .ok (.aload_n 0, 1) := by decide +kernel
theorem dX12_init_314 : decode cX12_init 314 = .ok (.bipush 10, 2) := by decide +kernel
theorem dX12_init_316 : decode cX12_init 316 = .ok (.newarray .int, 2) := by decide +kernel
theorem dX12_init_318 : decode cX12_init 318 = .ok (.putfield 132, 3) := by decide +kernel
theorem dX12_init_321 : decode cX12_init 321 = .ok (.aload_n 0, 1) := by decide +kernel
theorem dX12_init_322 : decode cX12_init 322 = .ok (.bipush 10, 2) := by decide +kernel
theorem dX12_init_324 : decode cX12_init 324 = .ok (.newarray .int, 2) := by decide +kernel
theorem dX12_init_326 : decode cX12_init 326 = .ok (.putfield 135, 3) := by decide +kernel
theorem dX12_init_329 : decode cX12_init 329 = .ok (.aload_n 0, 1) := by decide +kernel
theorem dX12_init_330 : decode cX12_init 330 = .ok (.sipush 200, 3) := by decide +kernel
theorem dX12_init_333 : decode cX12_init 333 = .ok (.newarray .int, 2) := by decide +kernel
theorem dX12_init_335 : decode cX12_init 335 = .ok (.putfield 138, 3) := by decide +kernel
theorem dX12_init_338 : decode cX12_init 338 = .ok (.aload_n 0, 1) := by decide +kernel
theorem dX12_init_339 : decode cX12_init 339 = .ok (.bipush 10, 2) := by decide +kernel
theorem dX12_init_341 : decode cX12_init 341 = .ok (.newarray .int, 2) := by decide +kernel
theorem dX12_init_343 : decode cX12_init 343 = .ok (.putfield 141, 3) := by decide +kernel
theorem dX12_init_346 : decode cX12_init 346 = .ok (.aload_n 0, 1) := by decide +kernel
theorem dX12_init_347 : decode cX12_init 347 = .ok (.sipush 200, 3) := by decide +kernel
theorem dX12_init_350 : decode cX12_init 350 = .ok (.newarray .int, 2) := by decide +kernel
theorem dX12_init_352 : decode cX12_init 352 = .ok (.putfield 144, 3) := by decide +kernel
theorem dX12_init_355 : decode cX12_init 355 = .ok (.aload_n 0, 1) := by decide +kernel
theorem dX12_init_356 : decode cX12_init 356 = .ok (.sipush 200, 3) := by decide +kernel
theorem dX12_init_359 : decode cX12_init 359 = .ok (.newarray .int, 2) := by decide +kernel
theorem dX12_init_361 : decode cX12_init 361 = .ok (.putfield 147, 3) := by decide +kernel
theorem dX12_init_364 : decode cX12_init 364 = .ok (.aload_n 0, 1) := by decide +kernel
theorem dX12_init_365 : decode cX12_init 365 = .ok (.sipush 200, 3) := by decide +kernel
theorem dX12_init_368 : decode cX12_init 368 = .ok (.newarray .boolean, 2) := by decide +kernel
theorem dX12_init_370 : decode cX12_init 370 = .ok (.putfield 150, 3) := by decide +kernel
theorem dX12_init_373 : decode cX12_init 373 = .ok (.aload_n 0, 1) := by decide +kernel
theorem dX12_init_374 : decode cX12_init 374 = .ok (.getfield 90, 3) := by decide +kernel
theorem dX12_init_377 : decode cX12_init 377 = .ok (.iconst 0, 1) := by decide +kernel
theorem dX12_init_378 : decode cX12_init 378 = .ok (.iconst (-1), 1) := by decide +kernel
theorem dX12_init_379 : decode cX12_init 379 = .ok (.iastore, 1) := by decide +kernel
theorem dX12_init_380 : decode cX12_init 380 = .ok (.aload_n 0, 1) := by decide +kernel
theorem dX12_init_381 : decode cX12_init 381 = .ok (.getfield 90, 3) := by decide +kernel
theorem dX12_init_384 : decode cX12_init 384 = .ok (.iconst 1, 1) := by decide +kernel
theorem dX12_init_385 : decode cX12_init 385 = .ok (.iconst (-1), 1) := by decide +kernel
theorem dX12_init_386 : decode cX12_init 386 = .ok (.iastore, 1) := by decide +kernel
theorem dX12_init_387 : decode cX12_init 387 = .ok (.return_, 1) := by decide +kernel
def trX12_init : Wd → Nat → List Int → Tr := fun w sz xs => (((((((((((((((((((((((((((((((((((((((((((((((((dfs 12).set 2 (.ref (sz + 0))).set 3 (.ref (sz + 1))).set 4 (.ref (sz + 2))).set 5 (.ref (sz + 3))).set 6 (.ref (sz + 4))).set 7 (.ref (sz + 5))).set 8 (.ref (sz + 6))).set 9 (.ref (sz + 7))).set 10 (.ref (sz + 8))).set 11 (.ref (sz + 9))).set 12 (.ref (sz + 10))).set 13 (.ref (sz + 11))).set 15 (.ref (sz + 12))).set 16 (.ref (sz + 13))).set 17 (.ref (sz + 14))).set 18 (.ref (sz + 15))).set 19 (.ref (sz + 16))).set 20 (.ref (sz + 17))).set 21 (.ref (sz + 18))).set 22 (.ref (sz + 19))).set 23 (.ref (sz + 20))).set 24 (.ref (sz + 21))).set 25 (.ref (sz + 22))).set 26 (.ref (sz + 23))).set 27 (.ref (sz + 24))).set 28 (.int (i32 (-1)))).set 29 (.ref (sz + 25))).set 30 (.ref (sz + 26))).set 31 (.ref (sz + 27))).set 32 (.ref (sz + 28))).set 33 (.ref (sz + 29))).set 34 (.ref (sz + 30))).set 35 (.ref (sz + 31))).set 36 (.ref (sz + 32))).set 37 (.ref (sz + 33))).set 38 (.ref (sz + 34))).set 39 (.ref (sz + 35))).set 40 (.ref (sz + 36))).set 41 (.ref (sz + 37))).set 43 (.ref (sz + 38))).set 44 (.ref (sz + 39))).set 45 (.ref (sz + 40))).set 46 (.ref (sz + 41))).set 47 (.ref (sz + 42))).set 48 (.ref (sz + 43))).set 49 (.ref (sz + 44))).set 50 (.ref (sz + 45))), [dar w 102, dar w 103, dar w 104, dar w 105, dar w 106, dar w 107, dar w 108, dar w 109, dar w 110, dar w 111, dar w 112, dar w 113, dar w 115, dar w 116, dar w 117, dar w 118, dar w 119, dar w 120, dar w 121, dar w 122, dar w 123, dar w 124, dar w 125, dar w 126, dar w 127, .inl (w.2.1 0, 2, .inl (va_up (va_up (fun _ => 0) 0 (i32 (-1))) 1 (i32 (-1)))), dar w 130, dar w 131, dar w 132, dar w 133, dar w 134, dar w 135, dar w 136, dar w 137, dar w 138, dar w 139, dar w 140, dar w 141, dar w 143, dar w 144, dar w 145, dar w 146, dar w 147, dar w 148, dar w 149, dar w 150])
set_option maxRecDepth 100000 in
theorem ctX12_init : CT 12 yX12_init cX12_init 1 0 1 12 2138 [] trX12_init := by
  refine ct_of (own := "FloatparadeModel") (by decide) rfl rfl ?_
  intro l w sz a xs hxs p e s m below meth c hk hr hlk hao hI
  obtain rfl := List.length_eq_zero_iff.mp hxs
  have hl := lv_entry [Value.ref a] (n := 1) (Nat.le_of_ble_eq_true rfl)
  rw [lg_entry_eq]
  generalize hls : (lg_sl (Value.ref a :: List.map (fun v => Value.int (i32 v)) []) ++ List.replicate (1 - (lg_sl (Value.ref a :: List.map (fun v => Value.int (i32 v)) [])).length) Slot.unset).toArray = ls
  have hl : lv_has ls 1 [(0, .ref a)] := by rw [← hls]; exact hl
  obtain ⟨hx, hb, hml, hown, hkw, hin⟩ := id hk
  have hT := hkw.2.1
  refine lv_aload_n hx hb dX12_init_0 rfl (lv_at hl 0 rfl) ?_
  refine W.eq (g2 := F0 m 1 ls [.ref a]) rfl ?_
  refine W.objInit hx hb hown (hT.at (wat_mem (i := 1328) (by decide +kernel)) _) (hT.at oiI _) (hT.at oiC _) rfl (hl.1.trans hml.symm) rfl dX12_init_1 (Nat.le_of_ble_eq_true rfl) (Nat.le_of_ble_eq_true rfl) ?_
  refine W.eq (g2 := F0 m 4 ls []) rfl ?_
  refine lv_aload_n hx hb dX12_init_4 rfl (lv_at hl 0 rfl) ?_
  refine W.eq (g2 := F0 m 5 ls [.ref a]) rfl ?_
  refine lv_bipush hx hb (v := i32 10) dX12_init_5 (by decide) ?_
  refine W.eq (g2 := F0 m 7 ls [.int (i32 10), .ref a]) rfl ?_
  refine ct_newa (k2 := 102) (t := 0) (N' := 10) hk hI dX12_init_7 rfl (wat_mem (i := 148) (by decide +kernel)) rfl rfl (fun _ _ => Iff.rfl) (fun _ => rfl) (by decide) (by decide) (Nat.le_of_ble_eq_true rfl) (Nat.le_of_ble_eq_true rfl) (Nat.le_of_ble_eq_true rfl) fun H hI => ?_
  have hI : CI w s a sz 12 (dfs 12) [dar w 102] H _ := hI
  refine W.eq (g2 := F0 m 9 ls [.ref (sz + 0), .ref a]) rfl ?_
  refine ct_put (j := 2) hk hI dX12_init_9 (by decide) (by decide) (wat_mem (i := 1331) (by decide +kernel)) (cl_ty (q := 12) (by decide) 2 (by decide)) rfl rfl (Nat.le_of_ble_eq_true rfl) rfl fun H locs hI => ?_
  have hI : CI w s a sz 12 ((dfs 12).set 2 (.ref (sz + 0))) [dar w 102] H locs := hI
  refine W.eq (g2 := F0 m 12 ls []) rfl ?_
  refine lv_aload_n hx hb dX12_init_12 rfl (lv_at hl 0 rfl) ?_
  refine W.eq (g2 := F0 m 13 ls [.ref a]) rfl ?_
  refine lv_bipush hx hb (v := i32 10) dX12_init_13 (by decide) ?_
  refine W.eq (g2 := F0 m 15 ls [.int (i32 10), .ref a]) rfl ?_
  refine ct_newa (k2 := 103) (t := 0) (N' := 10) hk hI dX12_init_15 rfl (wat_mem (i := 148) (by decide +kernel)) rfl rfl (fun _ _ => Iff.rfl) (fun _ => rfl) (by decide) (by decide) (Nat.le_of_ble_eq_true rfl) (Nat.le_of_ble_eq_true rfl) (Nat.le_of_ble_eq_true rfl) fun H hI => ?_
  have hI : CI w s a sz 12 ((dfs 12).set 2 (.ref (sz + 0))) [dar w 102, dar w 103] H _ := hI
  refine W.eq (g2 := F0 m 17 ls [.ref (sz + 1), .ref a]) rfl ?_
  refine ct_put (j := 3) hk hI dX12_init_17 (by decide) (by decide) (wat_mem (i := 1332) (by decide +kernel)) (cl_ty (q := 12) (by decide) 3 (by decide)) rfl rfl (Nat.le_of_ble_eq_true rfl) rfl fun H locs hI => ?_
  have hI : CI w s a sz 12 (((dfs 12).set 2 (.ref (sz + 0))).set 3 (.ref (sz + 1))) [dar w 102, dar w 103] H locs := hI
  refine W.eq (g2 := F0 m 20 ls []) rfl ?_
  refine lv_aload_n hx hb dX12_init_20 rfl (lv_at hl 0 rfl) ?_
  refine W.eq (g2 := F0 m 21 ls [.ref a]) rfl ?_
  refine lv_bipush hx hb (v := i32 10) dX12_init_21 (by decide) ?_
  refine W.eq (g2 := F0 m 23 ls [.int (i32 10), .ref a]) rfl ?_
  refine ct_newa (k2 := 104) (t := 0) (N' := 10) hk hI dX12_init_23 rfl (wat_mem (i := 148) (by decide +kernel)) rfl rfl (fun _ _ => Iff.rfl) (fun _ => rfl) (by decide) (by decide) (Nat.le_of_ble_eq_true rfl) (Nat.le_of_ble_eq_true rfl) (Nat.le_of_ble_eq_true rfl) fun H hI => ?_
  have hI : CI w s a sz 12 (((dfs 12).set 2 (.ref (sz + 0))).set 3 (.ref (sz + 1))) [dar w 102, dar w 103, dar w 104] H _ := hI
  refine W.eq (g2 := F0 m 25 ls [.ref (sz + 2), .ref a]) rfl ?_
  refine ct_put (j := 4) hk hI dX12_init_25 (by decide) (by decide) (wat_mem (i := 1333) (by decide +kernel)) (cl_ty (q := 12) (by decide) 4 (by decide)) rfl rfl (Nat.le_of_ble_eq_true rfl) rfl fun H locs hI => ?_
  have hI : CI w s a sz 12 ((((dfs 12).set 2 (.ref (sz + 0))).set 3 (.ref (sz + 1))).set 4 (.ref (sz + 2))) [dar w 102, dar w 103, dar w 104] H locs := hI
  refine W.eq (g2 := F0 m 28 ls []) rfl ?_
  refine lv_aload_n hx hb dX12_init_28 rfl (lv_at hl 0 rfl) ?_
  refine W.eq (g2 := F0 m 29 ls [.ref a]) rfl ?_
  refine lv_bipush hx hb (v := i32 100) dX12_init_29 (by decide) ?_
  refine W.eq (g2 := F0 m 31 ls [.int (i32 100), .ref a]) rfl ?_
  refine ct_newa (k2 := 105) (t := 1) (N' := 100) hk hI dX12_init_31 rfl (wat_mem (i := 121) (by decide +kernel)) rfl rfl (fun _ _ => Iff.rfl) (fun _ => rfl) (by decide) (by decide) (Nat.le_of_ble_eq_true rfl) (Nat.le_of_ble_eq_true rfl) (Nat.le_of_ble_eq_true rfl) fun H hI => ?_
  have hI : CI w s a sz 12 ((((dfs 12).set 2 (.ref (sz + 0))).set 3 (.ref (sz + 1))).set 4 (.ref (sz + 2))) [dar w 102, dar w 103, dar w 104, dar w 105] H _ := hI
  refine W.eq (g2 := F0 m 33 ls [.ref (sz + 3), .ref a]) rfl ?_
  refine ct_put (j := 5) hk hI dX12_init_33 (by decide) (by decide) (wat_mem (i := 1334) (by decide +kernel)) (cl_ty (q := 12) (by decide) 5 (by decide)) rfl rfl (Nat.le_of_ble_eq_true rfl) rfl fun H locs hI => ?_
  have hI : CI w s a sz 12 (((((dfs 12).set 2 (.ref (sz + 0))).set 3 (.ref (sz + 1))).set 4 (.ref (sz + 2))).set 5 (.ref (sz + 3))) [dar w 102, dar w 103, dar w 104, dar w 105] H locs := hI
  refine W.eq (g2 := F0 m 36 ls []) rfl ?_
  refine lv_aload_n hx hb dX12_init_36 rfl (lv_at hl 0 rfl) ?_
  refine W.eq (g2 := F0 m 37 ls [.ref a]) rfl ?_
  refine lv_bipush hx hb (v := i32 10) dX12_init_37 (by decide) ?_
  refine W.eq (g2 := F0 m 39 ls [.int (i32 10), .ref a]) rfl ?_
  refine ct_newa (k2 := 106) (t := 0) (N' := 10) hk hI dX12_init_39 rfl (wat_mem (i := 148) (by decide +kernel)) rfl rfl (fun _ _ => Iff.rfl) (fun _ => rfl) (by decide) (by decide) (Nat.le_of_ble_eq_true rfl) (Nat.le_of_ble_eq_true rfl) (Nat.le_of_ble_eq_true rfl) fun H hI => ?_
  have hI : CI w s a sz 12 (((((dfs 12).set 2 (.ref (sz + 0))).set 3 (.ref (sz + 1))).set 4 (.ref (sz + 2))).set 5 (.ref (sz + 3))) [dar w 102, dar w 103, dar w 104, dar w 105, dar w 106] H _ := hI
  refine W.eq (g2 := F0 m 41 ls [.ref (sz + 4), .ref a]) rfl ?_
  refine ct_put (j := 6) hk hI dX12_init_41 (by decide) (by decide) (wat_mem (i := 1335) (by decide +kernel)) (cl_ty (q := 12) (by decide) 6 (by decide)) rfl rfl (Nat.le_of_ble_eq_true rfl) rfl fun H locs hI => ?_
  have hI : CI w s a sz 12 ((((((dfs 12).set 2 (.ref (sz + 0))).set 3 (.ref (sz + 1))).set 4 (.ref (sz + 2))).set 5 (.ref (sz + 3))).set 6 (.ref (sz + 4))) [dar w 102, dar w 103, dar w 104, dar w 105, dar w 106] H locs := hI
  refine W.eq (g2 := F0 m 44 ls []) rfl ?_
  refine lv_aload_n hx hb dX12_init_44 rfl (lv_at hl 0 rfl) ?_
  refine W.eq (g2 := F0 m 45 ls [.ref a]) rfl ?_
  refine lv_bipush hx hb (v := i32 10) dX12_init_45 (by decide) ?_
  refine W.eq (g2 := F0 m 47 ls [.int (i32 10), .ref a]) rfl ?_
  refine ct_newa (k2 := 107) (t := 0) (N' := 10) hk hI dX12_init_47 rfl (wat_mem (i := 148) (by decide +kernel)) rfl rfl (fun _ _ => Iff.rfl) (fun _ => rfl) (by decide) (by decide) (Nat.le_of_ble_eq_true rfl) (Nat.le_of_ble_eq_true rfl) (Nat.le_of_ble_eq_true rfl) fun H hI => ?_
  have hI : CI w s a sz 12 ((((((dfs 12).set 2 (.ref (sz + 0))).set 3 (.ref (sz + 1))).set 4 (.ref (sz + 2))).set 5 (.ref (sz + 3))).set 6 (.ref (sz + 4))) [dar w 102, dar w 103, dar w 104, dar w 105, dar w 106, dar w 107] H _ := hI
  refine W.eq (g2 := F0 m 49 ls [.ref (sz + 5), .ref a]) rfl ?_
  refine ct_put (j := 7) hk hI dX12_init_49 (by decide) (by decide) (wat_mem (i := 1336) (by decide +kernel)) (cl_ty (q := 12) (by decide) 7 (by decide)) rfl rfl (Nat.le_of_ble_eq_true rfl) rfl fun H locs hI => ?_
  have hI : CI w s a sz 12 (((((((dfs 12).set 2 (.ref (sz + 0))).set 3 (.ref (sz + 1))).set 4 (.ref (sz + 2))).set 5 (.ref (sz + 3))).set 6 (.ref (sz + 4))).set 7 (.ref (sz + 5))) [dar w 102, dar w 103, dar w 104, dar w 105, dar w 106, dar w 107] H locs := hI
  refine W.eq (g2 := F0 m 52 ls []) rfl ?_
  refine lv_aload_n hx hb dX12_init_52 rfl (lv_at hl 0 rfl) ?_
  refine W.eq (g2 := F0 m 53 ls [.ref a]) rfl ?_
  refine lv_bipush hx hb (v := i32 10) dX12_init_53 (by decide) ?_
  refine W.eq (g2 := F0 m 55 ls [.int (i32 10), .ref a]) rfl ?_
  refine ct_newa (k2 := 108) (t := 0) (N' := 10) hk hI dX12_init_55 rfl (wat_mem (i := 148) (by decide +kernel)) rfl rfl (fun _ _ => Iff.rfl) (fun _ => rfl) (by decide) (by decide) (Nat.le_of_ble_eq_true rfl) (Nat.le_of_ble_eq_true rfl) (Nat.le_of_ble_eq_true rfl) fun H hI => ?_
  have hI : CI w s a sz 12 (((((((dfs 12).set 2 (.ref (sz + 0))).set 3 (.ref (sz + 1))).set 4 (.ref (sz + 2))).set 5 (.ref (sz + 3))).set 6 (.ref (sz + 4))).set 7 (.ref (sz + 5))) [dar w 102, dar w 103, dar w 104, dar w 105, dar w 106, dar w 107, dar w 108] H _ := hI
  refine W.eq (g2 := F0 m 57 ls [.ref (sz + 6), .ref a]) rfl ?_
  refine ct_put (j := 8) hk hI dX12_init_57 (by decide) (by decide) (wat_mem (i := 1337) (by decide +kernel)) (cl_ty (q := 12) (by decide) 8 (by decide)) rfl rfl (Nat.le_of_ble_eq_true rfl) rfl fun H locs hI => ?_
  have hI : CI w s a sz 12 ((((((((dfs 12).set 2 (.ref (sz + 0))).set 3 (.ref (sz + 1))).set 4 (.ref (sz + 2))).set 5 (.ref (sz + 3))).set 6 (.ref (sz + 4))).set 7 (.ref (sz + 5))).set 8 (.ref (sz + 6))) [dar w 102, dar w 103, dar w 104, dar w 105, dar w 106, dar w 107, dar w 108] H locs := hI
  refine W.eq (g2 := F0 m 60 ls []) rfl ?_
  refine lv_aload_n hx hb dX12_init_60 rfl (lv_at hl 0 rfl) ?_
  refine W.eq (g2 := F0 m 61 ls [.ref a]) rfl ?_
  refine lv_bipush hx hb (v := i32 10) dX12_init_61 (by decide) ?_
  refine W.eq (g2 := F0 m 63 ls [.int (i32 10), .ref a]) rfl ?_
  refine ct_newa (k2 := 109) (t := 0) (N' := 10) hk hI dX12_init_63 rfl (wat_mem (i := 148) (by decide +kernel)) rfl rfl (fun _ _ => Iff.rfl) (fun _ => rfl) (by decide) (by decide) (Nat.le_of_ble_eq_true rfl) (Nat.le_of_ble_eq_true rfl) (Nat.le_of_ble_eq_true rfl) fun H hI => ?_
  have hI : CI w s a sz 12 ((((((((dfs 12).set 2 (.ref (sz + 0))).set 3 (.ref (sz + 1))).set 4 (.ref (sz + 2))).set 5 (.ref (sz + 3))).set 6 (.ref (sz + 4))).set 7 (.ref (sz + 5))).set 8 (.ref (sz + 6))) [dar w 102, dar w 103, dar w 104, dar w 105, dar w 106, dar w 107, dar w 108, dar w 109] H _ := hI
  refine W.eq (g2 := F0 m 65 ls [.ref (sz + 7), .ref a]) rfl ?_
  refine ct_put (j := 9) hk hI dX12_init_65 (by decide) (by decide) (wat_mem (i := 1338) (by decide +kernel)) (cl_ty (q := 12) (by decide) 9 (by decide)) rfl rfl (Nat.le_of_ble_eq_true rfl) rfl fun H locs hI => ?_
  have hI : CI w s a sz 12 (((((((((dfs 12).set 2 (.ref (sz + 0))).set 3 (.ref (sz + 1))).set 4 (.ref (sz + 2))).set 5 (.ref (sz + 3))).set 6 (.ref (sz + 4))).set 7 (.ref (sz + 5))).set 8 (.ref (sz + 6))).set 9 (.ref (sz + 7))) [dar w 102, dar w 103, dar w 104, dar w 105, dar w 106, dar w 107, dar w 108, dar w 109] H locs := hI
  refine W.eq (g2 := F0 m 68 ls []) rfl ?_
  refine lv_aload_n hx hb dX12_init_68 rfl (lv_at hl 0 rfl) ?_
  refine W.eq (g2 := F0 m 69 ls [.ref a]) rfl ?_
  refine lv_bipush hx hb (v := i32 10) dX12_init_69 (by decide) ?_
  refine W.eq (g2 := F0 m 71 ls [.int (i32 10), .ref a]) rfl ?_
  refine ct_newa (k2 := 110) (t := 1) (N' := 10) hk hI dX12_init_71 rfl (wat_mem (i := 121) (by decide +kernel)) rfl rfl (fun _ _ => Iff.rfl) (fun _ => rfl) (by decide) (by decide) (Nat.le_of_ble_eq_true rfl) (Nat.le_of_ble_eq_true rfl) (Nat.le_of_ble_eq_true rfl) fun H hI => ?_
  have hI : CI w s a sz 12 (((((((((dfs 12).set 2 (.ref (sz + 0))).set 3 (.ref (sz + 1))).set 4 (.ref (sz + 2))).set 5 (.ref (sz + 3))).set 6 (.ref (sz + 4))).set 7 (.ref (sz + 5))).set 8 (.ref (sz + 6))).set 9 (.ref (sz + 7))) [dar w 102, dar w 103, dar w 104, dar w 105, dar w 106, dar w 107, dar w 108, dar w 109, dar w 110] H _ := hI
  refine W.eq (g2 := F0 m 73 ls [.ref (sz + 8), .ref a]) rfl ?_
  refine ct_put (j := 10) hk hI dX12_init_73 (by decide) (by decide) (wat_mem (i := 1339) (by decide +kernel)) (cl_ty (q := 12) (by decide) 10 (by decide)) rfl rfl (Nat.le_of_ble_eq_true rfl) rfl fun H locs hI => ?_
  have hI : CI w s a sz 12 ((((((((((dfs 12).set 2 (.ref (sz + 0))).set 3 (.ref (sz + 1))).set 4 (.ref (sz + 2))).set 5 (.ref (sz + 3))).set 6 (.ref (sz + 4))).set 7 (.ref (sz + 5))).set 8 (.ref (sz + 6))).set 9 (.ref (sz + 7))).set 10 (.ref (sz + 8))) [dar w 102, dar w 103, dar w 104, dar w 105, dar w 106, dar w 107, dar w 108, dar w 109, dar w 110] H locs := hI
  refine W.eq (g2 := F0 m 76 ls []) rfl ?_
  refine lv_aload_n hx hb dX12_init_76 rfl (lv_at hl 0 rfl) ?_
  refine W.eq (g2 := F0 m 77 ls [.ref a]) rfl ?_
  refine lv_bipush hx hb (v := i32 60) dX12_init_77 (by decide) ?_
  refine W.eq (g2 := F0 m 79 ls [.int (i32 60), .ref a]) rfl ?_
  refine ct_newa (k2 := 111) (t := 0) (N' := 60) hk hI dX12_init_79 rfl (wat_mem (i := 148) (by decide +kernel)) rfl rfl (fun _ _ => Iff.rfl) (fun _ => rfl) (by decide) (by decide) (Nat.le_of_ble_eq_true rfl) (Nat.le_of_ble_eq_true rfl) (Nat.le_of_ble_eq_true rfl) fun H hI => ?_
  have hI : CI w s a sz 12 ((((((((((dfs 12).set 2 (.ref (sz + 0))).set 3 (.ref (sz + 1))).set 4 (.ref (sz + 2))).set 5 (.ref (sz + 3))).set 6 (.ref (sz + 4))).set 7 (.ref (sz + 5))).set 8 (.ref (sz + 6))).set 9 (.ref (sz + 7))).set 10 (.ref (sz + 8))) [dar w 102, dar w 103, dar w 104, dar w 105, dar w 106, dar w 107, dar w 108, dar w 109, dar w 110, dar w 111] H _ := hI
  refine W.eq (g2 := F0 m 81 ls [.ref (sz + 9), .ref a]) rfl ?_
  refine ct_put (j := 11) hk hI dX12_init_81 (by decide) (by decide) (wat_mem (i := 1340) (by decide +kernel)) (cl_ty (q := 12) (by decide) 11 (by decide)) rfl rfl (Nat.le_of_ble_eq_true rfl) rfl fun H locs hI => ?_
  have hI : CI w s a sz 12 (((((((((((dfs 12).set 2 (.ref (sz + 0))).set 3 (.ref (sz + 1))).set 4 (.ref (sz + 2))).set 5 (.ref (sz + 3))).set 6 (.ref (sz + 4))).set 7 (.ref (sz + 5))).set 8 (.ref (sz + 6))).set 9 (.ref (sz + 7))).set 10 (.ref (sz + 8))).set 11 (.ref (sz + 9))) [dar w 102, dar w 103, dar w 104, dar w 105, dar w 106, dar w 107, dar w 108, dar w 109, dar w 110, dar w 111] H locs := hI
  refine W.eq (g2 := F0 m 84 ls []) rfl ?_
  refine lv_aload_n hx hb dX12_init_84 rfl (lv_at hl 0 rfl) ?_
  refine W.eq (g2 := F0 m 85 ls [.ref a]) rfl ?_
  refine lv_bipush hx hb (v := i32 10) dX12_init_85 (by decide) ?_
  refine W.eq (g2 := F0 m 87 ls [.int (i32 10), .ref a]) rfl ?_
  refine ct_newa (k2 := 112) (t := 0) (N' := 10) hk hI dX12_init_87 rfl (wat_mem (i := 148) (by decide +kernel)) rfl rfl (fun _ _ => Iff.rfl) (fun _ => rfl) (by decide) (by decide) (Nat.le_of_ble_eq_true rfl) (Nat.le_of_ble_eq_true rfl) (Nat.le_of_ble_eq_true rfl) fun H hI => ?_
  have hI : CI w s a sz 12 (((((((((((dfs 12).set 2 (.ref (sz + 0))).set 3 (.ref (sz + 1))).set 4 (.ref (sz + 2))).set 5 (.ref (sz + 3))).set 6 (.ref (sz + 4))).set 7 (.ref (sz + 5))).set 8 (.ref (sz + 6))).set 9 (.ref (sz + 7))).set 10 (.ref (sz + 8))).set 11 (.ref (sz + 9))) [dar w 102, dar w 103, dar w 104, dar w 105, dar w 106, dar w 107, dar w 108, dar w 109, dar w 110, dar w 111, dar w 112] H _ := hI
  refine W.eq (g2 := F0 m 89 ls [.ref (sz + 10), .ref a]) rfl ?_
  refine ct_put (j := 12) hk hI dX12_init_89 (by decide) (by decide) (wat_mem (i := 1341) (by decide +kernel)) (cl_ty (q := 12) (by decide) 12 (by decide)) rfl rfl (Nat.le_of_ble_eq_true rfl) rfl fun H locs hI => ?_
  have hI : CI w s a sz 12 ((((((((((((dfs 12).set 2 (.ref (sz + 0))).set 3 (.ref (sz + 1))).set 4 (.ref (sz + 2))).set 5 (.ref (sz + 3))).set 6 (.ref (sz + 4))).set 7 (.ref (sz + 5))).set 8 (.ref (sz + 6))).set 9 (.ref (sz + 7))).set 10 (.ref (sz + 8))).set 11 (.ref (sz + 9))).set 12 (.ref (sz + 10))) [dar w 102, dar w 103, dar w 104, dar w 105, dar w 106, dar w 107, dar w 108, dar w 109, dar w 110, dar w 111, dar w 112] H locs := hI
  refine W.eq (g2 := F0 m 92 ls []) rfl ?_
  refine lv_aload_n hx hb dX12_init_92 rfl (lv_at hl 0 rfl) ?_
  refine W.eq (g2 := F0 m 93 ls [.ref a]) rfl ?_
  refine lv_bipush hx hb (v := i32 120) dX12_init_93 (by decide) ?_
  refine W.eq (g2 := F0 m 95 ls [.int (i32 120), .ref a]) rfl ?_
  refine ct_newa (k2 := 113) (t := 0) (N' := 120) hk hI dX12_init_95 rfl (wat_mem (i := 148) (by decide +kernel)) rfl rfl (fun _ _ => Iff.rfl) (fun _ => rfl) (by decide) (by decide) (Nat.le_of_ble_eq_true rfl) (Nat.le_of_ble_eq_true rfl) (Nat.le_of_ble_eq_true rfl) fun H hI => ?_
  have hI : CI w s a sz 12 ((((((((((((dfs 12).set 2 (.ref (sz + 0))).set 3 (.ref (sz + 1))).set 4 (.ref (sz + 2))).set 5 (.ref (sz + 3))).set 6 (.ref (sz + 4))).set 7 (.ref (sz + 5))).set 8 (.ref (sz + 6))).set 9 (.ref (sz + 7))).set 10 (.ref (sz + 8))).set 11 (.ref (sz + 9))).set 12 (.ref (sz + 10))) [dar w 102, dar w 103, dar w 104, dar w 105, dar w 106, dar w 107, dar w 108, dar w 109, dar w 110, dar w 111, dar w 112, dar w 113] H _ := hI
  refine W.eq (g2 := F0 m 97 ls [.ref (sz + 11), .ref a]) rfl ?_
  refine ct_put (j := 13) hk hI dX12_init_97 (by decide) (by decide) (wat_mem (i := 1342) (by decide +kernel)) (cl_ty (q := 12) (by decide) 13 (by decide)) rfl rfl (Nat.le_of_ble_eq_true rfl) rfl fun H locs hI => ?_
  have hI : CI w s a sz 12 (((((((((((((dfs 12).set 2 (.ref (sz + 0))).set 3 (.ref (sz + 1))).set 4 (.ref (sz + 2))).set 5 (.ref (sz + 3))).set 6 (.ref (sz + 4))).set 7 (.ref (sz + 5))).set 8 (.ref (sz + 6))).set 9 (.ref (sz + 7))).set 10 (.ref (sz + 8))).set 11 (.ref (sz + 9))).set 12 (.ref (sz + 10))).set 13 (.ref (sz + 11))) [dar w 102, dar w 103, dar w 104, dar w 105, dar w 106, dar w 107, dar w 108, dar w 109, dar w 110, dar w 111, dar w 112, dar w 113] H locs := hI
  refine W.eq (g2 := F0 m 100 ls []) rfl ?_
  refine lv_aload_n hx hb dX12_init_100 rfl (lv_at hl 0 rfl) ?_
  refine W.eq (g2 := F0 m 101 ls [.ref a]) rfl ?_
  refine lv_bipush hx hb (v := i32 16) dX12_init_101 (by decide) ?_
  refine W.eq (g2 := F0 m 103 ls [.int (i32 16), .ref a]) rfl ?_
  refine ct_newa (k2 := 115) (t := 0) (N' := 16) hk hI dX12_init_103 rfl (wat_mem (i := 148) (by decide +kernel)) rfl rfl (fun _ _ => Iff.rfl) (fun _ => rfl) (by decide) (by decide) (Nat.le_of_ble_eq_true rfl) (Nat.le_of_ble_eq_true rfl) (Nat.le_of_ble_eq_true rfl) fun H hI => ?_
  have hI : CI w s a sz 12 (((((((((((((dfs 12).set 2 (.ref (sz + 0))).set 3 (.ref (sz + 1))).set 4 (.ref (sz + 2))).set 5 (.ref (sz + 3))).set 6 (.ref (sz + 4))).set 7 (.ref (sz + 5))).set 8 (.ref (sz + 6))).set 9 (.ref (sz + 7))).set 10 (.ref (sz + 8))).set 11 (.ref (sz + 9))).set 12 (.ref (sz + 10))).set 13 (.ref (sz + 11))) [dar w 102, dar w 103, dar w 104, dar w 105, dar w 106, dar w 107, dar w 108, dar w 109, dar w 110, dar w 111, dar w 112, dar w 113, dar w 115] H _ := hI
  refine W.eq (g2 := F0 m 105 ls [.ref (sz + 12), .ref a]) rfl ?_
  refine ct_put (j := 15) hk hI dX12_init_105 (by decide) (by decide) (wat_mem (i := 1344) (by decide +kernel)) (cl_ty (q := 12) (by decide) 15 (by decide)) rfl rfl (Nat.le_of_ble_eq_true rfl) rfl fun H locs hI => ?_
  have hI : CI w s a sz 12 ((((((((((((((dfs 12).set 2 (.ref (sz + 0))).set 3 (.ref (sz + 1))).set 4 (.ref (sz + 2))).set 5 (.ref (sz + 3))).set 6 (.ref (sz + 4))).set 7 (.ref (sz + 5))).set 8 (.ref (sz + 6))).set 9 (.ref (sz + 7))).set 10 (.ref (sz + 8))).set 11 (.ref (sz + 9))).set 12 (.ref (sz + 10))).set 13 (.ref (sz + 11))).set 15 (.ref (sz + 12))) [dar w 102, dar w 103, dar w 104, dar w 105, dar w 106, dar w 107, dar w 108, dar w 109, dar w 110, dar w 111, dar w 112, dar w 113, dar w 115] H locs := hI
  refine W.eq (g2 := F0 m 108 ls []) rfl ?_
  refine lv_aload_n hx hb dX12_init_108 rfl (lv_at hl 0 rfl) ?_
  refine W.eq (g2 := F0 m 109 ls [.ref a]) rfl ?_
  refine lv_bipush hx hb (v := i32 16) dX12_init_109 (by decide) ?_
  refine W.eq (g2 := F0 m 111 ls [.int (i32 16), .ref a]) rfl ?_
  refine ct_newa (k2 := 116) (t := 0) (N' := 16) hk hI dX12_init_111 rfl (wat_mem (i := 148) (by decide +kernel)) rfl rfl (fun _ _ => Iff.rfl) (fun _ => rfl) (by decide) (by decide) (Nat.le_of_ble_eq_true rfl) (Nat.le_of_ble_eq_true rfl) (Nat.le_of_ble_eq_true rfl) fun H hI => ?_
  have hI : CI w s a sz 12 ((((((((((((((dfs 12).set 2 (.ref (sz + 0))).set 3 (.ref (sz + 1))).set 4 (.ref (sz + 2))).set 5 (.ref (sz + 3))).set 6 (.ref (sz + 4))).set 7 (.ref (sz + 5))).set 8 (.ref (sz + 6))).set 9 (.ref (sz + 7))).set 10 (.ref (sz + 8))).set 11 (.ref (sz + 9))).set 12 (.ref (sz + 10))).set 13 (.ref (sz + 11))).set 15 (.ref (sz + 12))) [dar w 102, dar w 103, dar w 104, dar w 105, dar w 106, dar w 107, dar w 108, dar w 109, dar w 110, dar w 111, dar w 112, dar w 113, dar w 115, dar w 116] H _ := hI
  refine W.eq (g2 := F0 m 113 ls [.ref (sz + 13), .ref a]) rfl ?_
  refine ct_put (j := 16) hk hI dX12_init_113 (by decide) (by decide) (wat_mem (i := 1345) (by decide +kernel)) (cl_ty (q := 12) (by decide) 16 (by decide)) rfl rfl (Nat.le_of_ble_eq_true rfl) rfl fun H locs hI => ?_
  have hI : CI w s a sz 12 (((((((((((((((dfs 12).set 2 (.ref (sz + 0))).set 3 (.ref (sz + 1))).set 4 (.ref (sz + 2))).set 5 (.ref (sz + 3))).set 6 (.ref (sz + 4))).set 7 (.ref (sz + 5))).set 8 (.ref (sz + 6))).set 9 (.ref (sz + 7))).set 10 (.ref (sz + 8))).set 11 (.ref (sz + 9))).set 12 (.ref (sz + 10))).set 13 (.ref (sz + 11))).set 15 (.ref (sz + 12))).set 16 (.ref (sz + 13))) [dar w 102, dar w 103, dar w 104, dar w 105, dar w 106, dar w 107, dar w 108, dar w 109, dar w 110, dar w 111, dar w 112, dar w 113, dar w 115, dar w 116] H locs := hI
  refine W.eq (g2 := F0 m 116 ls []) rfl ?_
  refine lv_aload_n hx hb dX12_init_116 rfl (lv_at hl 0 rfl) ?_
  refine W.eq (g2 := F0 m 117 ls [.ref a]) rfl ?_
  refine lv_bipush hx hb (v := i32 16) dX12_init_117 (by decide) ?_
  refine W.eq (g2 := F0 m 119 ls [.int (i32 16), .ref a]) rfl ?_
  refine ct_newa (k2 := 117) (t := 0) (N' := 16) hk hI dX12_init_119 rfl (wat_mem (i := 148) (by decide +kernel)) rfl rfl (fun _ _ => Iff.rfl) (fun _ => rfl) (by decide) (by decide) (Nat.le_of_ble_eq_true rfl) (Nat.le_of_ble_eq_true rfl) (Nat.le_of_ble_eq_true rfl) fun H hI => ?_
  have hI : CI w s a sz 12 (((((((((((((((dfs 12).set 2 (.ref (sz + 0))).set 3 (.ref (sz + 1))).set 4 (.ref (sz + 2))).set 5 (.ref (sz + 3))).set 6 (.ref (sz + 4))).set 7 (.ref (sz + 5))).set 8 (.ref (sz + 6))).set 9 (.ref (sz + 7))).set 10 (.ref (sz + 8))).set 11 (.ref (sz + 9))).set 12 (.ref (sz + 10))).set 13 (.ref (sz + 11))).set 15 (.ref (sz + 12))).set 16 (.ref (sz + 13))) [dar w 102, dar w 103, dar w 104, dar w 105, dar w 106, dar w 107, dar w 108, dar w 109, dar w 110, dar w 111, dar w 112, dar w 113, dar w 115, dar w 116, dar w 117] H _ := hI
  refine W.eq (g2 := F0 m 121 ls [.ref (sz + 14), .ref a]) rfl ?_
  refine ct_put (j := 17) hk hI dX12_init_121 (by decide) (by decide) (wat_mem (i := 1346) (by decide +kernel)) (cl_ty (q := 12) (by decide) 17 (by decide)) rfl rfl (Nat.le_of_ble_eq_true rfl) rfl fun H locs hI => ?_
  have hI : CI w s a sz 12 ((((((((((((((((dfs 12).set 2 (.ref (sz + 0))).set 3 (.ref (sz + 1))).set 4 (.ref (sz + 2))).set 5 (.ref (sz + 3))).set 6 (.ref (sz + 4))).set 7 (.ref (sz + 5))).set 8 (.ref (sz + 6))).set 9 (.ref (sz + 7))).set 10 (.ref (sz + 8))).set 11 (.ref (sz + 9))).set 12 (.ref (sz + 10))).set 13 (.ref (sz + 11))).set 15 (.ref (sz + 12))).set 16 (.ref (sz + 13))).set 17 (.ref (sz + 14))) [dar w 102, dar w 103, dar w 104, dar w 105, dar w 106, dar w 107, dar w 108, dar w 109, dar w 110, dar w 111, dar w 112, dar w 113, dar w 115, dar w 116, dar w 117] H locs := hI
  refine W.eq (g2 := F0 m 124 ls []) rfl ?_
  refine lv_aload_n hx hb dX12_init_124 rfl (lv_at hl 0 rfl) ?_
  refine W.eq (g2 := F0 m 125 ls [.ref a]) rfl ?_
  refine lv_bipush hx hb (v := i32 16) dX12_init_125 (by decide) ?_
  refine W.eq (g2 := F0 m 127 ls [.int (i32 16), .ref a]) rfl ?_
  refine ct_newa (k2 := 118) (t := 0) (N' := 16) hk hI dX12_init_127 rfl (wat_mem (i := 148) (by decide +kernel)) rfl rfl (fun _ _ => Iff.rfl) (fun _ => rfl) (by decide) (by decide) (Nat.le_of_ble_eq_true rfl) (Nat.le_of_ble_eq_true rfl) (Nat.le_of_ble_eq_true rfl) fun H hI => ?_
  have hI : CI w s a sz 12 ((((((((((((((((dfs 12).set 2 (.ref (sz + 0))).set 3 (.ref (sz + 1))).set 4 (.ref (sz + 2))).set 5 (.ref (sz + 3))).set 6 (.ref (sz + 4))).set 7 (.ref (sz + 5))).set 8 (.ref (sz + 6))).set 9 (.ref (sz + 7))).set 10 (.ref (sz + 8))).set 11 (.ref (sz + 9))).set 12 (.ref (sz + 10))).set 13 (.ref (sz + 11))).set 15 (.ref (sz + 12))).set 16 (.ref (sz + 13))).set 17 (.ref (sz + 14))) [dar w 102, dar w 103, dar w 104, dar w 105, dar w 106, dar w 107, dar w 108, dar w 109, dar w 110, dar w 111, dar w 112, dar w 113, dar w 115, dar w 116, dar w 117, dar w 118] H _ := hI
  refine W.eq (g2 := F0 m 129 ls [.ref (sz + 15), .ref a]) rfl ?_
  refine ct_put (j := 18) hk hI dX12_init_129 (by decide) (by decide) (wat_mem (i := 1347) (by decide +kernel)) (cl_ty (q := 12) (by decide) 18 (by decide)) rfl rfl (Nat.le_of_ble_eq_true rfl) rfl fun H locs hI => ?_
  have hI : CI w s a sz 12 (((((((((((((((((dfs 12).set 2 (.ref (sz + 0))).set 3 (.ref (sz + 1))).set 4 (.ref (sz + 2))).set 5 (.ref (sz + 3))).set 6 (.ref (sz + 4))).set 7 (.ref (sz + 5))).set 8 (.ref (sz + 6))).set 9 (.ref (sz + 7))).set 10 (.ref (sz + 8))).set 11 (.ref (sz + 9))).set 12 (.ref (sz + 10))).set 13 (.ref (sz + 11))).set 15 (.ref (sz + 12))).set 16 (.ref (sz + 13))).set 17 (.ref (sz + 14))).set 18 (.ref (sz + 15))) [dar w 102, dar w 103, dar w 104, dar w 105, dar w 106, dar w 107, dar w 108, dar w 109, dar w 110, dar w 111, dar w 112, dar w 113, dar w 115, dar w 116, dar w 117, dar w 118] H locs := hI
  refine W.eq (g2 := F0 m 132 ls []) rfl ?_
  refine lv_aload_n hx hb dX12_init_132 rfl (lv_at hl 0 rfl) ?_
  refine W.eq (g2 := F0 m 133 ls [.ref a]) rfl ?_
  refine lv_bipush hx hb (v := i32 16) dX12_init_133 (by decide) ?_
  refine W.eq (g2 := F0 m 135 ls [.int (i32 16), .ref a]) rfl ?_
  refine ct_newa (k2 := 119) (t := 0) (N' := 16) hk hI dX12_init_135 rfl (wat_mem (i := 148) (by decide +kernel)) rfl rfl (fun _ _ => Iff.rfl) (fun _ => rfl) (by decide) (by decide) (Nat.le_of_ble_eq_true rfl) (Nat.le_of_ble_eq_true rfl) (Nat.le_of_ble_eq_true rfl) fun H hI => ?_
  have hI : CI w s a sz 12 (((((((((((((((((dfs 12).set 2 (.ref (sz + 0))).set 3 (.ref (sz + 1))).set 4 (.ref (sz + 2))).set 5 (.ref (sz + 3))).set 6 (.ref (sz + 4))).set 7 (.ref (sz + 5))).set 8 (.ref (sz + 6))).set 9 (.ref (sz + 7))).set 10 (.ref (sz + 8))).set 11 (.ref (sz + 9))).set 12 (.ref (sz + 10))).set 13 (.ref (sz + 11))).set 15 (.ref (sz + 12))).set 16 (.ref (sz + 13))).set 17 (.ref (sz + 14))).set 18 (.ref (sz + 15))) [dar w 102, dar w 103, dar w 104, dar w 105, dar w 106, dar w 107, dar w 108, dar w 109, dar w 110, dar w 111, dar w 112, dar w 113, dar w 115, dar w 116, dar w 117, dar w 118, dar w 119] H _ := hI
  refine W.eq (g2 := F0 m 137 ls [.ref (sz + 16), .ref a]) rfl ?_
  refine ct_put (j := 19) hk hI dX12_init_137 (by decide) (by decide) (wat_mem (i := 1348) (by decide +kernel)) (cl_ty (q := 12) (by decide) 19 (by decide)) rfl rfl (Nat.le_of_ble_eq_true rfl) rfl fun H locs hI => ?_
  have hI : CI w s a sz 12 ((((((((((((((((((dfs 12).set 2 (.ref (sz + 0))).set 3 (.ref (sz + 1))).set 4 (.ref (sz + 2))).set 5 (.ref (sz + 3))).set 6 (.ref (sz + 4))).set 7 (.ref (sz + 5))).set 8 (.ref (sz + 6))).set 9 (.ref (sz + 7))).set 10 (.ref (sz + 8))).set 11 (.ref (sz + 9))).set 12 (.ref (sz + 10))).set 13 (.ref (sz + 11))).set 15 (.ref (sz + 12))).set 16 (.ref (sz + 13))).set 17 (.ref (sz + 14))).set 18 (.ref (sz + 15))).set 19 (.ref (sz + 16))) [dar w 102, dar w 103, dar w 104, dar w 105, dar w 106, dar w 107, dar w 108, dar w 109, dar w 110, dar w 111, dar w 112, dar w 113, dar w 115, dar w 116, dar w 117, dar w 118, dar w 119] H locs := hI
  refine W.eq (g2 := F0 m 140 ls []) rfl ?_
  refine lv_aload_n hx hb dX12_init_140 rfl (lv_at hl 0 rfl) ?_
  refine W.eq (g2 := F0 m 141 ls [.ref a]) rfl ?_
  refine lv_bipush hx hb (v := i32 16) dX12_init_141 (by decide) ?_
  refine W.eq (g2 := F0 m 143 ls [.int (i32 16), .ref a]) rfl ?_
  refine ct_newa (k2 := 120) (t := 0) (N' := 16) hk hI dX12_init_143 rfl (wat_mem (i := 148) (by decide +kernel)) rfl rfl (fun _ _ => Iff.rfl) (fun _ => rfl) (by decide) (by decide) (Nat.le_of_ble_eq_true rfl) (Nat.le_of_ble_eq_true rfl) (Nat.le_of_ble_eq_true rfl) fun H hI => ?_
  have hI : CI w s a sz 12 ((((((((((((((((((dfs 12).set 2 (.ref (sz + 0))).set 3 (.ref (sz + 1))).set 4 (.ref (sz + 2))).set 5 (.ref (sz + 3))).set 6 (.ref (sz + 4))).set 7 (.ref (sz + 5))).set 8 (.ref (sz + 6))).set 9 (.ref (sz + 7))).set 10 (.ref (sz + 8))).set 11 (.ref (sz + 9))).set 12 (.ref (sz + 10))).set 13 (.ref (sz + 11))).set 15 (.ref (sz + 12))).set 16 (.ref (sz + 13))).set 17 (.ref (sz + 14))).set 18 (.ref (sz + 15))).set 19 (.ref (sz + 16))) [dar w 102, dar w 103, dar w 104, dar w 105, dar w 106, dar w 107, dar w 108, dar w 109, dar w 110, dar w 111, dar w 112, dar w 113, dar w 115, dar w 116, dar w 117, dar w 118, dar w 119, dar w 120] H _ := hI
  refine W.eq (g2 := F0 m 145 ls [.ref (sz + 17), .ref a]) rfl ?_
  refine ct_put (j := 20) hk hI dX12_init_145 (by decide) (by decide) (wat_mem (i := 1349) (by decide +kernel)) (cl_ty (q := 12) (by decide) 20 (by decide)) rfl rfl (Nat.le_of_ble_eq_true rfl) rfl fun H locs hI => ?_
  have hI : CI w s a sz 12 (((((((((((((((((((dfs 12).set 2 (.ref (sz + 0))).set 3 (.ref (sz + 1))).set 4 (.ref (sz + 2))).set 5 (.ref (sz + 3))).set 6 (.ref (sz + 4))).set 7 (.ref (sz + 5))).set 8 (.ref (sz + 6))).set 9 (.ref (sz + 7))).set 10 (.ref (sz + 8))).set 11 (.ref (sz + 9))).set 12 (.ref (sz + 10))).set 13 (.ref (sz + 11))).set 15 (.ref (sz + 12))).set 16 (.ref (sz + 13))).set 17 (.ref (sz + 14))).set 18 (.ref (sz + 15))).set 19 (.ref (sz + 16))).set 20 (.ref (sz + 17))) [dar w 102, dar w 103, dar w 104, dar w 105, dar w 106, dar w 107, dar w 108, dar w 109, dar w 110, dar w 111, dar w 112, dar w 113, dar w 115, dar w 116, dar w 117, dar w 118, dar w 119, dar w 120] H locs := hI
  refine W.eq (g2 := F0 m 148 ls []) rfl ?_
  refine lv_aload_n hx hb dX12_init_148 rfl (lv_at hl 0 rfl) ?_
  refine W.eq (g2 := F0 m 149 ls [.ref a]) rfl ?_
  refine lv_iconst hx hb (v := i32 2) dX12_init_149 rfl ?_
  refine W.eq (g2 := F0 m 150 ls [.int (i32 2), .ref a]) rfl ?_
  refine ct_newa (k2 := 121) (t := 0) (N' := 2) hk hI dX12_init_150 rfl (wat_mem (i := 148) (by decide +kernel)) rfl rfl (fun _ _ => Iff.rfl) (fun _ => rfl) (by decide) (by decide) (Nat.le_of_ble_eq_true rfl) (Nat.le_of_ble_eq_true rfl) (Nat.le_of_ble_eq_true rfl) fun H hI => ?_
  have hI : CI w s a sz 12 (((((((((((((((((((dfs 12).set 2 (.ref (sz + 0))).set 3 (.ref (sz + 1))).set 4 (.ref (sz + 2))).set 5 (.ref (sz + 3))).set 6 (.ref (sz + 4))).set 7 (.ref (sz + 5))).set 8 (.ref (sz + 6))).set 9 (.ref (sz + 7))).set 10 (.ref (sz + 8))).set 11 (.ref (sz + 9))).set 12 (.ref (sz + 10))).set 13 (.ref (sz + 11))).set 15 (.ref (sz + 12))).set 16 (.ref (sz + 13))).set 17 (.ref (sz + 14))).set 18 (.ref (sz + 15))).set 19 (.ref (sz + 16))).set 20 (.ref (sz + 17))) [dar w 102, dar w 103, dar w 104, dar w 105, dar w 106, dar w 107, dar w 108, dar w 109, dar w 110, dar w 111, dar w 112, dar w 113, dar w 115, dar w 116, dar w 117, dar w 118, dar w 119, dar w 120, dar w 121] H _ := hI
  refine W.eq (g2 := F0 m 152 ls [.ref (sz + 18), .ref a]) rfl ?_
  refine ct_put (j := 21) hk hI dX12_init_152 (by decide) (by decide) (wat_mem (i := 1350) (by decide +kernel)) (cl_ty (q := 12) (by decide) 21 (by decide)) rfl rfl (Nat.le_of_ble_eq_true rfl) rfl fun H locs hI => ?_
  have hI : CI w s a sz 12 ((((((((((((((((((((dfs 12).set 2 (.ref (sz + 0))).set 3 (.ref (sz + 1))).set 4 (.ref (sz + 2))).set 5 (.ref (sz + 3))).set 6 (.ref (sz + 4))).set 7 (.ref (sz + 5))).set 8 (.ref (sz + 6))).set 9 (.ref (sz + 7))).set 10 (.ref (sz + 8))).set 11 (.ref (sz + 9))).set 12 (.ref (sz + 10))).set 13 (.ref (sz + 11))).set 15 (.ref (sz + 12))).set 16 (.ref (sz + 13))).set 17 (.ref (sz + 14))).set 18 (.ref (sz + 15))).set 19 (.ref (sz + 16))).set 20 (.ref (sz + 17))).set 21 (.ref (sz + 18))) [dar w 102, dar w 103, dar w 104, dar w 105, dar w 106, dar w 107, dar w 108, dar w 109, dar w 110, dar w 111, dar w 112, dar w 113, dar w 115, dar w 116, dar w 117, dar w 118, dar w 119, dar w 120, dar w 121] H locs := hI
  refine W.eq (g2 := F0 m 155 ls []) rfl ?_
  refine lv_aload_n hx hb dX12_init_155 rfl (lv_at hl 0 rfl) ?_
  refine W.eq (g2 := F0 m 156 ls [.ref a]) rfl ?_
  refine lv_bipush hx hb (v := i32 20) dX12_init_156 (by decide) ?_
  refine W.eq (g2 := F0 m 158 ls [.int (i32 20), .ref a]) rfl ?_
  refine ct_newa (k2 := 122) (t := 0) (N' := 20) hk hI dX12_init_158 rfl (wat_mem (i := 148) (by decide +kernel)) rfl rfl (fun _ _ => Iff.rfl) (fun _ => rfl) (by decide) (by decide) (Nat.le_of_ble_eq_true rfl) (Nat.le_of_ble_eq_true rfl) (Nat.le_of_ble_eq_true rfl) fun H hI => ?_
  have hI : CI w s a sz 12 ((((((((((((((((((((dfs 12).set 2 (.ref (sz + 0))).set 3 (.ref (sz + 1))).set 4 (.ref (sz + 2))).set 5 (.ref (sz + 3))).set 6 (.ref (sz + 4))).set 7 (.ref (sz + 5))).set 8 (.ref (sz + 6))).set 9 (.ref (sz + 7))).set 10 (.ref (sz + 8))).set 11 (.ref (sz + 9))).set 12 (.ref (sz + 10))).set 13 (.ref (sz + 11))).set 15 (.ref (sz + 12))).set 16 (.ref (sz + 13))).set 17 (.ref (sz + 14))).set 18 (.ref (sz + 15))).set 19 (.ref (sz + 16))).set 20 (.ref (sz + 17))).set 21 (.ref (sz + 18))) [dar w 102, dar w 103, dar w 104, dar w 105, dar w 106, dar w 107, dar w 108, dar w 109, dar w 110, dar w 111, dar w 112, dar w 113, dar w 115, dar w 116, dar w 117, dar w 118, dar w 119, dar w 120, dar w 121, dar w 122] H _ := hI
  refine W.eq (g2 := F0 m 160 ls [.ref (sz + 19), .ref a]) rfl ?_
  refine ct_put (j := 22) hk hI dX12_init_160 (by decide) (by decide) (wat_mem (i := 1351) (by decide +kernel)) (cl_ty (q := 12) (by decide) 22 (by decide)) rfl rfl (Nat.le_of_ble_eq_true rfl) rfl fun H locs hI => ?_
  have hI : CI w s a sz 12 (((((((((((((((((((((dfs 12).set 2 (.ref (sz + 0))).set 3 (.ref (sz + 1))).set 4 (.ref (sz + 2))).set 5 (.ref (sz + 3))).set 6 (.ref (sz + 4))).set 7 (.ref (sz + 5))).set 8 (.ref (sz + 6))).set 9 (.ref (sz + 7))).set 10 (.ref (sz + 8))).set 11 (.ref (sz + 9))).set 12 (.ref (sz + 10))).set 13 (.ref (sz + 11))).set 15 (.ref (sz + 12))).set 16 (.ref (sz + 13))).set 17 (.ref (sz + 14))).set 18 (.ref (sz + 15))).set 19 (.ref (sz + 16))).set 20 (.ref (sz + 17))).set 21 (.ref (sz + 18))).set 22 (.ref (sz + 19))) [dar w 102, dar w 103, dar w 104, dar w 105, dar w 106, dar w 107, dar w 108, dar w 109, dar w 110, dar w 111, dar w 112, dar w 113, dar w 115, dar w 116, dar w 117, dar w 118, dar w 119, dar w 120, dar w 121, dar w 122] H locs := hI
  refine W.eq (g2 := F0 m 163 ls []) rfl ?_
  refine lv_aload_n hx hb dX12_init_163 rfl (lv_at hl 0 rfl) ?_
  refine W.eq (g2 := F0 m 164 ls [.ref a]) rfl ?_
  refine lv_bipush hx hb (v := i32 12) dX12_init_164 (by decide) ?_
  refine W.eq (g2 := F0 m 166 ls [.int (i32 12), .ref a]) rfl ?_
  refine ct_newa (k2 := 123) (t := 1) (N' := 12) hk hI dX12_init_166 rfl (wat_mem (i := 121) (by decide +kernel)) rfl rfl (fun _ _ => Iff.rfl) (fun _ => rfl) (by decide) (by decide) (Nat.le_of_ble_eq_true rfl) (Nat.le_of_ble_eq_true rfl) (Nat.le_of_ble_eq_true rfl) fun H hI => ?_
  have hI : CI w s a sz 12 (((((((((((((((((((((dfs 12).set 2 (.ref (sz + 0))).set 3 (.ref (sz + 1))).set 4 (.ref (sz + 2))).set 5 (.ref (sz + 3))).set 6 (.ref (sz + 4))).set 7 (.ref (sz + 5))).set 8 (.ref (sz + 6))).set 9 (.ref (sz + 7))).set 10 (.ref (sz + 8))).set 11 (.ref (sz + 9))).set 12 (.ref (sz + 10))).set 13 (.ref (sz + 11))).set 15 (.ref (sz + 12))).set 16 (.ref (sz + 13))).set 17 (.ref (sz + 14))).set 18 (.ref (sz + 15))).set 19 (.ref (sz + 16))).set 20 (.ref (sz + 17))).set 21 (.ref (sz + 18))).set 22 (.ref (sz + 19))) [dar w 102, dar w 103, dar w 104, dar w 105, dar w 106, dar w 107, dar w 108, dar w 109, dar w 110, dar w 111, dar w 112, dar w 113, dar w 115, dar w 116, dar w 117, dar w 118, dar w 119, dar w 120, dar w 121, dar w 122, dar w 123] H _ := hI
  refine W.eq (g2 := F0 m 168 ls [.ref (sz + 20), .ref a]) rfl ?_
  refine ct_put (j := 23) hk hI dX12_init_168 (by decide) (by decide) (wat_mem (i := 1352) (by decide +kernel)) (cl_ty (q := 12) (by decide) 23 (by decide)) rfl rfl (Nat.le_of_ble_eq_true rfl) rfl fun H locs hI => ?_
  have hI : CI w s a sz 12 ((((((((((((((((((((((dfs 12).set 2 (.ref (sz + 0))).set 3 (.ref (sz + 1))).set 4 (.ref (sz + 2))).set 5 (.ref (sz + 3))).set 6 (.ref (sz + 4))).set 7 (.ref (sz + 5))).set 8 (.ref (sz + 6))).set 9 (.ref (sz + 7))).set 10 (.ref (sz + 8))).set 11 (.ref (sz + 9))).set 12 (.ref (sz + 10))).set 13 (.ref (sz + 11))).set 15 (.ref (sz + 12))).set 16 (.ref (sz + 13))).set 17 (.ref (sz + 14))).set 18 (.ref (sz + 15))).set 19 (.ref (sz + 16))).set 20 (.ref (sz + 17))).set 21 (.ref (sz + 18))).set 22 (.ref (sz + 19))).set 23 (.ref (sz + 20))) [dar w 102, dar w 103, dar w 104, dar w 105, dar w 106, dar w 107, dar w 108, dar w 109, dar w 110, dar w 111, dar w 112, dar w 113, dar w 115, dar w 116, dar w 117, dar w 118, dar w 119, dar w 120, dar w 121, dar w 122, dar w 123] H locs := hI
  refine W.eq (g2 := F0 m 171 ls []) rfl ?_
  refine lv_aload_n hx hb dX12_init_171 rfl (lv_at hl 0 rfl) ?_
  refine W.eq (g2 := F0 m 172 ls [.ref a]) rfl ?_
  refine lv_bipush hx hb (v := i32 10) dX12_init_172 (by decide) ?_
  refine W.eq (g2 := F0 m 174 ls [.int (i32 10), .ref a]) rfl ?_
  refine ct_newa (k2 := 124) (t := 1) (N' := 10) hk hI dX12_init_174 rfl (wat_mem (i := 121) (by decide +kernel)) rfl rfl (fun _ _ => Iff.rfl) (fun _ => rfl) (by decide) (by decide) (Nat.le_of_ble_eq_true rfl) (Nat.le_of_ble_eq_true rfl) (Nat.le_of_ble_eq_true rfl) fun H hI => ?_
  have hI : CI w s a sz 12 ((((((((((((((((((((((dfs 12).set 2 (.ref (sz + 0))).set 3 (.ref (sz + 1))).set 4 (.ref (sz + 2))).set 5 (.ref (sz + 3))).set 6 (.ref (sz + 4))).set 7 (.ref (sz + 5))).set 8 (.ref (sz + 6))).set 9 (.ref (sz + 7))).set 10 (.ref (sz + 8))).set 11 (.ref (sz + 9))).set 12 (.ref (sz + 10))).set 13 (.ref (sz + 11))).set 15 (.ref (sz + 12))).set 16 (.ref (sz + 13))).set 17 (.ref (sz + 14))).set 18 (.ref (sz + 15))).set 19 (.ref (sz + 16))).set 20 (.ref (sz + 17))).set 21 (.ref (sz + 18))).set 22 (.ref (sz + 19))).set 23 (.ref (sz + 20))) [dar w 102, dar w 103, dar w 104, dar w 105, dar w 106, dar w 107, dar w 108, dar w 109, dar w 110, dar w 111, dar w 112, dar w 113, dar w 115, dar w 116, dar w 117, dar w 118, dar w 119, dar w 120, dar w 121, dar w 122, dar w 123, dar w 124] H _ := hI
  refine W.eq (g2 := F0 m 176 ls [.ref (sz + 21), .ref a]) rfl ?_
  refine ct_put (j := 24) hk hI dX12_init_176 (by decide) (by decide) (wat_mem (i := 1353) (by decide +kernel)) (cl_ty (q := 12) (by decide) 24 (by decide)) rfl rfl (Nat.le_of_ble_eq_true rfl) rfl fun H locs hI => ?_
  have hI : CI w s a sz 12 (((((((((((((((((((((((dfs 12).set 2 (.ref (sz + 0))).set 3 (.ref (sz + 1))).set 4 (.ref (sz + 2))).set 5 (.ref (sz + 3))).set 6 (.ref (sz + 4))).set 7 (.ref (sz + 5))).set 8 (.ref (sz + 6))).set 9 (.ref (sz + 7))).set 10 (.ref (sz + 8))).set 11 (.ref (sz + 9))).set 12 (.ref (sz + 10))).set 13 (.ref (sz + 11))).set 15 (.ref (sz + 12))).set 16 (.ref (sz + 13))).set 17 (.ref (sz + 14))).set 18 (.ref (sz + 15))).set 19 (.ref (sz + 16))).set 20 (.ref (sz + 17))).set 21 (.ref (sz + 18))).set 22 (.ref (sz + 19))).set 23 (.ref (sz + 20))).set 24 (.ref (sz + 21))) [dar w 102, dar w 103, dar w 104, dar w 105, dar w 106, dar w 107, dar w 108, dar w 109, dar w 110, dar w 111, dar w 112, dar w 113, dar w 115, dar w 116, dar w 117, dar w 118, dar w 119, dar w 120, dar w 121, dar w 122, dar w 123, dar w 124] H locs := hI
  refine W.eq (g2 := F0 m 179 ls []) rfl ?_
  refine lv_aload_n hx hb dX12_init_179 rfl (lv_at hl 0 rfl) ?_
  refine W.eq (g2 := F0 m 180 ls [.ref a]) rfl ?_
  refine lv_bipush hx hb (v := i32 10) dX12_init_180 (by decide) ?_
  refine W.eq (g2 := F0 m 182 ls [.int (i32 10), .ref a]) rfl ?_
  refine ct_newa (k2 := 125) (t := 0) (N' := 10) hk hI dX12_init_182 rfl (wat_mem (i := 148) (by decide +kernel)) rfl rfl (fun _ _ => Iff.rfl) (fun _ => rfl) (by decide) (by decide) (Nat.le_of_ble_eq_true rfl) (Nat.le_of_ble_eq_true rfl) (Nat.le_of_ble_eq_true rfl) fun H hI => ?_
  have hI : CI w s a sz 12 (((((((((((((((((((((((dfs 12).set 2 (.ref (sz + 0))).set 3 (.ref (sz + 1))).set 4 (.ref (sz + 2))).set 5 (.ref (sz + 3))).set 6 (.ref (sz + 4))).set 7 (.ref (sz + 5))).set 8 (.ref (sz + 6))).set 9 (.ref (sz + 7))).set 10 (.ref (sz + 8))).set 11 (.ref (sz + 9))).set 12 (.ref (sz + 10))).set 13 (.ref (sz + 11))).set 15 (.ref (sz + 12))).set 16 (.ref (sz + 13))).set 17 (.ref (sz + 14))).set 18 (.ref (sz + 15))).set 19 (.ref (sz + 16))).set 20 (.ref (sz + 17))).set 21 (.ref (sz + 18))).set 22 (.ref (sz + 19))).set 23 (.ref (sz + 20))).set 24 (.ref (sz + 21))) [dar w 102, dar w 103, dar w 104, dar w 105, dar w 106, dar w 107, dar w 108, dar w 109, dar w 110, dar w 111, dar w 112, dar w 113, dar w 115, dar w 116, dar w 117, dar w 118, dar w 119, dar w 120, dar w 121, dar w 122, dar w 123, dar w 124, dar w 125] H _ := hI
  refine W.eq (g2 := F0 m 184 ls [.ref (sz + 22), .ref a]) rfl ?_
  refine ct_put (j := 25) hk hI dX12_init_184 (by decide) (by decide) (wat_mem (i := 1354) (by decide +kernel)) (cl_ty (q := 12) (by decide) 25 (by decide)) rfl rfl (Nat.le_of_ble_eq_true rfl) rfl fun H locs hI => ?_
  have hI : CI w s a sz 12 ((((((((((((((((((((((((dfs 12).set 2 (.ref (sz + 0))).set 3 (.ref (sz + 1))).set 4 (.ref (sz + 2))).set 5 (.ref (sz + 3))).set 6 (.ref (sz + 4))).set 7 (.ref (sz + 5))).set 8 (.ref (sz + 6))).set 9 (.ref (sz + 7))).set 10 (.ref (sz + 8))).set 11 (.ref (sz + 9))).set 12 (.ref (sz + 10))).set 13 (.ref (sz + 11))).set 15 (.ref (sz + 12))).set 16 (.ref (sz + 13))).set 17 (.ref (sz + 14))).set 18 (.ref (sz + 15))).set 19 (.ref (sz + 16))).set 20 (.ref (sz + 17))).set 21 (.ref (sz + 18))).set 22 (.ref (sz + 19))).set 23 (.ref (sz + 20))).set 24 (.ref (sz + 21))).set 25 (.ref (sz + 22))) [dar w 102, dar w 103, dar w 104, dar w 105, dar w 106, dar w 107, dar w 108, dar w 109, dar w 110, dar w 111, dar w 112, dar w 113, dar w 115, dar w 116, dar w 117, dar w 118, dar w 119, dar w 120, dar w 121, dar w 122, dar w 123, dar w 124, dar w 125] H locs := hI
  refine W.eq (g2 := F0 m 187 ls []) rfl ?_
  refine lv_aload_n hx hb dX12_init_187 rfl (lv_at hl 0 rfl) ?_
  refine W.eq (g2 := F0 m 188 ls [.ref a]) rfl ?_
  refine lv_iconst hx hb (v := i32 2) dX12_init_188 rfl ?_
  refine W.eq (g2 := F0 m 189 ls [.int (i32 2), .ref a]) rfl ?_
  refine ct_newa (k2 := 126) (t := 0) (N' := 2) hk hI dX12_init_189 rfl (wat_mem (i := 148) (by decide +kernel)) rfl rfl (fun _ _ => Iff.rfl) (fun _ => rfl) (by decide) (by decide) (Nat.le_of_ble_eq_true rfl) (Nat.le_of_ble_eq_true rfl) (Nat.le_of_ble_eq_true rfl) fun H hI => ?_
  have hI : CI w s a sz 12 ((((((((((((((((((((((((dfs 12).set 2 (.ref (sz + 0))).set 3 (.ref (sz + 1))).set 4 (.ref (sz + 2))).set 5 (.ref (sz + 3))).set 6 (.ref (sz + 4))).set 7 (.ref (sz + 5))).set 8 (.ref (sz + 6))).set 9 (.ref (sz + 7))).set 10 (.ref (sz + 8))).set 11 (.ref (sz + 9))).set 12 (.ref (sz + 10))).set 13 (.ref (sz + 11))).set 15 (.ref (sz + 12))).set 16 (.ref (sz + 13))).set 17 (.ref (sz + 14))).set 18 (.ref (sz + 15))).set 19 (.ref (sz + 16))).set 20 (.ref (sz + 17))).set 21 (.ref (sz + 18))).set 22 (.ref (sz + 19))).set 23 (.ref (sz + 20))).set 24 (.ref (sz + 21))).set 25 (.ref (sz + 22))) [dar w 102, dar w 103, dar w 104, dar w 105, dar w 106, dar w 107, dar w 108, dar w 109, dar w 110, dar w 111, dar w 112, dar w 113, dar w 115, dar w 116, dar w 117, dar w 118, dar w 119, dar w 120, dar w 121, dar w 122, dar w 123, dar w 124, dar w 125, dar w 126] H _ := hI
  refine W.eq (g2 := F0 m 191 ls [.ref (sz + 23), .ref a]) rfl ?_
  refine ct_put (j := 26) hk hI dX12_init_191 (by decide) (by decide) (wat_mem (i := 1355) (by decide +kernel)) (cl_ty (q := 12) (by decide) 26 (by decide)) rfl rfl (Nat.le_of_ble_eq_true rfl) rfl fun H locs hI => ?_
  have hI : CI w s a sz 12 (((((((((((((((((((((((((dfs 12).set 2 (.ref (sz + 0))).set 3 (.ref (sz + 1))).set 4 (.ref (sz + 2))).set 5 (.ref (sz + 3))).set 6 (.ref (sz + 4))).set 7 (.ref (sz + 5))).set 8 (.ref (sz + 6))).set 9 (.ref (sz + 7))).set 10 (.ref (sz + 8))).set 11 (.ref (sz + 9))).set 12 (.ref (sz + 10))).set 13 (.ref (sz + 11))).set 15 (.ref (sz + 12))).set 16 (.ref (sz + 13))).set 17 (.ref (sz + 14))).set 18 (.ref (sz + 15))).set 19 (.ref (sz + 16))).set 20 (.ref (sz + 17))).set 21 (.ref (sz + 18))).set 22 (.ref (sz + 19))).set 23 (.ref (sz + 20))).set 24 (.ref (sz + 21))).set 25 (.ref (sz + 22))).set 26 (.ref (sz + 23))) [dar w 102, dar w 103, dar w 104, dar w 105, dar w 106, dar w 107, dar w 108, dar w 109, dar w 110, dar w 111, dar w 112, dar w 113, dar w 115, dar w 116, dar w 117, dar w 118, dar w 119, dar w 120, dar w 121, dar w 122, dar w 123, dar w 124, dar w 125, dar w 126] H locs := hI
  refine W.eq (g2 := F0 m 194 ls []) rfl ?_
  refine lv_aload_n hx hb dX12_init_194 rfl (lv_at hl 0 rfl) ?_
  refine W.eq (g2 := F0 m 195 ls [.ref a]) rfl ?_
  refine lv_bipush hx hb (v := i32 20) dX12_init_195 (by decide) ?_
  refine W.eq (g2 := F0 m 197 ls [.int (i32 20), .ref a]) rfl ?_
  refine ct_newa (k2 := 127) (t := 0) (N' := 20) hk hI dX12_init_197 rfl (wat_mem (i := 148) (by decide +kernel)) rfl rfl (fun _ _ => Iff.rfl) (fun _ => rfl) (by decide) (by decide) (Nat.le_of_ble_eq_true rfl) (Nat.le_of_ble_eq_true rfl) (Nat.le_of_ble_eq_true rfl) fun H hI => ?_
  have hI : CI w s a sz 12 (((((((((((((((((((((((((dfs 12).set 2 (.ref (sz + 0))).set 3 (.ref (sz + 1))).set 4 (.ref (sz + 2))).set 5 (.ref (sz + 3))).set 6 (.ref (sz + 4))).set 7 (.ref (sz + 5))).set 8 (.ref (sz + 6))).set 9 (.ref (sz + 7))).set 10 (.ref (sz + 8))).set 11 (.ref (sz + 9))).set 12 (.ref (sz + 10))).set 13 (.ref (sz + 11))).set 15 (.ref (sz + 12))).set 16 (.ref (sz + 13))).set 17 (.ref (sz + 14))).set 18 (.ref (sz + 15))).set 19 (.ref (sz + 16))).set 20 (.ref (sz + 17))).set 21 (.ref (sz + 18))).set 22 (.ref (sz + 19))).set 23 (.ref (sz + 20))).set 24 (.ref (sz + 21))).set 25 (.ref (sz + 22))).set 26 (.ref (sz + 23))) [dar w 102, dar w 103, dar w 104, dar w 105, dar w 106, dar w 107, dar w 108, dar w 109, dar w 110, dar w 111, dar w 112, dar w 113, dar w 115, dar w 116, dar w 117, dar w 118, dar w 119, dar w 120, dar w 121, dar w 122, dar w 123, dar w 124, dar w 125, dar w 126, dar w 127] H _ := hI
  refine W.eq (g2 := F0 m 199 ls [.ref (sz + 24), .ref a]) rfl ?_
  refine ct_put (j := 27) hk hI dX12_init_199 (by decide) (by decide) (wat_mem (i := 1356) (by decide +kernel)) (cl_ty (q := 12) (by decide) 27 (by decide)) rfl rfl (Nat.le_of_ble_eq_true rfl) rfl fun H locs hI => ?_
  have hI : CI w s a sz 12 ((((((((((((((((((((((((((dfs 12).set 2 (.ref (sz + 0))).set 3 (.ref (sz + 1))).set 4 (.ref (sz + 2))).set 5 (.ref (sz + 3))).set 6 (.ref (sz + 4))).set 7 (.ref (sz + 5))).set 8 (.ref (sz + 6))).set 9 (.ref (sz + 7))).set 10 (.ref (sz + 8))).set 11 (.ref (sz + 9))).set 12 (.ref (sz + 10))).set 13 (.ref (sz + 11))).set 15 (.ref (sz + 12))).set 16 (.ref (sz + 13))).set 17 (.ref (sz + 14))).set 18 (.ref (sz + 15))).set 19 (.ref (sz + 16))).set 20 (.ref (sz + 17))).set 21 (.ref (sz + 18))).set 22 (.ref (sz + 19))).set 23 (.ref (sz + 20))).set 24 (.ref (sz + 21))).set 25 (.ref (sz + 22))).set 26 (.ref (sz + 23))).set 27 (.ref (sz + 24))) [dar w 102, dar w 103, dar w 104, dar w 105, dar w 106, dar w 107, dar w 108, dar w 109, dar w 110, dar w 111, dar w 112, dar w 113, dar w 115, dar w 116, dar w 117, dar w 118, dar w 119, dar w 120, dar w 121, dar w 122, dar w 123, dar w 124, dar w 125, dar w 126, dar w 127] H locs := hI
  refine W.eq (g2 := F0 m 202 ls []) rfl ?_
  refine lv_aload_n hx hb dX12_init_202 rfl (lv_at hl 0 rfl) ?_
  refine W.eq (g2 := F0 m 203 ls [.ref a]) rfl ?_
  refine lv_iconst hx hb (v := i32 (-1)) dX12_init_203 rfl ?_
  refine W.eq (g2 := F0 m 204 ls [.int (i32 (-1)), .ref a]) rfl ?_
  refine ct_put (j := 28) hk hI dX12_init_204 (by decide) (by decide) (wat_mem (i := 1357) (by decide +kernel)) (cl_ty (q := 12) (by decide) 28 (by decide)) (narrow_i _).1 (narrow_i _).2 (Nat.le_of_ble_eq_true rfl) rfl fun H locs hI => ?_
  have hI : CI w s a sz 12 (((((((((((((((((((((((((((dfs 12).set 2 (.ref (sz + 0))).set 3 (.ref (sz + 1))).set 4 (.ref (sz + 2))).set 5 (.ref (sz + 3))).set 6 (.ref (sz + 4))).set 7 (.ref (sz + 5))).set 8 (.ref (sz + 6))).set 9 (.ref (sz + 7))).set 10 (.ref (sz + 8))).set 11 (.ref (sz + 9))).set 12 (.ref (sz + 10))).set 13 (.ref (sz + 11))).set 15 (.ref (sz + 12))).set 16 (.ref (sz + 13))).set 17 (.ref (sz + 14))).set 18 (.ref (sz + 15))).set 19 (.ref (sz + 16))).set 20 (.ref (sz + 17))).set 21 (.ref (sz + 18))).set 22 (.ref (sz + 19))).set 23 (.ref (sz + 20))).set 24 (.ref (sz + 21))).set 25 (.ref (sz + 22))).set 26 (.ref (sz + 23))).set 27 (.ref (sz + 24))).set 28 (.int (i32 (-1)))) [dar w 102, dar w 103, dar w 104, dar w 105, dar w 106, dar w 107, dar w 108, dar w 109, dar w 110, dar w 111, dar w 112, dar w 113, dar w 115, dar w 116, dar w 117, dar w 118, dar w 119, dar w 120, dar w 121, dar w 122, dar w 123, dar w 124, dar w 125, dar w 126, dar w 127] H locs := hI
  refine W.eq (g2 := F0 m 207 ls []) rfl ?_
  refine lv_aload_n hx hb dX12_init_207 rfl (lv_at hl 0 rfl) ?_
  refine W.eq (g2 := F0 m 208 ls [.ref a]) rfl ?_
  refine lv_iconst hx hb (v := i32 2) dX12_init_208 rfl ?_
  refine W.eq (g2 := F0 m 209 ls [.int (i32 2), .ref a]) rfl ?_
  refine ct_newa (k2 := 129) (t := 0) (N' := 2) hk hI dX12_init_209 rfl (wat_mem (i := 148) (by decide +kernel)) rfl rfl (fun _ _ => Iff.rfl) (fun _ => rfl) (by decide) (by decide) (Nat.le_of_ble_eq_true rfl) (Nat.le_of_ble_eq_true rfl) (Nat.le_of_ble_eq_true rfl) fun H hI => ?_
  have hI : CI w s a sz 12 (((((((((((((((((((((((((((dfs 12).set 2 (.ref (sz + 0))).set 3 (.ref (sz + 1))).set 4 (.ref (sz + 2))).set 5 (.ref (sz + 3))).set 6 (.ref (sz + 4))).set 7 (.ref (sz + 5))).set 8 (.ref (sz + 6))).set 9 (.ref (sz + 7))).set 10 (.ref (sz + 8))).set 11 (.ref (sz + 9))).set 12 (.ref (sz + 10))).set 13 (.ref (sz + 11))).set 15 (.ref (sz + 12))).set 16 (.ref (sz + 13))).set 17 (.ref (sz + 14))).set 18 (.ref (sz + 15))).set 19 (.ref (sz + 16))).set 20 (.ref (sz + 17))).set 21 (.ref (sz + 18))).set 22 (.ref (sz + 19))).set 23 (.ref (sz + 20))).set 24 (.ref (sz + 21))).set 25 (.ref (sz + 22))).set 26 (.ref (sz + 23))).set 27 (.ref (sz + 24))).set 28 (.int (i32 (-1)))) [dar w 102, dar w 103, dar w 104, dar w 105, dar w 106, dar w 107, dar w 108, dar w 109, dar w 110, dar w 111, dar w 112, dar w 113, dar w 115, dar w 116, dar w 117, dar w 118, dar w 119, dar w 120, dar w 121, dar w 122, dar w 123, dar w 124, dar w 125, dar w 126, dar w 127, dar w 129] H _ := hI
  refine W.eq (g2 := F0 m 211 ls [.ref (sz + 25), .ref a]) rfl ?_
  refine ct_put (j := 29) hk hI dX12_init_211 (by decide) (by decide) (wat_mem (i := 1358) (by decide +kernel)) (cl_ty (q := 12) (by decide) 29 (by decide)) rfl rfl (Nat.le_of_ble_eq_true rfl) rfl fun H locs hI => ?_
  have hI : CI w s a sz 12 ((((((((((((((((((((((((((((dfs 12).set 2 (.ref (sz + 0))).set 3 (.ref (sz + 1))).set 4 (.ref (sz + 2))).set 5 (.ref (sz + 3))).set 6 (.ref (sz + 4))).set 7 (.ref (sz + 5))).set 8 (.ref (sz + 6))).set 9 (.ref (sz + 7))).set 10 (.ref (sz + 8))).set 11 (.ref (sz + 9))).set 12 (.ref (sz + 10))).set 13 (.ref (sz + 11))).set 15 (.ref (sz + 12))).set 16 (.ref (sz + 13))).set 17 (.ref (sz + 14))).set 18 (.ref (sz + 15))).set 19 (.ref (sz + 16))).set 20 (.ref (sz + 17))).set 21 (.ref (sz + 18))).set 22 (.ref (sz + 19))).set 23 (.ref (sz + 20))).set 24 (.ref (sz + 21))).set 25 (.ref (sz + 22))).set 26 (.ref (sz + 23))).set 27 (.ref (sz + 24))).set 28 (.int (i32 (-1)))).set 29 (.ref (sz + 25))) [dar w 102, dar w 103, dar w 104, dar w 105, dar w 106, dar w 107, dar w 108, dar w 109, dar w 110, dar w 111, dar w 112, dar w 113, dar w 115, dar w 116, dar w 117, dar w 118, dar w 119, dar w 120, dar w 121, dar w 122, dar w 123, dar w 124, dar w 125, dar w 126, dar w 127, dar w 129] H locs := hI
  refine W.eq (g2 := F0 m 214 ls []) rfl ?_
  refine lv_aload_n hx hb dX12_init_214 rfl (lv_at hl 0 rfl) ?_
  refine W.eq (g2 := F0 m 215 ls [.ref a]) rfl ?_
  refine lv_iconst hx hb (v := i32 2) dX12_init_215 rfl ?_
  refine W.eq (g2 := F0 m 216 ls [.int (i32 2), .ref a]) rfl ?_
  refine ct_newa (k2 := 130) (t := 0) (N' := 2) hk hI dX12_init_216 rfl (wat_mem (i := 148) (by decide +kernel)) rfl rfl (fun _ _ => Iff.rfl) (fun _ => rfl) (by decide) (by decide) (Nat.le_of_ble_eq_true rfl) (Nat.le_of_ble_eq_true rfl) (Nat.le_of_ble_eq_true rfl) fun H hI => ?_
  have hI : CI w s a sz 12 ((((((((((((((((((((((((((((dfs 12).set 2 (.ref (sz + 0))).set 3 (.ref (sz + 1))).set 4 (.ref (sz + 2))).set 5 (.ref (sz + 3))).set 6 (.ref (sz + 4))).set 7 (.ref (sz + 5))).set 8 (.ref (sz + 6))).set 9 (.ref (sz + 7))).set 10 (.ref (sz + 8))).set 11 (.ref (sz + 9))).set 12 (.ref (sz + 10))).set 13 (.ref (sz + 11))).set 15 (.ref (sz + 12))).set 16 (.ref (sz + 13))).set 17 (.ref (sz + 14))).set 18 (.ref (sz + 15))).set 19 (.ref (sz + 16))).set 20 (.ref (sz + 17))).set 21 (.ref (sz + 18))).set 22 (.ref (sz + 19))).set 23 (.ref (sz + 20))).set 24 (.ref (sz + 21))).set 25 (.ref (sz + 22))).set 26 (.ref (sz + 23))).set 27 (.ref (sz + 24))).set 28 (.int (i32 (-1)))).set 29 (.ref (sz + 25))) [dar w 102, dar w 103, dar w 104, dar w 105, dar w 106, dar w 107, dar w 108, dar w 109, dar w 110, dar w 111, dar w 112, dar w 113, dar w 115, dar w 116, dar w 117, dar w 118, dar w 119, dar w 120, dar w 121, dar w 122, dar w 123, dar w 124, dar w 125, dar w 126, dar w 127, dar w 129, dar w 130] H _ := hI
  refine W.eq (g2 := F0 m 218 ls [.ref (sz + 26), .ref a]) rfl ?_
  refine ct_put (j := 30) hk hI dX12_init_218 (by decide) (by decide) (wat_mem (i := 1359) (by decide +kernel)) (cl_ty (q := 12) (by decide) 30 (by decide)) rfl rfl (Nat.le_of_ble_eq_true rfl) rfl fun H locs hI => ?_
  have hI : CI w s a sz 12 (((((((((((((((((((((((((((((dfs 12).set 2 (.ref (sz + 0))).set 3 (.ref (sz + 1))).set 4 (.ref (sz + 2))).set 5 (.ref (sz + 3))).set 6 (.ref (sz + 4))).set 7 (.ref (sz + 5))).set 8 (.ref (sz + 6))).set 9 (.ref (sz + 7))).set 10 (.ref (sz + 8))).set 11 (.ref (sz + 9))).set 12 (.ref (sz + 10))).set 13 (.ref (sz + 11))).set 15 (.ref (sz + 12))).set 16 (.ref (sz + 13))).set 17 (.ref (sz + 14))).set 18 (.ref (sz + 15))).set 19 (.ref (sz + 16))).set 20 (.ref (sz + 17))).set 21 (.ref (sz + 18))).set 22 (.ref (sz + 19))).set 23 (.ref (sz + 20))).set 24 (.ref (sz + 21))).set 25 (.ref (sz + 22))).set 26 (.ref (sz + 23))).set 27 (.ref (sz + 24))).set 28 (.int (i32 (-1)))).set 29 (.ref (sz + 25))).set 30 (.ref (sz + 26))) [dar w 102, dar w 103, dar w 104, dar w 105, dar w 106, dar w 107, dar w 108, dar w 109, dar w 110, dar w 111, dar w 112, dar w 113, dar w 115, dar w 116, dar w 117, dar w 118, dar w 119, dar w 120, dar w 121, dar w 122, dar w 123, dar w 124, dar w 125, dar w 126, dar w 127, dar w 129, dar w 130] H locs := hI
  refine W.eq (g2 := F0 m 221 ls []) rfl ?_
  refine lv_aload_n hx hb dX12_init_221 rfl (lv_at hl 0 rfl) ?_
  refine W.eq (g2 := F0 m 222 ls [.ref a]) rfl ?_
  refine lv_iconst hx hb (v := i32 2) dX12_init_222 rfl ?_
  refine W.eq (g2 := F0 m 223 ls [.int (i32 2), .ref a]) rfl ?_
  refine ct_newa (k2 := 131) (t := 0) (N' := 2) hk hI dX12_init_223 rfl (wat_mem (i := 148) (by decide +kernel)) rfl rfl (fun _ _ => Iff.rfl) (fun _ => rfl) (by decide) (by decide) (Nat.le_of_ble_eq_true rfl) (Nat.le_of_ble_eq_true rfl) (Nat.le_of_ble_eq_true rfl) fun H hI => ?_
  have hI : CI w s a sz 12 (((((((((((((((((((((((((((((dfs 12).set 2 (.ref (sz + 0))).set 3 (.ref (sz + 1))).set 4 (.ref (sz + 2))).set 5 (.ref (sz + 3))).set 6 (.ref (sz + 4))).set 7 (.ref (sz + 5))).set 8 (.ref (sz + 6))).set 9 (.ref (sz + 7))).set 10 (.ref (sz + 8))).set 11 (.ref (sz + 9))).set 12 (.ref (sz + 10))).set 13 (.ref (sz + 11))).set 15 (.ref (sz + 12))).set 16 (.ref (sz + 13))).set 17 (.ref (sz + 14))).set 18 (.ref (sz + 15))).set 19 (.ref (sz + 16))).set 20 (.ref (sz + 17))).set 21 (.ref (sz + 18))).set 22 (.ref (sz + 19))).set 23 (.ref (sz + 20))).set 24 (.ref (sz + 21))).set 25 (.ref (sz + 22))).set 26 (.ref (sz + 23))).set 27 (.ref (sz + 24))).set 28 (.int (i32 (-1)))).set 29 (.ref (sz + 25))).set 30 (.ref (sz + 26))) [dar w 102, dar w 103, dar w 104, dar w 105, dar w 106, dar w 107, dar w 108, dar w 109, dar w 110, dar w 111, dar w 112, dar w 113, dar w 115, dar w 116, dar w 117, dar w 118, dar w 119, dar w 120, dar w 121, dar w 122, dar w 123, dar w 124, dar w 125, dar w 126, dar w 127, dar w 129, dar w 130, dar w 131] H _ := hI
  refine W.eq (g2 := F0 m 225 ls [.ref (sz + 27), .ref a]) rfl ?_
  refine ct_put (j := 31) hk hI dX12_init_225 (by decide) (by decide) (wat_mem (i := 1360) (by decide +kernel)) (cl_ty (q := 12) (by decide) 31 (by decide)) rfl rfl (Nat.le_of_ble_eq_true rfl) rfl fun H locs hI => ?_
  have hI : CI w s a sz 12 ((((((((((((((((((((((((((((((dfs 12).set 2 (.ref (sz + 0))).set 3 (.ref (sz + 1))).set 4 (.ref (sz + 2))).set 5 (.ref (sz + 3))).set 6 (.ref (sz + 4))).set 7 (.ref (sz + 5))).set 8 (.ref (sz + 6))).set 9 (.ref (sz + 7))).set 10 (.ref (sz + 8))).set 11 (.ref (sz + 9))).set 12 (.ref (sz + 10))).set 13 (.ref (sz + 11))).set 15 (.ref (sz + 12))).set 16 (.ref (sz + 13))).set 17 (.ref (sz + 14))).set 18 (.ref (sz + 15))).set 19 (.ref (sz + 16))).set 20 (.ref (sz + 17))).set 21 (.ref (sz + 18))).set 22 (.ref (sz + 19))).set 23 (.ref (sz + 20))).set 24 (.ref (sz + 21))).set 25 (.ref (sz + 22))).set 26 (.ref (sz + 23))).set 27 (.ref (sz + 24))).set 28 (.int (i32 (-1)))).set 29 (.ref (sz + 25))).set 30 (.ref (sz + 26))).set 31 (.ref (sz + 27))) [dar w 102, dar w 103, dar w 104, dar w 105, dar w 106, dar w 107, dar w 108, dar w 109, dar w 110, dar w 111, dar w 112, dar w 113, dar w 115, dar w 116, dar w 117, dar w 118, dar w 119, dar w 120, dar w 121, dar w 122, dar w 123, dar w 124, dar w 125, dar w 126, dar w 127, dar w 129, dar w 130, dar w 131] H locs := hI
  refine W.eq (g2 := F0 m 228 ls []) rfl ?_
  refine lv_aload_n hx hb dX12_init_228 rfl (lv_at hl 0 rfl) ?_
  refine W.eq (g2 := F0 m 229 ls [.ref a]) rfl ?_
  refine lv_iconst hx hb (v := i32 2) dX12_init_229 rfl ?_
  refine W.eq (g2 := F0 m 230 ls [.int (i32 2), .ref a]) rfl ?_
  refine ct_newa (k2 := 132) (t := 0) (N' := 2) hk hI dX12_init_230 rfl (wat_mem (i := 148) (by decide +kernel)) rfl rfl (fun _ _ => Iff.rfl) (fun _ => rfl) (by decide) (by decide) (Nat.le_of_ble_eq_true rfl) (Nat.le_of_ble_eq_true rfl) (Nat.le_of_ble_eq_true rfl) fun H hI => ?_
  have hI : CI w s a sz 12 ((((((((((((((((((((((((((((((dfs 12).set 2 (.ref (sz + 0))).set 3 (.ref (sz + 1))).set 4 (.ref (sz + 2))).set 5 (.ref (sz + 3))).set 6 (.ref (sz + 4))).set 7 (.ref (sz + 5))).set 8 (.ref (sz + 6))).set 9 (.ref (sz + 7))).set 10 (.ref (sz + 8))).set 11 (.ref (sz + 9))).set 12 (.ref (sz + 10))).set 13 (.ref (sz + 11))).set 15 (.ref (sz + 12))).set 16 (.ref (sz + 13))).set 17 (.ref (sz + 14))).set 18 (.ref (sz + 15))).set 19 (.ref (sz + 16))).set 20 (.ref (sz + 17))).set 21 (.ref (sz + 18))).set 22 (.ref (sz + 19))).set 23 (.ref (sz + 20))).set 24 (.ref (sz + 21))).set 25 (.ref (sz + 22))).set 26 (.ref (sz + 23))).set 27 (.ref (sz + 24))).set 28 (.int (i32 (-1)))).set 29 (.ref (sz + 25))).set 30 (.ref (sz + 26))).set 31 (.ref (sz + 27))) [dar w 102, dar w 103, dar w 104, dar w 105, dar w 106, dar w 107, dar w 108, dar w 109, dar w 110, dar w 111, dar w 112, dar w 113, dar w 115, dar w 116, dar w 117, dar w 118, dar w 119, dar w 120, dar w 121, dar w 122, dar w 123, dar w 124, dar w 125, dar w 126, dar w 127, dar w 129, dar w 130, dar w 131, dar w 132] H _ := hI
  refine W.eq (g2 := F0 m 232 ls [.ref (sz + 28), .ref a]) rfl ?_
  refine ct_put (j := 32) hk hI dX12_init_232 (by decide) (by decide) (wat_mem (i := 1361) (by decide +kernel)) (cl_ty (q := 12) (by decide) 32 (by decide)) rfl rfl (Nat.le_of_ble_eq_true rfl) rfl fun H locs hI => ?_
  have hI : CI w s a sz 12 (((((((((((((((((((((((((((((((dfs 12).set 2 (.ref (sz + 0))).set 3 (.ref (sz + 1))).set 4 (.ref (sz + 2))).set 5 (.ref (sz + 3))).set 6 (.ref (sz + 4))).set 7 (.ref (sz + 5))).set 8 (.ref (sz + 6))).set 9 (.ref (sz + 7))).set 10 (.ref (sz + 8))).set 11 (.ref (sz + 9))).set 12 (.ref (sz + 10))).set 13 (.ref (sz + 11))).set 15 (.ref (sz + 12))).set 16 (.ref (sz + 13))).set 17 (.ref (sz + 14))).set 18 (.ref (sz + 15))).set 19 (.ref (sz + 16))).set 20 (.ref (sz + 17))).set 21 (.ref (sz + 18))).set 22 (.ref (sz + 19))).set 23 (.ref (sz + 20))).set 24 (.ref (sz + 21))).set 25 (.ref (sz + 22))).set 26 (.ref (sz + 23))).set 27 (.ref (sz + 24))).set 28 (.int (i32 (-1)))).set 29 (.ref (sz + 25))).set 30 (.ref (sz + 26))).set 31 (.ref (sz + 27))).set 32 (.ref (sz + 28))) [dar w 102, dar w 103, dar w 104, dar w 105, dar w 106, dar w 107, dar w 108, dar w 109, dar w 110, dar w 111, dar w 112, dar w 113, dar w 115, dar w 116, dar w 117, dar w 118, dar w 119, dar w 120, dar w 121, dar w 122, dar w 123, dar w 124, dar w 125, dar w 126, dar w 127, dar w 129, dar w 130, dar w 131, dar w 132] H locs := hI
  refine W.eq (g2 := F0 m 235 ls []) rfl ?_
  refine lv_aload_n hx hb dX12_init_235 rfl (lv_at hl 0 rfl) ?_
  refine W.eq (g2 := F0 m 236 ls [.ref a]) rfl ?_
  refine lv_iconst hx hb (v := i32 2) dX12_init_236 rfl ?_
  refine W.eq (g2 := F0 m 237 ls [.int (i32 2), .ref a]) rfl ?_
  refine ct_newa (k2 := 133) (t := 0) (N' := 2) hk hI dX12_init_237 rfl (wat_mem (i := 148) (by decide +kernel)) rfl rfl (fun _ _ => Iff.rfl) (fun _ => rfl) (by decide) (by decide) (Nat.le_of_ble_eq_true rfl) (Nat.le_of_ble_eq_true rfl) (Nat.le_of_ble_eq_true rfl) fun H hI => ?_
  have hI : CI w s a sz 12 (((((((((((((((((((((((((((((((dfs 12).set 2 (.ref (sz + 0))).set 3 (.ref (sz + 1))).set 4 (.ref (sz + 2))).set 5 (.ref (sz + 3))).set 6 (.ref (sz + 4))).set 7 (.ref (sz + 5))).set 8 (.ref (sz + 6))).set 9 (.ref (sz + 7))).set 10 (.ref (sz + 8))).set 11 (.ref (sz + 9))).set 12 (.ref (sz + 10))).set 13 (.ref (sz + 11))).set 15 (.ref (sz + 12))).set 16 (.ref (sz + 13))).set 17 (.ref (sz + 14))).set 18 (.ref (sz + 15))).set 19 (.ref (sz + 16))).set 20 (.ref (sz + 17))).set 21 (.ref (sz + 18))).set 22 (.ref (sz + 19))).set 23 (.ref (sz + 20))).set 24 (.ref (sz + 21))).set 25 (.ref (sz + 22))).set 26 (.ref (sz + 23))).set 27 (.ref (sz + 24))).set 28 (.int (i32 (-1)))).set 29 (.ref (sz + 25))).set 30 (.ref (sz + 26))).set 31 (.ref (sz + 27))).set 32 (.ref (sz + 28))) [dar w 102, dar w 103, dar w 104, dar w 105, dar w 106, dar w 107, dar w 108, dar w 109, dar w 110, dar w 111, dar w 112, dar w 113, dar w 115, dar w 116, dar w 117, dar w 118, dar w 119, dar w 120, dar w 121, dar w 122, dar w 123, dar w 124, dar w 125, dar w 126, dar w 127, dar w 129, dar w 130, dar w 131, dar w 132, dar w 133] H _ := hI
  refine W.eq (g2 := F0 m 239 ls [.ref (sz + 29), .ref a]) rfl ?_
  refine ct_put (j := 33) hk hI dX12_init_239 (by decide) (by decide) (wat_mem (i := 1362) (by decide +kernel)) (cl_ty (q := 12) (by decide) 33 (by decide)) rfl rfl (Nat.le_of_ble_eq_true rfl) rfl fun H locs hI => ?_
  have hI : CI w s a sz 12 ((((((((((((((((((((((((((((((((dfs 12).set 2 (.ref (sz + 0))).set 3 (.ref (sz + 1))).set 4 (.ref (sz + 2))).set 5 (.ref (sz + 3))).set 6 (.ref (sz + 4))).set 7 (.ref (sz + 5))).set 8 (.ref (sz + 6))).set 9 (.ref (sz + 7))).set 10 (.ref (sz + 8))).set 11 (.ref (sz + 9))).set 12 (.ref (sz + 10))).set 13 (.ref (sz + 11))).set 15 (.ref (sz + 12))).set 16 (.ref (sz + 13))).set 17 (.ref (sz + 14))).set 18 (.ref (sz + 15))).set 19 (.ref (sz + 16))).set 20 (.ref (sz + 17))).set 21 (.ref (sz + 18))).set 22 (.ref (sz + 19))).set 23 (.ref (sz + 20))).set 24 (.ref (sz + 21))).set 25 (.ref (sz + 22))).set 26 (.ref (sz + 23))).set 27 (.ref (sz + 24))).set 28 (.int (i32 (-1)))).set 29 (.ref (sz + 25))).set 30 (.ref (sz + 26))).set 31 (.ref (sz + 27))).set 32 (.ref (sz + 28))).set 33 (.ref (sz + 29))) [dar w 102, dar w 103, dar w 104, dar w 105, dar w 106, dar w 107, dar w 108, dar w 109, dar w 110, dar w 111, dar w 112, dar w 113, dar w 115, dar w 116, dar w 117, dar w 118, dar w 119, dar w 120, dar w 121, dar w 122, dar w 123, dar w 124, dar w 125, dar w 126, dar w 127, dar w 129, dar w 130, dar w 131, dar w 132, dar w 133] H locs := hI
  refine W.eq (g2 := F0 m 242 ls []) rfl ?_
  refine lv_aload_n hx hb dX12_init_242 rfl (lv_at hl 0 rfl) ?_
  refine W.eq (g2 := F0 m 243 ls [.ref a]) rfl ?_
  refine lv_iconst hx hb (v := i32 2) dX12_init_243 rfl ?_
  refine W.eq (g2 := F0 m 244 ls [.int (i32 2), .ref a]) rfl ?_
  refine ct_newa (k2 := 134) (t := 0) (N' := 2) hk hI dX12_init_244 rfl (wat_mem (i := 148) (by decide +kernel)) rfl rfl (fun _ _ => Iff.rfl) (fun _ => rfl) (by decide) (by decide) (Nat.le_of_ble_eq_true rfl) (Nat.le_of_ble_eq_true rfl) (Nat.le_of_ble_eq_true rfl) fun H hI => ?_
  have hI : CI w s a sz 12 ((((((((((((((((((((((((((((((((dfs 12).set 2 (.ref (sz + 0))).set 3 (.ref (sz + 1))).set 4 (.ref (sz + 2))).set 5 (.ref (sz + 3))).set 6 (.ref (sz + 4))).set 7 (.ref (sz + 5))).set 8 (.ref (sz + 6))).set 9 (.ref (sz + 7))).set 10 (.ref (sz + 8))).set 11 (.ref (sz + 9))).set 12 (.ref (sz + 10))).set 13 (.ref (sz + 11))).set 15 (.ref (sz + 12))).set 16 (.ref (sz + 13))).set 17 (.ref (sz + 14))).set 18 (.ref (sz + 15))).set 19 (.ref (sz + 16))).set 20 (.ref (sz + 17))).set 21 (.ref (sz + 18))).set 22 (.ref (sz + 19))).set 23 (.ref (sz + 20))).set 24 (.ref (sz + 21))).set 25 (.ref (sz + 22))).set 26 (.ref (sz + 23))).set 27 (.ref (sz + 24))).set 28 (.int (i32 (-1)))).set 29 (.ref (sz + 25))).set 30 (.ref (sz + 26))).set 31 (.ref (sz + 27))).set 32 (.ref (sz + 28))).set 33 (.ref (sz + 29))) [dar w 102, dar w 103, dar w 104, dar w 105, dar w 106, dar w 107, dar w 108, dar w 109, dar w 110, dar w 111, dar w 112, dar w 113, dar w 115, dar w 116, dar w 117, dar w 118, dar w 119, dar w 120, dar w 121, dar w 122, dar w 123, dar w 124, dar w 125, dar w 126, dar w 127, dar w 129, dar w 130, dar w 131, dar w 132, dar w 133, dar w 134] H _ := hI
  refine W.eq (g2 := F0 m 246 ls [.ref (sz + 30), .ref a]) rfl ?_
  refine ct_put (j := 34) hk hI dX12_init_246 (by decide) (by decide) (wat_mem (i := 1363) (by decide +kernel)) (cl_ty (q := 12) (by decide) 34 (by decide)) rfl rfl (Nat.le_of_ble_eq_true rfl) rfl fun H locs hI => ?_
  have hI : CI w s a sz 12 (((((((((((((((((((((((((((((((((dfs 12).set 2 (.ref (sz + 0))).set 3 (.ref (sz + 1))).set 4 (.ref (sz + 2))).set 5 (.ref (sz + 3))).set 6 (.ref (sz + 4))).set 7 (.ref (sz + 5))).set 8 (.ref (sz + 6))).set 9 (.ref (sz + 7))).set 10 (.ref (sz + 8))).set 11 (.ref (sz + 9))).set 12 (.ref (sz + 10))).set 13 (.ref (sz + 11))).set 15 (.ref (sz + 12))).set 16 (.ref (sz + 13))).set 17 (.ref (sz + 14))).set 18 (.ref (sz + 15))).set 19 (.ref (sz + 16))).set 20 (.ref (sz + 17))).set 21 (.ref (sz + 18))).set 22 (.ref (sz + 19))).set 23 (.ref (sz + 20))).set 24 (.ref (sz + 21))).set 25 (.ref (sz + 22))).set 26 (.ref (sz + 23))).set 27 (.ref (sz + 24))).set 28 (.int (i32 (-1)))).set 29 (.ref (sz + 25))).set 30 (.ref (sz + 26))).set 31 (.ref (sz + 27))).set 32 (.ref (sz + 28))).set 33 (.ref (sz + 29))).set 34 (.ref (sz + 30))) [dar w 102, dar w 103, dar w 104, dar w 105, dar w 106, dar w 107, dar w 108, dar w 109, dar w 110, dar w 111, dar w 112, dar w 113, dar w 115, dar w 116, dar w 117, dar w 118, dar w 119, dar w 120, dar w 121, dar w 122, dar w 123, dar w 124, dar w 125, dar w 126, dar w 127, dar w 129, dar w 130, dar w 131, dar w 132, dar w 133, dar w 134] H locs := hI
  refine W.eq (g2 := F0 m 249 ls []) rfl ?_
  refine lv_aload_n hx hb dX12_init_249 rfl (lv_at hl 0 rfl) ?_
  refine W.eq (g2 := F0 m 250 ls [.ref a]) rfl ?_
  refine lv_bipush hx hb (v := i32 120) dX12_init_250 (by decide) ?_
  refine W.eq (g2 := F0 m 252 ls [.int (i32 120), .ref a]) rfl ?_
  refine ct_newa (k2 := 135) (t := 0) (N' := 120) hk hI dX12_init_252 rfl (wat_mem (i := 148) (by decide +kernel)) rfl rfl (fun _ _ => Iff.rfl) (fun _ => rfl) (by decide) (by decide) (Nat.le_of_ble_eq_true rfl) (Nat.le_of_ble_eq_true rfl) (Nat.le_of_ble_eq_true rfl) fun H hI => ?_
  have hI : CI w s a sz 12 (((((((((((((((((((((((((((((((((dfs 12).set 2 (.ref (sz + 0))).set 3 (.ref (sz + 1))).set 4 (.ref (sz + 2))).set 5 (.ref (sz + 3))).set 6 (.ref (sz + 4))).set 7 (.ref (sz + 5))).set 8 (.ref (sz + 6))).set 9 (.ref (sz + 7))).set 10 (.ref (sz + 8))).set 11 (.ref (sz + 9))).set 12 (.ref (sz + 10))).set 13 (.ref (sz + 11))).set 15 (.ref (sz + 12))).set 16 (.ref (sz + 13))).set 17 (.ref (sz + 14))).set 18 (.ref (sz + 15))).set 19 (.ref (sz + 16))).set 20 (.ref (sz + 17))).set 21 (.ref (sz + 18))).set 22 (.ref (sz + 19))).set 23 (.ref (sz + 20))).set 24 (.ref (sz + 21))).set 25 (.ref (sz + 22))).set 26 (.ref (sz + 23))).set 27 (.ref (sz + 24))).set 28 (.int (i32 (-1)))).set 29 (.ref (sz + 25))).set 30 (.ref (sz + 26))).set 31 (.ref (sz + 27))).set 32 (.ref (sz + 28))).set 33 (.ref (sz + 29))).set 34 (.ref (sz + 30))) [dar w 102, dar w 103, dar w 104, dar w 105, dar w 106, dar w 107, dar w 108, dar w 109, dar w 110, dar w 111, dar w 112, dar w 113, dar w 115, dar w 116, dar w 117, dar w 118, dar w 119, dar w 120, dar w 121, dar w 122, dar w 123, dar w 124, dar w 125, dar w 126, dar w 127, dar w 129, dar w 130, dar w 131, dar w 132, dar w 133, dar w 134, dar w 135] H _ := hI
  refine W.eq (g2 := F0 m 254 ls [.ref (sz + 31), .ref a]) rfl ?_
  refine ct_put (j := 35) hk hI dX12_init_254 (by decide) (by decide) (wat_mem (i := 1364) (by decide +kernel)) (cl_ty (q := 12) (by decide) 35 (by decide)) rfl rfl (Nat.le_of_ble_eq_true rfl) rfl fun H locs hI => ?_
  have hI : CI w s a sz 12 ((((((((((((((((((((((((((((((((((dfs 12).set 2 (.ref (sz + 0))).set 3 (.ref (sz + 1))).set 4 (.ref (sz + 2))).set 5 (.ref (sz + 3))).set 6 (.ref (sz + 4))).set 7 (.ref (sz + 5))).set 8 (.ref (sz + 6))).set 9 (.ref (sz + 7))).set 10 (.ref (sz + 8))).set 11 (.ref (sz + 9))).set 12 (.ref (sz + 10))).set 13 (.ref (sz + 11))).set 15 (.ref (sz + 12))).set 16 (.ref (sz + 13))).set 17 (.ref (sz + 14))).set 18 (.ref (sz + 15))).set 19 (.ref (sz + 16))).set 20 (.ref (sz + 17))).set 21 (.ref (sz + 18))).set 22 (.ref (sz + 19))).set 23 (.ref (sz + 20))).set 24 (.ref (sz + 21))).set 25 (.ref (sz + 22))).set 26 (.ref (sz + 23))).set 27 (.ref (sz + 24))).set 28 (.int (i32 (-1)))).set 29 (.ref (sz + 25))).set 30 (.ref (sz + 26))).set 31 (.ref (sz + 27))).set 32 (.ref (sz + 28))).set 33 (.ref (sz + 29))).set 34 (.ref (sz + 30))).set 35 (.ref (sz + 31))) [dar w 102, dar w 103, dar w 104, dar w 105, dar w 106, dar w 107, dar w 108, dar w 109, dar w 110, dar w 111, dar w 112, dar w 113, dar w 115, dar w 116, dar w 117, dar w 118, dar w 119, dar w 120, dar w 121, dar w 122, dar w 123, dar w 124, dar w 125, dar w 126, dar w 127, dar w 129, dar w 130, dar w 131, dar w 132, dar w 133, dar w 134, dar w 135] H locs := hI
  refine W.eq (g2 := F0 m 257 ls []) rfl ?_
  refine lv_aload_n hx hb dX12_init_257 rfl (lv_at hl 0 rfl) ?_
  refine W.eq (g2 := F0 m 258 ls [.ref a]) rfl ?_
  refine lv_bipush hx hb (v := i32 120) dX12_init_258 (by decide) ?_
  refine W.eq (g2 := F0 m 260 ls [.int (i32 120), .ref a]) rfl ?_
  refine ct_newa (k2 := 136) (t := 0) (N' := 120) hk hI dX12_init_260 rfl (wat_mem (i := 148) (by decide +kernel)) rfl rfl (fun _ _ => Iff.rfl) (fun _ => rfl) (by decide) (by decide) (Nat.le_of_ble_eq_true rfl) (Nat.le_of_ble_eq_true rfl) (Nat.le_of_ble_eq_true rfl) fun H hI => ?_
  have hI : CI w s a sz 12 ((((((((((((((((((((((((((((((((((dfs 12).set 2 (.ref (sz + 0))).set 3 (.ref (sz + 1))).set 4 (.ref (sz + 2))).set 5 (.ref (sz + 3))).set 6 (.ref (sz + 4))).set 7 (.ref (sz + 5))).set 8 (.ref (sz + 6))).set 9 (.ref (sz + 7))).set 10 (.ref (sz + 8))).set 11 (.ref (sz + 9))).set 12 (.ref (sz + 10))).set 13 (.ref (sz + 11))).set 15 (.ref (sz + 12))).set 16 (.ref (sz + 13))).set 17 (.ref (sz + 14))).set 18 (.ref (sz + 15))).set 19 (.ref (sz + 16))).set 20 (.ref (sz + 17))).set 21 (.ref (sz + 18))).set 22 (.ref (sz + 19))).set 23 (.ref (sz + 20))).set 24 (.ref (sz + 21))).set 25 (.ref (sz + 22))).set 26 (.ref (sz + 23))).set 27 (.ref (sz + 24))).set 28 (.int (i32 (-1)))).set 29 (.ref (sz + 25))).set 30 (.ref (sz + 26))).set 31 (.ref (sz + 27))).set 32 (.ref (sz + 28))).set 33 (.ref (sz + 29))).set 34 (.ref (sz + 30))).set 35 (.ref (sz + 31))) [dar w 102, dar w 103, dar w 104, dar w 105, dar w 106, dar w 107, dar w 108, dar w 109, dar w 110, dar w 111, dar w 112, dar w 113, dar w 115, dar w 116, dar w 117, dar w 118, dar w 119, dar w 120, dar w 121, dar w 122, dar w 123, dar w 124, dar w 125, dar w 126, dar w 127, dar w 129, dar w 130, dar w 131, dar w 132, dar w 133, dar w 134, dar w 135, dar w 136] H _ := hI
  refine W.eq (g2 := F0 m 262 ls [.ref (sz + 32), .ref a]) rfl ?_
  refine ct_put (j := 36) hk hI dX12_init_262 (by decide) (by decide) (wat_mem (i := 1365) (by decide +kernel)) (cl_ty (q := 12) (by decide) 36 (by decide)) rfl rfl (Nat.le_of_ble_eq_true rfl) rfl fun H locs hI => ?_
  have hI : CI w s a sz 12 (((((((((((((((((((((((((((((((((((dfs 12).set 2 (.ref (sz + 0))).set 3 (.ref (sz + 1))).set 4 (.ref (sz + 2))).set 5 (.ref (sz + 3))).set 6 (.ref (sz + 4))).set 7 (.ref (sz + 5))).set 8 (.ref (sz + 6))).set 9 (.ref (sz + 7))).set 10 (.ref (sz + 8))).set 11 (.ref (sz + 9))).set 12 (.ref (sz + 10))).set 13 (.ref (sz + 11))).set 15 (.ref (sz + 12))).set 16 (.ref (sz + 13))).set 17 (.ref (sz + 14))).set 18 (.ref (sz + 15))).set 19 (.ref (sz + 16))).set 20 (.ref (sz + 17))).set 21 (.ref (sz + 18))).set 22 (.ref (sz + 19))).set 23 (.ref (sz + 20))).set 24 (.ref (sz + 21))).set 25 (.ref (sz + 22))).set 26 (.ref (sz + 23))).set 27 (.ref (sz + 24))).set 28 (.int (i32 (-1)))).set 29 (.ref (sz + 25))).set 30 (.ref (sz + 26))).set 31 (.ref (sz + 27))).set 32 (.ref (sz + 28))).set 33 (.ref (sz + 29))).set 34 (.ref (sz + 30))).set 35 (.ref (sz + 31))).set 36 (.ref (sz + 32))) [dar w 102, dar w 103, dar w 104, dar w 105, dar w 106, dar w 107, dar w 108, dar w 109, dar w 110, dar w 111, dar w 112, dar w 113, dar w 115, dar w 116, dar w 117, dar w 118, dar w 119, dar w 120, dar w 121, dar w 122, dar w 123, dar w 124, dar w 125, dar w 126, dar w 127, dar w 129, dar w 130, dar w 131, dar w 132, dar w 133, dar w 134, dar w 135, dar w 136] H locs := hI
  refine W.eq (g2 := F0 m 265 ls []) rfl ?_
  refine lv_aload_n hx hb dX12_init_265 rfl (lv_at hl 0 rfl) ?_
  refine W.eq (g2 := F0 m 266 ls [.ref a]) rfl ?_
  refine lv_bipush hx hb (v := i32 120) dX12_init_266 (by decide) ?_
  refine W.eq (g2 := F0 m 268 ls [.int (i32 120), .ref a]) rfl ?_
  refine ct_newa (k2 := 137) (t := 0) (N' := 120) hk hI dX12_init_268 rfl (wat_mem (i := 148) (by decide +kernel)) rfl rfl (fun _ _ => Iff.rfl) (fun _ => rfl) (by decide) (by decide) (Nat.le_of_ble_eq_true rfl) (Nat.le_of_ble_eq_true rfl) (Nat.le_of_ble_eq_true rfl) fun H hI => ?_
  have hI : CI w s a sz 12 (((((((((((((((((((((((((((((((((((dfs 12).set 2 (.ref (sz + 0))).set 3 (.ref (sz + 1))).set 4 (.ref (sz + 2))).set 5 (.ref (sz + 3))).set 6 (.ref (sz + 4))).set 7 (.ref (sz + 5))).set 8 (.ref (sz + 6))).set 9 (.ref (sz + 7))).set 10 (.ref (sz + 8))).set 11 (.ref (sz + 9))).set 12 (.ref (sz + 10))).set 13 (.ref (sz + 11))).set 15 (.ref (sz + 12))).set 16 (.ref (sz + 13))).set 17 (.ref (sz + 14))).set 18 (.ref (sz + 15))).set 19 (.ref (sz + 16))).set 20 (.ref (sz + 17))).set 21 (.ref (sz + 18))).set 22 (.ref (sz + 19))).set 23 (.ref (sz + 20))).set 24 (.ref (sz + 21))).set 25 (.ref (sz + 22))).set 26 (.ref (sz + 23))).set 27 (.ref (sz + 24))).set 28 (.int (i32 (-1)))).set 29 (.ref (sz + 25))).set 30 (.ref (sz + 26))).set 31 (.ref (sz + 27))).set 32 (.ref (sz + 28))).set 33 (.ref (sz + 29))).set 34 (.ref (sz + 30))).set 35 (.ref (sz + 31))).set 36 (.ref (sz + 32))) [dar w 102, dar w 103, dar w 104, dar w 105, dar w 106, dar w 107, dar w 108, dar w 109, dar w 110, dar w 111, dar w 112, dar w 113, dar w 115, dar w 116, dar w 117, dar w 118, dar w 119, dar w 120, dar w 121, dar w 122, dar w 123, dar w 124, dar w 125, dar w 126, dar w 127, dar w 129, dar w 130, dar w 131, dar w 132, dar w 133, dar w 134, dar w 135, dar w 136, dar w 137] H _ := hI
  refine W.eq (g2 := F0 m 270 ls [.ref (sz + 33), .ref a]) rfl ?_
  refine ct_put (j := 37) hk hI dX12_init_270 (by decide) (by decide) (wat_mem (i := 1366) (by decide +kernel)) (cl_ty (q := 12) (by decide) 37 (by decide)) rfl rfl (Nat.le_of_ble_eq_true rfl) rfl fun H locs hI => ?_
  have hI : CI w s a sz 12 ((((((((((((((((((((((((((((((((((((dfs 12).set 2 (.ref (sz + 0))).set 3 (.ref (sz + 1))).set 4 (.ref (sz + 2))).set 5 (.ref (sz + 3))).set 6 (.ref (sz + 4))).set 7 (.ref (sz + 5))).set 8 (.ref (sz + 6))).set 9 (.ref (sz + 7))).set 10 (.ref (sz + 8))).set 11 (.ref (sz + 9))).set 12 (.ref (sz + 10))).set 13 (.ref (sz + 11))).set 15 (.ref (sz + 12))).set 16 (.ref (sz + 13))).set 17 (.ref (sz + 14))).set 18 (.ref (sz + 15))).set 19 (.ref (sz + 16))).set 20 (.ref (sz + 17))).set 21 (.ref (sz + 18))).set 22 (.ref (sz + 19))).set 23 (.ref (sz + 20))).set 24 (.ref (sz + 21))).set 25 (.ref (sz + 22))).set 26 (.ref (sz + 23))).set 27 (.ref (sz + 24))).set 28 (.int (i32 (-1)))).set 29 (.ref (sz + 25))).set 30 (.ref (sz + 26))).set 31 (.ref (sz + 27))).set 32 (.ref (sz + 28))).set 33 (.ref (sz + 29))).set 34 (.ref (sz + 30))).set 35 (.ref (sz + 31))).set 36 (.ref (sz + 32))).set 37 (.ref (sz + 33))) [dar w 102, dar w 103, dar w 104, dar w 105, dar w 106, dar w 107, dar w 108, dar w 109, dar w 110, dar w 111, dar w 112, dar w 113, dar w 115, dar w 116, dar w 117, dar w 118, dar w 119, dar w 120, dar w 121, dar w 122, dar w 123, dar w 124, dar w 125, dar w 126, dar w 127, dar w 129, dar w 130, dar w 131, dar w 132, dar w 133, dar w 134, dar w 135, dar w 136, dar w 137] H locs := hI
  refine W.eq (g2 := F0 m 273 ls []) rfl ?_
  refine lv_aload_n hx hb dX12_init_273 rfl (lv_at hl 0 rfl) ?_
  refine W.eq (g2 := F0 m 274 ls [.ref a]) rfl ?_
  refine lv_bipush hx hb (v := i32 120) dX12_init_274 (by decide) ?_
  refine W.eq (g2 := F0 m 276 ls [.int (i32 120), .ref a]) rfl ?_
  refine ct_newa (k2 := 138) (t := 0) (N' := 120) hk hI dX12_init_276 rfl (wat_mem (i := 148) (by decide +kernel)) rfl rfl (fun _ _ => Iff.rfl) (fun _ => rfl) (by decide) (by decide) (Nat.le_of_ble_eq_true rfl) (Nat.le_of_ble_eq_true rfl) (Nat.le_of_ble_eq_true rfl) fun H hI => ?_
  have hI : CI w s a sz 12 ((((((((((((((((((((((((((((((((((((dfs 12).set 2 (.ref (sz + 0))).set 3 (.ref (sz + 1))).set 4 (.ref (sz + 2))).set 5 (.ref (sz + 3))).set 6 (.ref (sz + 4))).set 7 (.ref (sz + 5))).set 8 (.ref (sz + 6))).set 9 (.ref (sz + 7))).set 10 (.ref (sz + 8))).set 11 (.ref (sz + 9))).set 12 (.ref (sz + 10))).set 13 (.ref (sz + 11))).set 15 (.ref (sz + 12))).set 16 (.ref (sz + 13))).set 17 (.ref (sz + 14))).set 18 (.ref (sz + 15))).set 19 (.ref (sz + 16))).set 20 (.ref (sz + 17))).set 21 (.ref (sz + 18))).set 22 (.ref (sz + 19))).set 23 (.ref (sz + 20))).set 24 (.ref (sz + 21))).set 25 (.ref (sz + 22))).set 26 (.ref (sz + 23))).set 27 (.ref (sz + 24))).set 28 (.int (i32 (-1)))).set 29 (.ref (sz + 25))).set 30 (.ref (sz + 26))).set 31 (.ref (sz + 27))).set 32 (.ref (sz + 28))).set 33 (.ref (sz + 29))).set 34 (.ref (sz + 30))).set 35 (.ref (sz + 31))).set 36 (.ref (sz + 32))).set 37 (.ref (sz + 33))) [dar w 102, dar w 103, dar w 104, dar w 105, dar w 106, dar w 107, dar w 108, dar w 109, dar w 110, dar w 111, dar w 112, dar w 113, dar w 115, dar w 116, dar w 117, dar w 118, dar w 119, dar w 120, dar w 121, dar w 122, dar w 123, dar w 124, dar w 125, dar w 126, dar w 127, dar w 129, dar w 130, dar w 131, dar w 132, dar w 133, dar w 134, dar w 135, dar w 136, dar w 137, dar w 138] H _ := hI
  refine W.eq (g2 := F0 m 278 ls [.ref (sz + 34), .ref a]) rfl ?_
  refine ct_put (j := 38) hk hI dX12_init_278 (by decide) (by decide) (wat_mem (i := 1367) (by decide +kernel)) (cl_ty (q := 12) (by decide) 38 (by decide)) rfl rfl (Nat.le_of_ble_eq_true rfl) rfl fun H locs hI => ?_
  have hI : CI w s a sz 12 (((((((((((((((((((((((((((((((((((((dfs 12).set 2 (.ref (sz + 0))).set 3 (.ref (sz + 1))).set 4 (.ref (sz + 2))).set 5 (.ref (sz + 3))).set 6 (.ref (sz + 4))).set 7 (.ref (sz + 5))).set 8 (.ref (sz + 6))).set 9 (.ref (sz + 7))).set 10 (.ref (sz + 8))).set 11 (.ref (sz + 9))).set 12 (.ref (sz + 10))).set 13 (.ref (sz + 11))).set 15 (.ref (sz + 12))).set 16 (.ref (sz + 13))).set 17 (.ref (sz + 14))).set 18 (.ref (sz + 15))).set 19 (.ref (sz + 16))).set 20 (.ref (sz + 17))).set 21 (.ref (sz + 18))).set 22 (.ref (sz + 19))).set 23 (.ref (sz + 20))).set 24 (.ref (sz + 21))).set 25 (.ref (sz + 22))).set 26 (.ref (sz + 23))).set 27 (.ref (sz + 24))).set 28 (.int (i32 (-1)))).set 29 (.ref (sz + 25))).set 30 (.ref (sz + 26))).set 31 (.ref (sz + 27))).set 32 (.ref (sz + 28))).set 33 (.ref (sz + 29))).set 34 (.ref (sz + 30))).set 35 (.ref (sz + 31))).set 36 (.ref (sz + 32))).set 37 (.ref (sz + 33))).set 38 (.ref (sz + 34))) [dar w 102, dar w 103, dar w 104, dar w 105, dar w 106, dar w 107, dar w 108, dar w 109, dar w 110, dar w 111, dar w 112, dar w 113, dar w 115, dar w 116, dar w 117, dar w 118, dar w 119, dar w 120, dar w 121, dar w 122, dar w 123, dar w 124, dar w 125, dar w 126, dar w 127, dar w 129, dar w 130, dar w 131, dar w 132, dar w 133, dar w 134, dar w 135, dar w 136, dar w 137, dar w 138] H locs := hI
  refine W.eq (g2 := F0 m 281 ls []) rfl ?_
  refine lv_aload_n hx hb dX12_init_281 rfl (lv_at hl 0 rfl) ?_
  refine W.eq (g2 := F0 m 282 ls [.ref a]) rfl ?_
  refine lv_bipush hx hb (v := i32 120) dX12_init_282 (by decide) ?_
  refine W.eq (g2 := F0 m 284 ls [.int (i32 120), .ref a]) rfl ?_
  refine ct_newa (k2 := 139) (t := 0) (N' := 120) hk hI dX12_init_284 rfl (wat_mem (i := 148) (by decide +kernel)) rfl rfl (fun _ _ => Iff.rfl) (fun _ => rfl) (by decide) (by decide) (Nat.le_of_ble_eq_true rfl) (Nat.le_of_ble_eq_true rfl) (Nat.le_of_ble_eq_true rfl) fun H hI => ?_
  have hI : CI w s a sz 12 (((((((((((((((((((((((((((((((((((((dfs 12).set 2 (.ref (sz + 0))).set 3 (.ref (sz + 1))).set 4 (.ref (sz + 2))).set 5 (.ref (sz + 3))).set 6 (.ref (sz + 4))).set 7 (.ref (sz + 5))).set 8 (.ref (sz + 6))).set 9 (.ref (sz + 7))).set 10 (.ref (sz + 8))).set 11 (.ref (sz + 9))).set 12 (.ref (sz + 10))).set 13 (.ref (sz + 11))).set 15 (.ref (sz + 12))).set 16 (.ref (sz + 13))).set 17 (.ref (sz + 14))).set 18 (.ref (sz + 15))).set 19 (.ref (sz + 16))).set 20 (.ref (sz + 17))).set 21 (.ref (sz + 18))).set 22 (.ref (sz + 19))).set 23 (.ref (sz + 20))).set 24 (.ref (sz + 21))).set 25 (.ref (sz + 22))).set 26 (.ref (sz + 23))).set 27 (.ref (sz + 24))).set 28 (.int (i32 (-1)))).set 29 (.ref (sz + 25))).set 30 (.ref (sz + 26))).set 31 (.ref (sz + 27))).set 32 (.ref (sz + 28))).set 33 (.ref (sz + 29))).set 34 (.ref (sz + 30))).set 35 (.ref (sz + 31))).set 36 (.ref (sz + 32))).set 37 (.ref (sz + 33))).set 38 (.ref (sz + 34))) [dar w 102, dar w 103, dar w 104, dar w 105, dar w 106, dar w 107, dar w 108, dar w 109, dar w 110, dar w 111, dar w 112, dar w 113, dar w 115, dar w 116, dar w 117, dar w 118, dar w 119, dar w 120, dar w 121, dar w 122, dar w 123, dar w 124, dar w 125, dar w 126, dar w 127, dar w 129, dar w 130, dar w 131, dar w 132, dar w 133, dar w 134, dar w 135, dar w 136, dar w 137, dar w 138, dar w 139] H _ := hI
  refine W.eq (g2 := F0 m 286 ls [.ref (sz + 35), .ref a]) rfl ?_
  refine ct_put (j := 39) hk hI dX12_init_286 (by decide) (by decide) (wat_mem (i := 1368) (by decide +kernel)) (cl_ty (q := 12) (by decide) 39 (by decide)) rfl rfl (Nat.le_of_ble_eq_true rfl) rfl fun H locs hI => ?_
  have hI : CI w s a sz 12 ((((((((((((((((((((((((((((((((((((((dfs 12).set 2 (.ref (sz + 0))).set 3 (.ref (sz + 1))).set 4 (.ref (sz + 2))).set 5 (.ref (sz + 3))).set 6 (.ref (sz + 4))).set 7 (.ref (sz + 5))).set 8 (.ref (sz + 6))).set 9 (.ref (sz + 7))).set 10 (.ref (sz + 8))).set 11 (.ref (sz + 9))).set 12 (.ref (sz + 10))).set 13 (.ref (sz + 11))).set 15 (.ref (sz + 12))).set 16 (.ref (sz + 13))).set 17 (.ref (sz + 14))).set 18 (.ref (sz + 15))).set 19 (.ref (sz + 16))).set 20 (.ref (sz + 17))).set 21 (.ref (sz + 18))).set 22 (.ref (sz + 19))).set 23 (.ref (sz + 20))).set 24 (.ref (sz + 21))).set 25 (.ref (sz + 22))).set 26 (.ref (sz + 23))).set 27 (.ref (sz + 24))).set 28 (.int (i32 (-1)))).set 29 (.ref (sz + 25))).set 30 (.ref (sz + 26))).set 31 (.ref (sz + 27))).set 32 (.ref (sz + 28))).set 33 (.ref (sz + 29))).set 34 (.ref (sz + 30))).set 35 (.ref (sz + 31))).set 36 (.ref (sz + 32))).set 37 (.ref (sz + 33))).set 38 (.ref (sz + 34))).set 39 (.ref (sz + 35))) [dar w 102, dar w 103, dar w 104, dar w 105, dar w 106, dar w 107, dar w 108, dar w 109, dar w 110, dar w 111, dar w 112, dar w 113, dar w 115, dar w 116, dar w 117, dar w 118, dar w 119, dar w 120, dar w 121, dar w 122, dar w 123, dar w 124, dar w 125, dar w 126, dar w 127, dar w 129, dar w 130, dar w 131, dar w 132, dar w 133, dar w 134, dar w 135, dar w 136, dar w 137, dar w 138, dar w 139] H locs := hI
  refine W.eq (g2 := F0 m 289 ls []) rfl ?_
  refine lv_aload_n hx hb dX12_init_289 rfl (lv_at hl 0 rfl) ?_
  refine W.eq (g2 := F0 m 290 ls [.ref a]) rfl ?_
  refine lv_bipush hx hb (v := i32 120) dX12_init_290 (by decide) ?_
  refine W.eq (g2 := F0 m 292 ls [.int (i32 120), .ref a]) rfl ?_
  refine ct_newa (k2 := 140) (t := 1) (N' := 120) hk hI dX12_init_292 rfl (wat_mem (i := 121) (by decide +kernel)) rfl rfl (fun _ _ => Iff.rfl) (fun _ => rfl) (by decide) (by decide) (Nat.le_of_ble_eq_true rfl) (Nat.le_of_ble_eq_true rfl) (Nat.le_of_ble_eq_true rfl) fun H hI => ?_
  have hI : CI w s a sz 12 ((((((((((((((((((((((((((((((((((((((dfs 12).set 2 (.ref (sz + 0))).set 3 (.ref (sz + 1))).set 4 (.ref (sz + 2))).set 5 (.ref (sz + 3))).set 6 (.ref (sz + 4))).set 7 (.ref (sz + 5))).set 8 (.ref (sz + 6))).set 9 (.ref (sz + 7))).set 10 (.ref (sz + 8))).set 11 (.ref (sz + 9))).set 12 (.ref (sz + 10))).set 13 (.ref (sz + 11))).set 15 (.ref (sz + 12))).set 16 (.ref (sz + 13))).set 17 (.ref (sz + 14))).set 18 (.ref (sz + 15))).set 19 (.ref (sz + 16))).set 20 (.ref (sz + 17))).set 21 (.ref (sz + 18))).set 22 (.ref (sz + 19))).set 23 (.ref (sz + 20))).set 24 (.ref (sz + 21))).set 25 (.ref (sz + 22))).set 26 (.ref (sz + 23))).set 27 (.ref (sz + 24))).set 28 (.int (i32 (-1)))).set 29 (.ref (sz + 25))).set 30 (.ref (sz + 26))).set 31 (.ref (sz + 27))).set 32 (.ref (sz + 28))).set 33 (.ref (sz + 29))).set 34 (.ref (sz + 30))).set 35 (.ref (sz + 31))).set 36 (.ref (sz + 32))).set 37 (.ref (sz + 33))).set 38 (.ref (sz + 34))).set 39 (.ref (sz + 35))) [dar w 102, dar w 103, dar w 104, dar w 105, dar w 106, dar w 107, dar w 108, dar w 109, dar w 110, dar w 111, dar w 112, dar w 113, dar w 115, dar w 116, dar w 117, dar w 118, dar w 119, dar w 120, dar w 121, dar w 122, dar w 123, dar w 124, dar w 125, dar w 126, dar w 127, dar w 129, dar w 130, dar w 131, dar w 132, dar w 133, dar w 134, dar w 135, dar w 136, dar w 137, dar w 138, dar w 139, dar w 140] H _ := hI
  refine W.eq (g2 := F0 m 294 ls [.ref (sz + 36), .ref a]) rfl ?_
  refine ct_put (j := 40) hk hI dX12_init_294 (by decide) (by decide) (wat_mem (i := 1369) (by decide +kernel)) (cl_ty (q := 12) (by decide) 40 (by decide)) rfl rfl (Nat.le_of_ble_eq_true rfl) rfl fun H locs hI => ?_
  have hI : CI w s a sz 12 (((((((((((((((((((((((((((((((((((((((dfs 12).set 2 (.ref (sz + 0))).set 3 (.ref (sz + 1))).set 4 (.ref (sz + 2))).set 5 (.ref (sz + 3))).set 6 (.ref (sz + 4))).set 7 (.ref (sz + 5))).set 8 (.ref (sz + 6))).set 9 (.ref (sz + 7))).set 10 (.ref (sz + 8))).set 11 (.ref (sz + 9))).set 12 (.ref (sz + 10))).set 13 (.ref (sz + 11))).set 15 (.ref (sz + 12))).set 16 (.ref (sz + 13))).set 17 (.ref (sz + 14))).set 18 (.ref (sz + 15))).set 19 (.ref (sz + 16))).set 20 (.ref (sz + 17))).set 21 (.ref (sz + 18))).set 22 (.ref (sz + 19))).set 23 (.ref (sz + 20))).set 24 (.ref (sz + 21))).set 25 (.ref (sz + 22))).set 26 (.ref (sz + 23))).set 27 (.ref (sz + 24))).set 28 (.int (i32 (-1)))).set 29 (.ref (sz + 25))).set 30 (.ref (sz + 26))).set 31 (.ref (sz + 27))).set 32 (.ref (sz + 28))).set 33 (.ref (sz + 29))).set 34 (.ref (sz + 30))).set 35 (.ref (sz + 31))).set 36 (.ref (sz + 32))).set 37 (.ref (sz + 33))).set 38 (.ref (sz + 34))).set 39 (.ref (sz + 35))).set 40 (.ref (sz + 36))) [dar w 102, dar w 103, dar w 104, dar w 105, dar w 106, dar w 107, dar w 108, dar w 109, dar w 110, dar w 111, dar w 112, dar w 113, dar w 115, dar w 116, dar w 117, dar w 118, dar w 119, dar w 120, dar w 121, dar w 122, dar w 123, dar w 124, dar w 125, dar w 126, dar w 127, dar w 129, dar w 130, dar w 131, dar w 132, dar w 133, dar w 134, dar w 135, dar w 136, dar w 137, dar w 138, dar w 139, dar w 140] H locs := hI
  refine W.eq (g2 := F0 m 297 ls []) rfl ?_
  refine lv_aload_n hx hb dX12_init_297 rfl (lv_at hl 0 rfl) ?_
  refine W.eq (g2 := F0 m 298 ls [.ref a]) rfl ?_
  refine lv_bipush hx hb (v := i32 24) dX12_init_298 (by decide) ?_
  refine W.eq (g2 := F0 m 300 ls [.int (i32 24), .ref a]) rfl ?_
  refine ct_newa (k2 := 141) (t := 0) (N' := 24) hk hI dX12_init_300 rfl (wat_mem (i := 148) (by decide +kernel)) rfl rfl (fun _ _ => Iff.rfl) (fun _ => rfl) (by decide) (by decide) (Nat.le_of_ble_eq_true rfl) (Nat.le_of_ble_eq_true rfl) (Nat.le_of_ble_eq_true rfl) fun H hI => ?_
  have hI : CI w s a sz 12 (((((((((((((((((((((((((((((((((((((((dfs 12).set 2 (.ref (sz + 0))).set 3 (.ref (sz + 1))).set 4 (.ref (sz + 2))).set 5 (.ref (sz + 3))).set 6 (.ref (sz + 4))).set 7 (.ref (sz + 5))).set 8 (.ref (sz + 6))).set 9 (.ref (sz + 7))).set 10 (.ref (sz + 8))).set 11 (.ref (sz + 9))).set 12 (.ref (sz + 10))).set 13 (.ref (sz + 11))).set 15 (.ref (sz + 12))).set 16 (.ref (sz + 13))).set 17 (.ref (sz + 14))).set 18 (.ref (sz + 15))).set 19 (.ref (sz + 16))).set 20 (.ref (sz + 17))).set 21 (.ref (sz + 18))).set 22 (.ref (sz + 19))).set 23 (.ref (sz + 20))).set 24 (.ref (sz + 21))).set 25 (.ref (sz + 22))).set 26 (.ref (sz + 23))).set 27 (.ref (sz + 24))).set 28 (.int (i32 (-1)))).set 29 (.ref (sz + 25))).set 30 (.ref (sz + 26))).set 31 (.ref (sz + 27))).set 32 (.ref (sz + 28))).set 33 (.ref (sz + 29))).set 34 (.ref (sz + 30))).set 35 (.ref (sz + 31))).set 36 (.ref (sz + 32))).set 37 (.ref (sz + 33))).set 38 (.ref (sz + 34))).set 39 (.ref (sz + 35))).set 40 (.ref (sz + 36))) [dar w 102, dar w 103, dar w 104, dar w 105, dar w 106, dar w 107, dar w 108, dar w 109, dar w 110, dar w 111, dar w 112, dar w 113, dar w 115, dar w 116, dar w 117, dar w 118, dar w 119, dar w 120, dar w 121, dar w 122, dar w 123, dar w 124, dar w 125, dar w 126, dar w 127, dar w 129, dar w 130, dar w 131, dar w 132, dar w 133, dar w 134, dar w 135, dar w 136, dar w 137, dar w 138, dar w 139, dar w 140, dar w 141] H _ := hI
  refine W.eq (g2 := F0 m 302 ls [.ref (sz + 37), .ref a]) rfl ?_
  refine ct_put (j := 41) hk hI dX12_init_302 (by decide) (by decide) (wat_mem (i := 1370) (by decide +kernel)) (cl_ty (q := 12) (by decide) 41 (by decide)) rfl rfl (Nat.le_of_ble_eq_true rfl) rfl fun H locs hI => ?_
  have hI : CI w s a sz 12 ((((((((((((((((((((((((((((((((((((((((dfs 12).set 2 (.ref (sz + 0))).set 3 (.ref (sz + 1))).set 4 (.ref (sz + 2))).set 5 (.ref (sz + 3))).set 6 (.ref (sz + 4))).set 7 (.ref (sz + 5))).set 8 (.ref (sz + 6))).set 9 (.ref (sz + 7))).set 10 (.ref (sz + 8))).set 11 (.ref (sz + 9))).set 12 (.ref (sz + 10))).set 13 (.ref (sz + 11))).set 15 (.ref (sz + 12))).set 16 (.ref (sz + 13))).set 17 (.ref (sz + 14))).set 18 (.ref (sz + 15))).set 19 (.ref (sz + 16))).set 20 (.ref (sz + 17))).set 21 (.ref (sz + 18))).set 22 (.ref (sz + 19))).set 23 (.ref (sz + 20))).set 24 (.ref (sz + 21))).set 25 (.ref (sz + 22))).set 26 (.ref (sz + 23))).set 27 (.ref (sz + 24))).set 28 (.int (i32 (-1)))).set 29 (.ref (sz + 25))).set 30 (.ref (sz + 26))).set 31 (.ref (sz + 27))).set 32 (.ref (sz + 28))).set 33 (.ref (sz + 29))).set 34 (.ref (sz + 30))).set 35 (.ref (sz + 31))).set 36 (.ref (sz + 32))).set 37 (.ref (sz + 33))).set 38 (.ref (sz + 34))).set 39 (.ref (sz + 35))).set 40 (.ref (sz + 36))).set 41 (.ref (sz + 37))) [dar w 102, dar w 103, dar w 104, dar w 105, dar w 106, dar w 107, dar w 108, dar w 109, dar w 110, dar w 111, dar w 112, dar w 113, dar w 115, dar w 116, dar w 117, dar w 118, dar w 119, dar w 120, dar w 121, dar w 122, dar w 123, dar w 124, dar w 125, dar w 126, dar w 127, dar w 129, dar w 130, dar w 131, dar w 132, dar w 133, dar w 134, dar w 135, dar w 136, dar w 137, dar w 138, dar w 139, dar w 140, dar w 141] H locs := hI
  refine W.eq (g2 := F0 m 305 ls []) rfl ?_
  refine lv_aload_n hx hb dX12_init_305 rfl (lv_at hl 0 rfl) ?_
  refine W.eq (g2 := F0 m 306 ls [.ref a]) rfl ?_
  refine lv_bipush hx hb (v := i32 10) dX12_init_306 (by decide) ?_
  refine W.eq (g2 := F0 m 308 ls [.int (i32 10), .ref a]) rfl ?_
  refine ct_newa (k2 := 143) (t := 0) (N' := 10) hk hI dX12_init_308 rfl (wat_mem (i := 148) (by decide +kernel)) rfl rfl (fun _ _ => Iff.rfl) (fun _ => rfl) (by decide) (by decide) (Nat.le_of_ble_eq_true rfl) (Nat.le_of_ble_eq_true rfl) (Nat.le_of_ble_eq_true rfl) fun H hI => ?_
  have hI : CI w s a sz 12 ((((((((((((((((((((((((((((((((((((((((dfs 12).set 2 (.ref (sz + 0))).set 3 (.ref (sz + 1))).set 4 (.ref (sz + 2))).set 5 (.ref (sz + 3))).set 6 (.ref (sz + 4))).set 7 (.ref (sz + 5))).set 8 (.ref (sz + 6))).set 9 (.ref (sz + 7))).set 10 (.ref (sz + 8))).set 11 (.ref (sz + 9))).set 12 (.ref (sz + 10))).set 13 (.ref (sz + 11))).set 15 (.ref (sz + 12))).set 16 (.ref (sz + 13))).set 17 (.ref (sz + 14))).set 18 (.ref (sz + 15))).set 19 (.ref (sz + 16))).set 20 (.ref (sz + 17))).set 21 (.ref (sz + 18))).set 22 (.ref (sz + 19))).set 23 (.ref (sz + 20))).set 24 (.ref (sz + 21))).set 25 (.ref (sz + 22))).set 26 (.ref (sz + 23))).set 27 (.ref (sz + 24))).set 28 (.int (i32 (-1)))).set 29 (.ref (sz + 25))).set 30 (.ref (sz + 26))).set 31 (.ref (sz + 27))).set 32 (.ref (sz + 28))).set 33 (.ref (sz + 29))).set 34 (.ref (sz + 30))).set 35 (.ref (sz + 31))).set 36 (.ref (sz + 32))).set 37 (.ref (sz + 33))).set 38 (.ref (sz + 34))).set 39 (.ref (sz + 35))).set 40 (.ref (sz + 36))).set 41 (.ref (sz + 37))) [dar w 102, dar w 103, dar w 104, dar w 105, dar w 106, dar w 107, dar w 108, dar w 109, dar w 110, dar w 111, dar w 112, dar w 113, dar w 115, dar w 116, dar w 117, dar w 118, dar w 119, dar w 120, dar w 121, dar w 122, dar w 123, dar w 124, dar w 125, dar w 126, dar w 127, dar w 129, dar w 130, dar w 131, dar w 132, dar w 133, dar w 134, dar w 135, dar w 136, dar w 137, dar w 138, dar w 139, dar w 140, dar w 141, dar w 143] H _ := hI
  refine W.eq (g2 := F0 m 310 ls [.ref (sz + 38), .ref a]) rfl ?_
  refine ct_put (j := 43) hk hI dX12_init_310 (by decide) (by decide) (wat_mem (i := 1372) (by decide +kernel)) (cl_ty (q := 12) (by decide) 43 (by decide)) rfl rfl (Nat.le_of_ble_eq_true rfl) rfl fun H locs hI => ?_
  have hI : CI w s a sz 12 (((((((((((((((((((((((((((((((((((((((((dfs 12).set 2 (.ref (sz + 0))).set 3 (.ref (sz + 1))).set 4 (.ref (sz + 2))).set 5 (.ref (sz + 3))).set 6 (.ref (sz + 4))).set 7 (.ref (sz + 5))).set 8 (.ref (sz + 6))).set 9 (.ref (sz + 7))).set 10 (.ref (sz + 8))).set 11 (.ref (sz + 9))).set 12 (.ref (sz + 10))).set 13 (.ref (sz + 11))).set 15 (.ref (sz + 12))).set 16 (.ref (sz + 13))).set 17 (.ref (sz + 14))).set 18 (.ref (sz + 15))).set 19 (.ref (sz + 16))).set 20 (.ref (sz + 17))).set 21 (.ref (sz + 18))).set 22 (.ref (sz + 19))).set 23 (.ref (sz + 20))).set 24 (.ref (sz + 21))).set 25 (.ref (sz + 22))).set 26 (.ref (sz + 23))).set 27 (.ref (sz + 24))).set 28 (.int (i32 (-1)))).set 29 (.ref (sz + 25))).set 30 (.ref (sz + 26))).set 31 (.ref (sz + 27))).set 32 (.ref (sz + 28))).set 33 (.ref (sz + 29))).set 34 (.ref (sz + 30))).set 35 (.ref (sz + 31))).set 36 (.ref (sz + 32))).set 37 (.ref (sz + 33))).set 38 (.ref (sz + 34))).set 39 (.ref (sz + 35))).set 40 (.ref (sz + 36))).set 41 (.ref (sz + 37))).set 43 (.ref (sz + 38))) [dar w 102, dar w 103, dar w 104, dar w 105, dar w 106, dar w 107, dar w 108, dar w 109, dar w 110, dar w 111, dar w 112, dar w 113, dar w 115, dar w 116, dar w 117, dar w 118, dar w 119, dar w 120, dar w 121, dar w 122, dar w 123, dar w 124, dar w 125, dar w 126, dar w 127, dar w 129, dar w 130, dar w 131, dar w 132, dar w 133, dar w 134, dar w 135, dar w 136, dar w 137, dar w 138, dar w 139, dar w 140, dar w 141, dar w 143] H locs := hI
  refine W.eq (g2 := F0 m 313 ls []) rfl ?_
  refine lv_aload_n hx hb dX12_init_313 rfl (lv_at hl 0 rfl) ?_
  refine W.eq (g2 := F0 m 314 ls [.ref a]) rfl ?_
  refine lv_bipush hx hb (v := i32 10) dX12_init_314 (by decide) ?_
  refine W.eq (g2 := F0 m 316 ls [.int (i32 10), .ref a]) rfl ?_
  refine ct_newa (k2 := 144) (t := 0) (N' := 10) hk hI dX12_init_316 rfl (wat_mem (i := 148) (by decide +kernel)) rfl rfl (fun _ _ => Iff.rfl) (fun _ => rfl) (by decide) (by decide) (Nat.le_of_ble_eq_true rfl) (Nat.le_of_ble_eq_true rfl) (Nat.le_of_ble_eq_true rfl) fun H hI => ?_
  have hI : CI w s a sz 12 (((((((((((((((((((((((((((((((((((((((((dfs 12).set 2 (.ref (sz + 0))).set 3 (.ref (sz + 1))).set 4 (.ref (sz + 2))).set 5 (.ref (sz + 3))).set 6 (.ref (sz + 4))).set 7 (.ref (sz + 5))).set 8 (.ref (sz + 6))).set 9 (.ref (sz + 7))).set 10 (.ref (sz + 8))).set 11 (.ref (sz + 9))).set 12 (.ref (sz + 10))).set 13 (.ref (sz + 11))).set 15 (.ref (sz + 12))).set 16 (.ref (sz + 13))).set 17 (.ref (sz + 14))).set 18 (.ref (sz + 15))).set 19 (.ref (sz + 16))).set 20 (.ref (sz + 17))).set 21 (.ref (sz + 18))).set 22 (.ref (sz + 19))).set 23 (.ref (sz + 20))).set 24 (.ref (sz + 21))).set 25 (.ref (sz + 22))).set 26 (.ref (sz + 23))).set 27 (.ref (sz + 24))).set 28 (.int (i32 (-1)))).set 29 (.ref (sz + 25))).set 30 (.ref (sz + 26))).set 31 (.ref (sz + 27))).set 32 (.ref (sz + 28))).set 33 (.ref (sz + 29))).set 34 (.ref (sz + 30))).set 35 (.ref (sz + 31))).set 36 (.ref (sz + 32))).set 37 (.ref (sz + 33))).set 38 (.ref (sz + 34))).set 39 (.ref (sz + 35))).set 40 (.ref (sz + 36))).set 41 (.ref (sz + 37))).set 43 (.ref (sz + 38))) [dar w 102, dar w 103, dar w 104, dar w 105, dar w 106, dar w 107, dar w 108, dar w 109, dar w 110, dar w 111, dar w 112, dar w 113, dar w 115, dar w 116, dar w 117, dar w 118, dar w 119, dar w 120, dar w 121, dar w 122, dar w 123, dar w 124, dar w 125, dar w 126, dar w 127, dar w 129, dar w 130, dar w 131, dar w 132, dar w 133, dar w 134, dar w 135, dar w 136, dar w 137, dar w 138, dar w 139, dar w 140, dar w 141, dar w 143, dar w 144] H _ := hI
  refine W.eq (g2 := F0 m 318 ls [.ref (sz + 39), .ref a]) rfl ?_
  refine ct_put (j := 44) hk hI dX12_init_318 (by decide) (by decide) (wat_mem (i := 1373) (by decide +kernel)) (cl_ty (q := 12) (by decide) 44 (by decide)) rfl rfl (Nat.le_of_ble_eq_true rfl) rfl fun H locs hI => ?_
  have hI : CI w s a sz 12 ((((((((((((((((((((((((((((((((((((((((((dfs 12).set 2 (.ref (sz + 0))).set 3 (.ref (sz + 1))).set 4 (.ref (sz + 2))).set 5 (.ref (sz + 3))).set 6 (.ref (sz + 4))).set 7 (.ref (sz + 5))).set 8 (.ref (sz + 6))).set 9 (.ref (sz + 7))).set 10 (.ref (sz + 8))).set 11 (.ref (sz + 9))).set 12 (.ref (sz + 10))).set 13 (.ref (sz + 11))).set 15 (.ref (sz + 12))).set 16 (.ref (sz + 13))).set 17 (.ref (sz + 14))).set 18 (.ref (sz + 15))).set 19 (.ref (sz + 16))).set 20 (.ref (sz + 17))).set 21 (.ref (sz + 18))).set 22 (.ref (sz + 19))).set 23 (.ref (sz + 20))).set 24 (.ref (sz + 21))).set 25 (.ref (sz + 22))).set 26 (.ref (sz + 23))).set 27 (.ref (sz + 24))).set 28 (.int (i32 (-1)))).set 29 (.ref (sz + 25))).set 30 (.ref (sz + 26))).set 31 (.ref (sz + 27))).set 32 (.ref (sz + 28))).set 33 (.ref (sz + 29))).set 34 (.ref (sz + 30))).set 35 (.ref (sz + 31))).set 36 (.ref (sz + 32))).set 37 (.ref (sz + 33))).set 38 (.ref (sz + 34))).set 39 (.ref (sz + 35))).set 40 (.ref (sz + 36))).set 41 (.ref (sz + 37))).set 43 (.ref (sz + 38))).set 44 (.ref (sz + 39))) [dar w 102, dar w 103, dar w 104, dar w 105, dar w 106, dar w 107, dar w 108, dar w 109, dar w 110, dar w 111, dar w 112, dar w 113, dar w 115, dar w 116, dar w 117, dar w 118, dar w 119, dar w 120, dar w 121, dar w 122, dar w 123, dar w 124, dar w 125, dar w 126, dar w 127, dar w 129, dar w 130, dar w 131, dar w 132, dar w 133, dar w 134, dar w 135, dar w 136, dar w 137, dar w 138, dar w 139, dar w 140, dar w 141, dar w 143, dar w 144] H locs := hI
  refine W.eq (g2 := F0 m 321 ls []) rfl ?_
  refine lv_aload_n hx hb dX12_init_321 rfl (lv_at hl 0 rfl) ?_
  refine W.eq (g2 := F0 m 322 ls [.ref a]) rfl ?_
  refine lv_bipush hx hb (v := i32 10) dX12_init_322 (by decide) ?_
  refine W.eq (g2 := F0 m 324 ls [.int (i32 10), .ref a]) rfl ?_
  refine ct_newa (k2 := 145) (t := 0) (N' := 10) hk hI dX12_init_324 rfl (wat_mem (i := 148) (by decide +kernel)) rfl rfl (fun _ _ => Iff.rfl) (fun _ => rfl) (by decide) (by decide) (Nat.le_of_ble_eq_true rfl) (Nat.le_of_ble_eq_true rfl) (Nat.le_of_ble_eq_true rfl) fun H hI => ?_
  have hI : CI w s a sz 12 ((((((((((((((((((((((((((((((((((((((((((dfs 12).set 2 (.ref (sz + 0))).set 3 (.ref (sz + 1))).set 4 (.ref (sz + 2))).set 5 (.ref (sz + 3))).set 6 (.ref (sz + 4))).set 7 (.ref (sz + 5))).set 8 (.ref (sz + 6))).set 9 (.ref (sz + 7))).set 10 (.ref (sz + 8))).set 11 (.ref (sz + 9))).set 12 (.ref (sz + 10))).set 13 (.ref (sz + 11))).set 15 (.ref (sz + 12))).set 16 (.ref (sz + 13))).set 17 (.ref (sz + 14))).set 18 (.ref (sz + 15))).set 19 (.ref (sz + 16))).set 20 (.ref (sz + 17))).set 21 (.ref (sz + 18))).set 22 (.ref (sz + 19))).set 23 (.ref (sz + 20))).set 24 (.ref (sz + 21))).set 25 (.ref (sz + 22))).set 26 (.ref (sz + 23))).set 27 (.ref (sz + 24))).set 28 (.int (i32 (-1)))).set 29 (.ref (sz + 25))).set 30 (.ref (sz + 26))).set 31 (.ref (sz + 27))).set 32 (.ref (sz + 28))).set 33 (.ref (sz + 29))).set 34 (.ref (sz + 30))).set 35 (.ref (sz + 31))).set 36 (.ref (sz + 32))).set 37 (.ref (sz + 33))).set 38 (.ref (sz + 34))).set 39 (.ref (sz + 35))).set 40 (.ref (sz + 36))).set 41 (.ref (sz + 37))).set 43 (.ref (sz + 38))).set 44 (.ref (sz + 39))) [dar w 102, dar w 103, dar w 104, dar w 105, dar w 106, dar w 107, dar w 108, dar w 109, dar w 110, dar w 111, dar w 112, dar w 113, dar w 115, dar w 116, dar w 117, dar w 118, dar w 119, dar w 120, dar w 121, dar w 122, dar w 123, dar w 124, dar w 125, dar w 126, dar w 127, dar w 129, dar w 130, dar w 131, dar w 132, dar w 133, dar w 134, dar w 135, dar w 136, dar w 137, dar w 138, dar w 139, dar w 140, dar w 141, dar w 143, dar w 144, dar w 145] H _ := hI
  refine W.eq (g2 := F0 m 326 ls [.ref (sz + 40), .ref a]) rfl ?_
  refine ct_put (j := 45) hk hI dX12_init_326 (by decide) (by decide) (wat_mem (i := 1374) (by decide +kernel)) (cl_ty (q := 12) (by decide) 45 (by decide)) rfl rfl (Nat.le_of_ble_eq_true rfl) rfl fun H locs hI => ?_
  have hI : CI w s a sz 12 (((((((((((((((((((((((((((((((((((((((((((dfs 12).set 2 (.ref (sz + 0))).set 3 (.ref (sz + 1))).set 4 (.ref (sz + 2))).set 5 (.ref (sz + 3))).set 6 (.ref (sz + 4))).set 7 (.ref (sz + 5))).set 8 (.ref (sz + 6))).set 9 (.ref (sz + 7))).set 10 (.ref (sz + 8))).set 11 (.ref (sz + 9))).set 12 (.ref (sz + 10))).set 13 (.ref (sz + 11))).set 15 (.ref (sz + 12))).set 16 (.ref (sz + 13))).set 17 (.ref (sz + 14))).set 18 (.ref (sz + 15))).set 19 (.ref (sz + 16))).set 20 (.ref (sz + 17))).set 21 (.ref (sz + 18))).set 22 (.ref (sz + 19))).set 23 (.ref (sz + 20))).set 24 (.ref (sz + 21))).set 25 (.ref (sz + 22))).set 26 (.ref (sz + 23))).set 27 (.ref (sz + 24))).set 28 (.int (i32 (-1)))).set 29 (.ref (sz + 25))).set 30 (.ref (sz + 26))).set 31 (.ref (sz + 27))).set 32 (.ref (sz + 28))).set 33 (.ref (sz + 29))).set 34 (.ref (sz + 30))).set 35 (.ref (sz + 31))).set 36 (.ref (sz + 32))).set 37 (.ref (sz + 33))).set 38 (.ref (sz + 34))).set 39 (.ref (sz + 35))).set 40 (.ref (sz + 36))).set 41 (.ref (sz + 37))).set 43 (.ref (sz + 38))).set 44 (.ref (sz + 39))).set 45 (.ref (sz + 40))) [dar w 102, dar w 103, dar w 104, dar w 105, dar w 106, dar w 107, dar w 108, dar w 109, dar w 110, dar w 111, dar w 112, dar w 113, dar w 115, dar w 116, dar w 117, dar w 118, dar w 119, dar w 120, dar w 121, dar w 122, dar w 123, dar w 124, dar w 125, dar w 126, dar w 127, dar w 129, dar w 130, dar w 131, dar w 132, dar w 133, dar w 134, dar w 135, dar w 136, dar w 137, dar w 138, dar w 139, dar w 140, dar w 141, dar w 143, dar w 144, dar w 145] H locs := hI
  refine W.eq (g2 := F0 m 329 ls []) rfl ?_
  refine lv_aload_n hx hb dX12_init_329 rfl (lv_at hl 0 rfl) ?_
  refine W.eq (g2 := F0 m 330 ls [.ref a]) rfl ?_
  refine lv_sipush hx hb (v := i32 200) dX12_init_330 (by decide) ?_
  refine W.eq (g2 := F0 m 333 ls [.int (i32 200), .ref a]) rfl ?_
  refine ct_newa (k2 := 146) (t := 0) (N' := 200) hk hI dX12_init_333 rfl (wat_mem (i := 148) (by decide +kernel)) rfl rfl (fun _ _ => Iff.rfl) (fun _ => rfl) (by decide) (by decide) (Nat.le_of_ble_eq_true rfl) (Nat.le_of_ble_eq_true rfl) (Nat.le_of_ble_eq_true rfl) fun H hI => ?_
  have hI : CI w s a sz 12 (((((((((((((((((((((((((((((((((((((((((((dfs 12).set 2 (.ref (sz + 0))).set 3 (.ref (sz + 1))).set 4 (.ref (sz + 2))).set 5 (.ref (sz + 3))).set 6 (.ref (sz + 4))).set 7 (.ref (sz + 5))).set 8 (.ref (sz + 6))).set 9 (.ref (sz + 7))).set 10 (.ref (sz + 8))).set 11 (.ref (sz + 9))).set 12 (.ref (sz + 10))).set 13 (.ref (sz + 11))).set 15 (.ref (sz + 12))).set 16 (.ref (sz + 13))).set 17 (.ref (sz + 14))).set 18 (.ref (sz + 15))).set 19 (.ref (sz + 16))).set 20 (.ref (sz + 17))).set 21 (.ref (sz + 18))).set 22 (.ref (sz + 19))).set 23 (.ref (sz + 20))).set 24 (.ref (sz + 21))).set 25 (.ref (sz + 22))).set 26 (.ref (sz + 23))).set 27 (.ref (sz + 24))).set 28 (.int (i32 (-1)))).set 29 (.ref (sz + 25))).set 30 (.ref (sz + 26))).set 31 (.ref (sz + 27))).set 32 (.ref (sz + 28))).set 33 (.ref (sz + 29))).set 34 (.ref (sz + 30))).set 35 (.ref (sz + 31))).set 36 (.ref (sz + 32))).set 37 (.ref (sz + 33))).set 38 (.ref (sz + 34))).set 39 (.ref (sz + 35))).set 40 (.ref (sz + 36))).set 41 (.ref (sz + 37))).set 43 (.ref (sz + 38))).set 44 (.ref (sz + 39))).set 45 (.ref (sz + 40))) [dar w 102, dar w 103, dar w 104, dar w 105, dar w 106, dar w 107, dar w 108, dar w 109, dar w 110, dar w 111, dar w 112, dar w 113, dar w 115, dar w 116, dar w 117, dar w 118, dar w 119, dar w 120, dar w 121, dar w 122, dar w 123, dar w 124, dar w 125, dar w 126, dar w 127, dar w 129, dar w 130, dar w 131, dar w 132, dar w 133, dar w 134, dar w 135, dar w 136, dar w 137, dar w 138, dar w 139, dar w 140, dar w 141, dar w 143, dar w 144, dar w 145, dar w 146] H _ := hI
  refine W.eq (g2 := F0 m 335 ls [.ref (sz + 41), .ref a]) rfl ?_
  refine ct_put (j := 46) hk hI dX12_init_335 (by decide) (by decide) (wat_mem (i := 1375) (by decide +kernel)) (cl_ty (q := 12) (by decide) 46 (by decide)) rfl rfl (Nat.le_of_ble_eq_true rfl) rfl fun H locs hI => ?_
  have hI : CI w s a sz 12 ((((((((((((((((((((((((((((((((((((((((((((dfs 12).set 2 (.ref (sz + 0))).set 3 (.ref (sz + 1))).set 4 (.ref (sz + 2))).set 5 (.ref (sz + 3))).set 6 (.ref (sz + 4))).set 7 (.ref (sz + 5))).set 8 (.ref (sz + 6))).set 9 (.ref (sz + 7))).set 10 (.ref (sz + 8))).set 11 (.ref (sz + 9))).set 12 (.ref (sz + 10))).set 13 (.ref (sz + 11))).set 15 (.ref (sz + 12))).set 16 (.ref (sz + 13))).set 17 (.ref (sz + 14))).set 18 (.ref (sz + 15))).set 19 (.ref (sz + 16))).set 20 (.ref (sz + 17))).set 21 (.ref (sz + 18))).set 22 (.ref (sz + 19))).set 23 (.ref (sz + 20))).set 24 (.ref (sz + 21))).set 25 (.ref (sz + 22))).set 26 (.ref (sz + 23))).set 27 (.ref (sz + 24))).set 28 (.int (i32 (-1)))).set 29 (.ref (sz + 25))).set 30 (.ref (sz + 26))).set 31 (.ref (sz + 27))).set 32 (.ref (sz + 28))).set 33 (.ref (sz + 29))).set 34 (.ref (sz + 30))).set 35 (.ref (sz + 31))).set 36 (.ref (sz + 32))).set 37 (.ref (sz + 33))).set 38 (.ref (sz + 34))).set 39 (.ref (sz + 35))).set 40 (.ref (sz + 36))).set 41 (.ref (sz + 37))).set 43 (.ref (sz + 38))).set 44 (.ref (sz + 39))).set 45 (.ref (sz + 40))).set 46 (.ref (sz + 41))) [dar w 102, dar w 103, dar w 104, dar w 105, dar w 106, dar w 107, dar w 108, dar w 109, dar w 110, dar w 111, dar w 112, dar w 113, dar w 115, dar w 116, dar w 117, dar w 118, dar w 119, dar w 120, dar w 121, dar w 122, dar w 123, dar w 124, dar w 125, dar w 126, dar w 127, dar w 129, dar w 130, dar w 131, dar w 132, dar w 133, dar w 134, dar w 135, dar w 136, dar w 137, dar w 138, dar w 139, dar w 140, dar w 141, dar w 143, dar w 144, dar w 145, dar w 146] H locs := hI
  refine W.eq (g2 := F0 m 338 ls []) rfl ?_
  refine lv_aload_n hx hb dX12_init_338 rfl (lv_at hl 0 rfl) ?_
  refine W.eq (g2 := F0 m 339 ls [.ref a]) rfl ?_
  refine lv_bipush hx hb (v := i32 10) dX12_init_339 (by decide) ?_
  refine W.eq (g2 := F0 m 341 ls [.int (i32 10), .ref a]) rfl ?_
  refine ct_newa (k2 := 147) (t := 0) (N' := 10) hk hI dX12_init_341 rfl (wat_mem (i := 148) (by decide +kernel)) rfl rfl (fun _ _ => Iff.rfl) (fun _ => rfl) (by decide) (by decide) (Nat.le_of_ble_eq_true rfl) (Nat.le_of_ble_eq_true rfl) (Nat.le_of_ble_eq_true rfl) fun H hI => ?_
  have hI : CI w s a sz 12 ((((((((((((((((((((((((((((((((((((((((((((dfs 12).set 2 (.ref (sz + 0))).set 3 (.ref (sz + 1))).set 4 (.ref (sz + 2))).set 5 (.ref (sz + 3))).set 6 (.ref (sz + 4))).set 7 (.ref (sz + 5))).set 8 (.ref (sz + 6))).set 9 (.ref (sz + 7))).set 10 (.ref (sz + 8))).set 11 (.ref (sz + 9))).set 12 (.ref (sz + 10))).set 13 (.ref (sz + 11))).set 15 (.ref (sz + 12))).set 16 (.ref (sz + 13))).set 17 (.ref (sz + 14))).set 18 (.ref (sz + 15))).set 19 (.ref (sz + 16))).set 20 (.ref (sz + 17))).set 21 (.ref (sz + 18))).set 22 (.ref (sz + 19))).set 23 (.ref (sz + 20))).set 24 (.ref (sz + 21))).set 25 (.ref (sz + 22))).set 26 (.ref (sz + 23))).set 27 (.ref (sz + 24))).set 28 (.int (i32 (-1)))).set 29 (.ref (sz + 25))).set 30 (.ref (sz + 26))).set 31 (.ref (sz + 27))).set 32 (.ref (sz + 28))).set 33 (.ref (sz + 29))).set 34 (.ref (sz + 30))).set 35 (.ref (sz + 31))).set 36 (.ref (sz + 32))).set 37 (.ref (sz + 33))).set 38 (.ref (sz + 34))).set 39 (.ref (sz + 35))).set 40 (.ref (sz + 36))).set 41 (.ref (sz + 37))).set 43 (.ref (sz + 38))).set 44 (.ref (sz + 39))).set 45 (.ref (sz + 40))).set 46 (.ref (sz + 41))) [dar w 102, dar w 103, dar w 104, dar w 105, dar w 106, dar w 107, dar w 108, dar w 109, dar w 110, dar w 111, dar w 112, dar w 113, dar w 115, dar w 116, dar w 117, dar w 118, dar w 119, dar w 120, dar w 121, dar w 122, dar w 123, dar w 124, dar w 125, dar w 126, dar w 127, dar w 129, dar w 130, dar w 131, dar w 132, dar w 133, dar w 134, dar w 135, dar w 136, dar w 137, dar w 138, dar w 139, dar w 140, dar w 141, dar w 143, dar w 144, dar w 145, dar w 146, dar w 147] H _ := hI
  refine W.eq (g2 := F0 m 343 ls [.ref (sz + 42), .ref a]) rfl ?_
  refine ct_put (j := 47) hk hI dX12_init_343 (by decide) (by decide) (wat_mem (i := 1376) (by decide +kernel)) (cl_ty (q := 12) (by decide) 47 (by decide)) rfl rfl (Nat.le_of_ble_eq_true rfl) rfl fun H locs hI => ?_
  have hI : CI w s a sz 12 (((((((((((((((((((((((((((((((((((((((((((((dfs 12).set 2 (.ref (sz + 0))).set 3 (.ref (sz + 1))).set 4 (.ref (sz + 2))).set 5 (.ref (sz + 3))).set 6 (.ref (sz + 4))).set 7 (.ref (sz + 5))).set 8 (.ref (sz + 6))).set 9 (.ref (sz + 7))).set 10 (.ref (sz + 8))).set 11 (.ref (sz + 9))).set 12 (.ref (sz + 10))).set 13 (.ref (sz + 11))).set 15 (.ref (sz + 12))).set 16 (.ref (sz + 13))).set 17 (.ref (sz + 14))).set 18 (.ref (sz + 15))).set 19 (.ref (sz + 16))).set 20 (.ref (sz + 17))).set 21 (.ref (sz + 18))).set 22 (.ref (sz + 19))).set 23 (.ref (sz + 20))).set 24 (.ref (sz + 21))).set 25 (.ref (sz + 22))).set 26 (.ref (sz + 23))).set 27 (.ref (sz + 24))).set 28 (.int (i32 (-1)))).set 29 (.ref (sz + 25))).set 30 (.ref (sz + 26))).set 31 (.ref (sz + 27))).set 32 (.ref (sz + 28))).set 33 (.ref (sz + 29))).set 34 (.ref (sz + 30))).set 35 (.ref (sz + 31))).set 36 (.ref (sz + 32))).set 37 (.ref (sz + 33))).set 38 (.ref (sz + 34))).set 39 (.ref (sz + 35))).set 40 (.ref (sz + 36))).set 41 (.ref (sz + 37))).set 43 (.ref (sz + 38))).set 44 (.ref (sz + 39))).set 45 (.ref (sz + 40))).set 46 (.ref (sz + 41))).set 47 (.ref (sz + 42))) [dar w 102, dar w 103, dar w 104, dar w 105, dar w 106, dar w 107, dar w 108, dar w 109, dar w 110, dar w 111, dar w 112, dar w 113, dar w 115, dar w 116, dar w 117, dar w 118, dar w 119, dar w 120, dar w 121, dar w 122, dar w 123, dar w 124, dar w 125, dar w 126, dar w 127, dar w 129, dar w 130, dar w 131, dar w 132, dar w 133, dar w 134, dar w 135, dar w 136, dar w 137, dar w 138, dar w 139, dar w 140, dar w 141, dar w 143, dar w 144, dar w 145, dar w 146, dar w 147] H locs := hI
  refine W.eq (g2 := F0 m 346 ls []) rfl ?_
  refine lv_aload_n hx hb dX12_init_346 rfl (lv_at hl 0 rfl) ?_
  refine W.eq (g2 := F0 m 347 ls [.ref a]) rfl ?_
  refine lv_sipush hx hb (v := i32 200) dX12_init_347 (by decide) ?_
  refine W.eq (g2 := F0 m 350 ls [.int (i32 200), .ref a]) rfl ?_
  refine ct_newa (k2 := 148) (t := 0) (N' := 200) hk hI dX12_init_350 rfl (wat_mem (i := 148) (by decide +kernel)) rfl rfl (fun _ _ => Iff.rfl) (fun _ => rfl) (by decide) (by decide) (Nat.le_of_ble_eq_true rfl) (Nat.le_of_ble_eq_true rfl) (Nat.le_of_ble_eq_true rfl) fun H hI => ?_
  have hI : CI w s a sz 12 (((((((((((((((((((((((((((((((((((((((((((((dfs 12).set 2 (.ref (sz + 0))).set 3 (.ref (sz + 1))).set 4 (.ref (sz + 2))).set 5 (.ref (sz + 3))).set 6 (.ref (sz + 4))).set 7 (.ref (sz + 5))).set 8 (.ref (sz + 6))).set 9 (.ref (sz + 7))).set 10 (.ref (sz + 8))).set 11 (.ref (sz + 9))).set 12 (.ref (sz + 10))).set 13 (.ref (sz + 11))).set 15 (.ref (sz + 12))).set 16 (.ref (sz + 13))).set 17 (.ref (sz + 14))).set 18 (.ref (sz + 15))).set 19 (.ref (sz + 16))).set 20 (.ref (sz + 17))).set 21 (.ref (sz + 18))).set 22 (.ref (sz + 19))).set 23 (.ref (sz + 20))).set 24 (.ref (sz + 21))).set 25 (.ref (sz + 22))).set 26 (.ref (sz + 23))).set 27 (.ref (sz + 24))).set 28 (.int (i32 (-1)))).set 29 (.ref (sz + 25))).set 30 (.ref (sz + 26))).set 31 (.ref (sz + 27))).set 32 (.ref (sz + 28))).set 33 (.ref (sz + 29))).set 34 (.ref (sz + 30))).set 35 (.ref (sz + 31))).set 36 (.ref (sz + 32))).set 37 (.ref (sz + 33))).set 38 (.ref (sz + 34))).set 39 (.ref (sz + 35))).set 40 (.ref (sz + 36))).set 41 (.ref (sz + 37))).set 43 (.ref (sz + 38))).set 44 (.ref (sz + 39))).set 45 (.ref (sz + 40))).set 46 (.ref (sz + 41))).set 47 (.ref (sz + 42))) [dar w 102, dar w 103, dar w 104, dar w 105, dar w 106, dar w 107, dar w 108, dar w 109, dar w 110, dar w 111, dar w 112, dar w 113, dar w 115, dar w 116, dar w 117, dar w 118, dar w 119, dar w 120, dar w 121, dar w 122, dar w 123, dar w 124, dar w 125, dar w 126, dar w 127, dar w 129, dar w 130, dar w 131, dar w 132, dar w 133, dar w 134, dar w 135, dar w 136, dar w 137, dar w 138, dar w 139, dar w 140, dar w 141, dar w 143, dar w 144, dar w 145, dar w 146, dar w 147, dar w 148] H _ := hI
  refine W.eq (g2 := F0 m 352 ls [.ref (sz + 43), .ref a]) rfl ?_
  refine ct_put (j := 48) hk hI dX12_init_352 (by decide) (by decide) (wat_mem (i := 1377) (by decide +kernel)) (cl_ty (q := 12) (by decide) 48 (by decide)) rfl rfl (Nat.le_of_ble_eq_true rfl) rfl fun H locs hI => ?_
  have hI : CI w s a sz 12 ((((((((((((((((((((((((((((((((((((((((((((((dfs 12).set 2 (.ref (sz + 0))).set 3 (.ref (sz + 1))).set 4 (.ref (sz + 2))).set 5 (.ref (sz + 3))).set 6 (.ref (sz + 4))).set 7 (.ref (sz + 5))).set 8 (.ref (sz + 6))).set 9 (.ref (sz + 7))).set 10 (.ref (sz + 8))).set 11 (.ref (sz + 9))).set 12 (.ref (sz + 10))).set 13 (.ref (sz + 11))).set 15 (.ref (sz + 12))).set 16 (.ref (sz + 13))).set 17 (.ref (sz + 14))).set 18 (.ref (sz + 15))).set 19 (.ref (sz + 16))).set 20 (.ref (sz + 17))).set 21 (.ref (sz + 18))).set 22 (.ref (sz + 19))).set 23 (.ref (sz + 20))).set 24 (.ref (sz + 21))).set 25 (.ref (sz + 22))).set 26 (.ref (sz + 23))).set 27 (.ref (sz + 24))).set 28 (.int (i32 (-1)))).set 29 (.ref (sz + 25))).set 30 (.ref (sz + 26))).set 31 (.ref (sz + 27))).set 32 (.ref (sz + 28))).set 33 (.ref (sz + 29))).set 34 (.ref (sz + 30))).set 35 (.ref (sz + 31))).set 36 (.ref (sz + 32))).set 37 (.ref (sz + 33))).set 38 (.ref (sz + 34))).set 39 (.ref (sz + 35))).set 40 (.ref (sz + 36))).set 41 (.ref (sz + 37))).set 43 (.ref (sz + 38))).set 44 (.ref (sz + 39))).set 45 (.ref (sz + 40))).set 46 (.ref (sz + 41))).set 47 (.ref (sz + 42))).set 48 (.ref (sz + 43))) [dar w 102, dar w 103, dar w 104, dar w 105, dar w 106, dar w 107, dar w 108, dar w 109, dar w 110, dar w 111, dar w 112, dar w 113, dar w 115, dar w 116, dar w 117, dar w 118, dar w 119, dar w 120, dar w 121, dar w 122, dar w 123, dar w 124, dar w 125, dar w 126, dar w 127, dar w 129, dar w 130, dar w 131, dar w 132, dar w 133, dar w 134, dar w 135, dar w 136, dar w 137, dar w 138, dar w 139, dar w 140, dar w 141, dar w 143, dar w 144, dar w 145, dar w 146, dar w 147, dar w 148] H locs := hI
  refine W.eq (g2 := F0 m 355 ls []) rfl ?_
  refine lv_aload_n hx hb dX12_init_355 rfl (lv_at hl 0 rfl) ?_
  refine W.eq (g2 := F0 m 356 ls [.ref a]) rfl ?_
  refine lv_sipush hx hb (v := i32 200) dX12_init_356 (by decide) ?_
  refine W.eq (g2 := F0 m 359 ls [.int (i32 200), .ref a]) rfl ?_
  refine ct_newa (k2 := 149) (t := 0) (N' := 200) hk hI dX12_init_359 rfl (wat_mem (i := 148) (by decide +kernel)) rfl rfl (fun _ _ => Iff.rfl) (fun _ => rfl) (by decide) (by decide) (Nat.le_of_ble_eq_true rfl) (Nat.le_of_ble_eq_true rfl) (Nat.le_of_ble_eq_true rfl) fun H hI => ?_
  have hI : CI w s a sz 12 ((((((((((((((((((((((((((((((((((((((((((((((dfs 12).set 2 (.ref (sz + 0))).set 3 (.ref (sz + 1))).set 4 (.ref (sz + 2))).set 5 (.ref (sz + 3))).set 6 (.ref (sz + 4))).set 7 (.ref (sz + 5))).set 8 (.ref (sz + 6))).set 9 (.ref (sz + 7))).set 10 (.ref (sz + 8))).set 11 (.ref (sz + 9))).set 12 (.ref (sz + 10))).set 13 (.ref (sz + 11))).set 15 (.ref (sz + 12))).set 16 (.ref (sz + 13))).set 17 (.ref (sz + 14))).set 18 (.ref (sz + 15))).set 19 (.ref (sz + 16))).set 20 (.ref (sz + 17))).set 21 (.ref (sz + 18))).set 22 (.ref (sz + 19))).set 23 (.ref (sz + 20))).set 24 (.ref (sz + 21))).set 25 (.ref (sz + 22))).set 26 (.ref (sz + 23))).set 27 (.ref (sz + 24))).set 28 (.int (i32 (-1)))).set 29 (.ref (sz + 25))).set 30 (.ref (sz + 26))).set 31 (.ref (sz + 27))).set 32 (.ref (sz + 28))).set 33 (.ref (sz + 29))).set 34 (.ref (sz + 30))).set 35 (.ref (sz + 31))).set 36 (.ref (sz + 32))).set 37 (.ref (sz + 33))).set 38 (.ref (sz + 34))).set 39 (.ref (sz + 35))).set 40 (.ref (sz + 36))).set 41 (.ref (sz + 37))).set 43 (.ref (sz + 38))).set 44 (.ref (sz + 39))).set 45 (.ref (sz + 40))).set 46 (.ref (sz + 41))).set 47 (.ref (sz + 42))).set 48 (.ref (sz + 43))) [dar w 102, dar w 103, dar w 104, dar w 105, dar w 106, dar w 107, dar w 108, dar w 109, dar w 110, dar w 111, dar w 112, dar w 113, dar w 115, dar w 116, dar w 117, dar w 118, dar w 119, dar w 120, dar w 121, dar w 122, dar w 123, dar w 124, dar w 125, dar w 126, dar w 127, dar w 129, dar w 130, dar w 131, dar w 132, dar w 133, dar w 134, dar w 135, dar w 136, dar w 137, dar w 138, dar w 139, dar w 140, dar w 141, dar w 143, dar w 144, dar w 145, dar w 146, dar w 147, dar w 148, dar w 149] H _ := hI
  refine W.eq (g2 := F0 m 361 ls [.ref (sz + 44), .ref a]) rfl ?_
  refine ct_put (j := 49) hk hI dX12_init_361 (by decide) (by decide) (wat_mem (i := 1378) (by decide +kernel)) (cl_ty (q := 12) (by decide) 49 (by decide)) rfl rfl (Nat.le_of_ble_eq_true rfl) rfl fun H locs hI => ?_
  have hI : CI w s a sz 12 (((((((((((((((((((((((((((((((((((((((((((((((dfs 12).set 2 (.ref (sz + 0))).set 3 (.ref (sz + 1))).set 4 (.ref (sz + 2))).set 5 (.ref (sz + 3))).set 6 (.ref (sz + 4))).set 7 (.ref (sz + 5))).set 8 (.ref (sz + 6))).set 9 (.ref (sz + 7))).set 10 (.ref (sz + 8))).set 11 (.ref (sz + 9))).set 12 (.ref (sz + 10))).set 13 (.ref (sz + 11))).set 15 (.ref (sz + 12))).set 16 (.ref (sz + 13))).set 17 (.ref (sz + 14))).set 18 (.ref (sz + 15))).set 19 (.ref (sz + 16))).set 20 (.ref (sz + 17))).set 21 (.ref (sz + 18))).set 22 (.ref (sz + 19))).set 23 (.ref (sz + 20))).set 24 (.ref (sz + 21))).set 25 (.ref (sz + 22))).set 26 (.ref (sz + 23))).set 27 (.ref (sz + 24))).set 28 (.int (i32 (-1)))).set 29 (.ref (sz + 25))).set 30 (.ref (sz + 26))).set 31 (.ref (sz + 27))).set 32 (.ref (sz + 28))).set 33 (.ref (sz + 29))).set 34 (.ref (sz + 30))).set 35 (.ref (sz + 31))).set 36 (.ref (sz + 32))).set 37 (.ref (sz + 33))).set 38 (.ref (sz + 34))).set 39 (.ref (sz + 35))).set 40 (.ref (sz + 36))).set 41 (.ref (sz + 37))).set 43 (.ref (sz + 38))).set 44 (.ref (sz + 39))).set 45 (.ref (sz + 40))).set 46 (.ref (sz + 41))).set 47 (.ref (sz + 42))).set 48 (.ref (sz + 43))).set 49 (.ref (sz + 44))) [dar w 102, dar w 103, dar w 104, dar w 105, dar w 106, dar w 107, dar w 108, dar w 109, dar w 110, dar w 111, dar w 112, dar w 113, dar w 115, dar w 116, dar w 117, dar w 118, dar w 119, dar w 120, dar w 121, dar w 122, dar w 123, dar w 124, dar w 125, dar w 126, dar w 127, dar w 129, dar w 130, dar w 131, dar w 132, dar w 133, dar w 134, dar w 135, dar w 136, dar w 137, dar w 138, dar w 139, dar w 140, dar w 141, dar w 143, dar w 144, dar w 145, dar w 146, dar w 147, dar w 148, dar w 149] H locs := hI
  refine W.eq (g2 := F0 m 364 ls []) rfl ?_
  refine lv_aload_n hx hb dX12_init_364 rfl (lv_at hl 0 rfl) ?_
  refine W.eq (g2 := F0 m 365 ls [.ref a]) rfl ?_
  refine lv_sipush hx hb (v := i32 200) dX12_init_365 (by decide) ?_
  refine W.eq (g2 := F0 m 368 ls [.int (i32 200), .ref a]) rfl ?_
  refine ct_newa (k2 := 150) (t := 1) (N' := 200) hk hI dX12_init_368 rfl (wat_mem (i := 121) (by decide +kernel)) rfl rfl (fun _ _ => Iff.rfl) (fun _ => rfl) (by decide) (by decide) (Nat.le_of_ble_eq_true rfl) (Nat.le_of_ble_eq_true rfl) (Nat.le_of_ble_eq_true rfl) fun H hI => ?_
  have hI : CI w s a sz 12 (((((((((((((((((((((((((((((((((((((((((((((((dfs 12).set 2 (.ref (sz + 0))).set 3 (.ref (sz + 1))).set 4 (.ref (sz + 2))).set 5 (.ref (sz + 3))).set 6 (.ref (sz + 4))).set 7 (.ref (sz + 5))).set 8 (.ref (sz + 6))).set 9 (.ref (sz + 7))).set 10 (.ref (sz + 8))).set 11 (.ref (sz + 9))).set 12 (.ref (sz + 10))).set 13 (.ref (sz + 11))).set 15 (.ref (sz + 12))).set 16 (.ref (sz + 13))).set 17 (.ref (sz + 14))).set 18 (.ref (sz + 15))).set 19 (.ref (sz + 16))).set 20 (.ref (sz + 17))).set 21 (.ref (sz + 18))).set 22 (.ref (sz + 19))).set 23 (.ref (sz + 20))).set 24 (.ref (sz + 21))).set 25 (.ref (sz + 22))).set 26 (.ref (sz + 23))).set 27 (.ref (sz + 24))).set 28 (.int (i32 (-1)))).set 29 (.ref (sz + 25))).set 30 (.ref (sz + 26))).set 31 (.ref (sz + 27))).set 32 (.ref (sz + 28))).set 33 (.ref (sz + 29))).set 34 (.ref (sz + 30))).set 35 (.ref (sz + 31))).set 36 (.ref (sz + 32))).set 37 (.ref (sz + 33))).set 38 (.ref (sz + 34))).set 39 (.ref (sz + 35))).set 40 (.ref (sz + 36))).set 41 (.ref (sz + 37))).set 43 (.ref (sz + 38))).set 44 (.ref (sz + 39))).set 45 (.ref (sz + 40))).set 46 (.ref (sz + 41))).set 47 (.ref (sz + 42))).set 48 (.ref (sz + 43))).set 49 (.ref (sz + 44))) [dar w 102, dar w 103, dar w 104, dar w 105, dar w 106, dar w 107, dar w 108, dar w 109, dar w 110, dar w 111, dar w 112, dar w 113, dar w 115, dar w 116, dar w 117, dar w 118, dar w 119, dar w 120, dar w 121, dar w 122, dar w 123, dar w 124, dar w 125, dar w 126, dar w 127, dar w 129, dar w 130, dar w 131, dar w 132, dar w 133, dar w 134, dar w 135, dar w 136, dar w 137, dar w 138, dar w 139, dar w 140, dar w 141, dar w 143, dar w 144, dar w 145, dar w 146, dar w 147, dar w 148, dar w 149, dar w 150] H _ := hI
  refine W.eq (g2 := F0 m 370 ls [.ref (sz + 45), .ref a]) rfl ?_
  refine ct_put (j := 50) hk hI dX12_init_370 (by decide) (by decide) (wat_mem (i := 1379) (by decide +kernel)) (cl_ty (q := 12) (by decide) 50 (by decide)) rfl rfl (Nat.le_of_ble_eq_true rfl) rfl fun H locs hI => ?_
  have hI : CI w s a sz 12 ((((((((((((((((((((((((((((((((((((((((((((((((dfs 12).set 2 (.ref (sz + 0))).set 3 (.ref (sz + 1))).set 4 (.ref (sz + 2))).set 5 (.ref (sz + 3))).set 6 (.ref (sz + 4))).set 7 (.ref (sz + 5))).set 8 (.ref (sz + 6))).set 9 (.ref (sz + 7))).set 10 (.ref (sz + 8))).set 11 (.ref (sz + 9))).set 12 (.ref (sz + 10))).set 13 (.ref (sz + 11))).set 15 (.ref (sz + 12))).set 16 (.ref (sz + 13))).set 17 (.ref (sz + 14))).set 18 (.ref (sz + 15))).set 19 (.ref (sz + 16))).set 20 (.ref (sz + 17))).set 21 (.ref (sz + 18))).set 22 (.ref (sz + 19))).set 23 (.ref (sz + 20))).set 24 (.ref (sz + 21))).set 25 (.ref (sz + 22))).set 26 (.ref (sz + 23))).set 27 (.ref (sz + 24))).set 28 (.int (i32 (-1)))).set 29 (.ref (sz + 25))).set 30 (.ref (sz + 26))).set 31 (.ref (sz + 27))).set 32 (.ref (sz + 28))).set 33 (.ref (sz + 29))).set 34 (.ref (sz + 30))).set 35 (.ref (sz + 31))).set 36 (.ref (sz + 32))).set 37 (.ref (sz + 33))).set 38 (.ref (sz + 34))).set 39 (.ref (sz + 35))).set 40 (.ref (sz + 36))).set 41 (.ref (sz + 37))).set 43 (.ref (sz + 38))).set 44 (.ref (sz + 39))).set 45 (.ref (sz + 40))).set 46 (.ref (sz + 41))).set 47 (.ref (sz + 42))).set 48 (.ref (sz + 43))).set 49 (.ref (sz + 44))).set 50 (.ref (sz + 45))) [dar w 102, dar w 103, dar w 104, dar w 105, dar w 106, dar w 107, dar w 108, dar w 109, dar w 110, dar w 111, dar w 112, dar w 113, dar w 115, dar w 116, dar w 117, dar w 118, dar w 119, dar w 120, dar w 121, dar w 122, dar w 123, dar w 124, dar w 125, dar w 126, dar w 127, dar w 129, dar w 130, dar w 131, dar w 132, dar w 133, dar w 134, dar w 135, dar w 136, dar w 137, dar w 138, dar w 139, dar w 140, dar w 141, dar w 143, dar w 144, dar w 145, dar w 146, dar w 147, dar w 148, dar w 149, dar w 150] H locs := hI
  refine W.eq (g2 := F0 m 373 ls []) rfl ?_
  refine lv_aload_n hx hb dX12_init_373 rfl (lv_at hl 0 rfl) ?_
  refine W.eq (g2 := F0 m 374 ls [.ref a]) rfl ?_
  refine ct_get (j := 29) hk hI dX12_init_374 (by decide) (by decide) (wat_mem (i := 1358) (by decide +kernel)) rfl ?_
  refine W.eq (g2 := F0 m 377 ls [.ref (sz + 25)]) rfl ?_
  refine lv_iconst hx hb (v := i32 0) dX12_init_377 rfl ?_
  refine W.eq (g2 := F0 m 378 ls [.int (i32 0), .ref (sz + 25)]) rfl ?_
  refine lv_iconst hx hb (v := i32 (-1)) dX12_init_378 rfl ?_
  refine W.eq (g2 := F0 m 379 ls [.int (i32 (-1)), .int (i32 0), .ref (sz + 25)]) rfl ?_
  refine ct_iast (i9 := 25) (n := 2) (f := (fun _ => 0)) (x := (i32 (-1))) hk hI dX12_init_379 rfl (by decide) fun H locs hI => ?_
  have hI : CI w s a sz 12 ((((((((((((((((((((((((((((((((((((((((((((((((dfs 12).set 2 (.ref (sz + 0))).set 3 (.ref (sz + 1))).set 4 (.ref (sz + 2))).set 5 (.ref (sz + 3))).set 6 (.ref (sz + 4))).set 7 (.ref (sz + 5))).set 8 (.ref (sz + 6))).set 9 (.ref (sz + 7))).set 10 (.ref (sz + 8))).set 11 (.ref (sz + 9))).set 12 (.ref (sz + 10))).set 13 (.ref (sz + 11))).set 15 (.ref (sz + 12))).set 16 (.ref (sz + 13))).set 17 (.ref (sz + 14))).set 18 (.ref (sz + 15))).set 19 (.ref (sz + 16))).set 20 (.ref (sz + 17))).set 21 (.ref (sz + 18))).set 22 (.ref (sz + 19))).set 23 (.ref (sz + 20))).set 24 (.ref (sz + 21))).set 25 (.ref (sz + 22))).set 26 (.ref (sz + 23))).set 27 (.ref (sz + 24))).set 28 (.int (i32 (-1)))).set 29 (.ref (sz + 25))).set 30 (.ref (sz + 26))).set 31 (.ref (sz + 27))).set 32 (.ref (sz + 28))).set 33 (.ref (sz + 29))).set 34 (.ref (sz + 30))).set 35 (.ref (sz + 31))).set 36 (.ref (sz + 32))).set 37 (.ref (sz + 33))).set 38 (.ref (sz + 34))).set 39 (.ref (sz + 35))).set 40 (.ref (sz + 36))).set 41 (.ref (sz + 37))).set 43 (.ref (sz + 38))).set 44 (.ref (sz + 39))).set 45 (.ref (sz + 40))).set 46 (.ref (sz + 41))).set 47 (.ref (sz + 42))).set 48 (.ref (sz + 43))).set 49 (.ref (sz + 44))).set 50 (.ref (sz + 45))) [dar w 102, dar w 103, dar w 104, dar w 105, dar w 106, dar w 107, dar w 108, dar w 109, dar w 110, dar w 111, dar w 112, dar w 113, dar w 115, dar w 116, dar w 117, dar w 118, dar w 119, dar w 120, dar w 121, dar w 122, dar w 123, dar w 124, dar w 125, dar w 126, dar w 127, .inl (w.2.1 0, 2, .inl (va_up (fun _ => 0) 0 (i32 (-1)))), dar w 130, dar w 131, dar w 132, dar w 133, dar w 134, dar w 135, dar w 136, dar w 137, dar w 138, dar w 139, dar w 140, dar w 141, dar w 143, dar w 144, dar w 145, dar w 146, dar w 147, dar w 148, dar w 149, dar w 150] H locs := hI
  refine W.eq (g2 := F0 m 380 ls []) rfl ?_
  refine lv_aload_n hx hb dX12_init_380 rfl (lv_at hl 0 rfl) ?_
  refine W.eq (g2 := F0 m 381 ls [.ref a]) rfl ?_
  refine ct_get (j := 29) hk hI dX12_init_381 (by decide) (by decide) (wat_mem (i := 1358) (by decide +kernel)) rfl ?_
  refine W.eq (g2 := F0 m 384 ls [.ref (sz + 25)]) rfl ?_
  refine lv_iconst hx hb (v := i32 1) dX12_init_384 rfl ?_
  refine W.eq (g2 := F0 m 385 ls [.int (i32 1), .ref (sz + 25)]) rfl ?_
  refine lv_iconst hx hb (v := i32 (-1)) dX12_init_385 rfl ?_
  refine W.eq (g2 := F0 m 386 ls [.int (i32 (-1)), .int (i32 1), .ref (sz + 25)]) rfl ?_
  refine ct_iast (i9 := 25) (n := 2) (f := (va_up (fun _ => 0) 0 (i32 (-1)))) (x := (i32 (-1))) hk hI dX12_init_386 rfl (by decide) fun H locs hI => ?_
  have hI : CI w s a sz 12 ((((((((((((((((((((((((((((((((((((((((((((((((dfs 12).set 2 (.ref (sz + 0))).set 3 (.ref (sz + 1))).set 4 (.ref (sz + 2))).set 5 (.ref (sz + 3))).set 6 (.ref (sz + 4))).set 7 (.ref (sz + 5))).set 8 (.ref (sz + 6))).set 9 (.ref (sz + 7))).set 10 (.ref (sz + 8))).set 11 (.ref (sz + 9))).set 12 (.ref (sz + 10))).set 13 (.ref (sz + 11))).set 15 (.ref (sz + 12))).set 16 (.ref (sz + 13))).set 17 (.ref (sz + 14))).set 18 (.ref (sz + 15))).set 19 (.ref (sz + 16))).set 20 (.ref (sz + 17))).set 21 (.ref (sz + 18))).set 22 (.ref (sz + 19))).set 23 (.ref (sz + 20))).set 24 (.ref (sz + 21))).set 25 (.ref (sz + 22))).set 26 (.ref (sz + 23))).set 27 (.ref (sz + 24))).set 28 (.int (i32 (-1)))).set 29 (.ref (sz + 25))).set 30 (.ref (sz + 26))).set 31 (.ref (sz + 27))).set 32 (.ref (sz + 28))).set 33 (.ref (sz + 29))).set 34 (.ref (sz + 30))).set 35 (.ref (sz + 31))).set 36 (.ref (sz + 32))).set 37 (.ref (sz + 33))).set 38 (.ref (sz + 34))).set 39 (.ref (sz + 35))).set 40 (.ref (sz + 36))).set 41 (.ref (sz + 37))).set 43 (.ref (sz + 38))).set 44 (.ref (sz + 39))).set 45 (.ref (sz + 40))).set 46 (.ref (sz + 41))).set 47 (.ref (sz + 42))).set 48 (.ref (sz + 43))).set 49 (.ref (sz + 44))).set 50 (.ref (sz + 45))) [dar w 102, dar w 103, dar w 104, dar w 105, dar w 106, dar w 107, dar w 108, dar w 109, dar w 110, dar w 111, dar w 112, dar w 113, dar w 115, dar w 116, dar w 117, dar w 118, dar w 119, dar w 120, dar w 121, dar w 122, dar w 123, dar w 124, dar w 125, dar w 126, dar w 127, .inl (w.2.1 0, 2, .inl (va_up (va_up (fun _ => 0) 0 (i32 (-1))) 1 (i32 (-1)))), dar w 130, dar w 131, dar w 132, dar w 133, dar w 134, dar w 135, dar w 136, dar w 137, dar w 138, dar w 139, dar w 140, dar w 141, dar w 143, dar w 144, dar w 145, dar w 146, dar w 147, dar w 148, dar w 149, dar w 150] H locs := hI
  refine W.eq (g2 := F0 m 387 ls []) rfl ?_
  exact ct_end (T := trX12_init w sz []) hk hr hlk hI dX12_init_387 (Nat.le_of_ble_eq_true rfl) (Nat.le_of_ble_eq_true rfl)
