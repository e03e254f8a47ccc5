theorem W_cs {p : Program} {l : Launch} {e : Env} {R : Room} {s : State} {m : MethodId} {args : Array Value} {below : List Frame} {meth : Method} {c : Code} {H : Heap} {locs : List Loc} {cells slots cells2 slots2 : Nat} {Q : State → Prop} {g : JFrame} (h1 : cells = cells2) (h2 : slots = slots2) (k : W p l e R s m args below meth c H locs cells2 slots2 Q g) : W p l e R s m args below meth c H locs cells slots Q g := by
  subst h1
  subst h2
  exact k
theorem dX3_init_0 : decode cX3_init 0 = .ok (.aload_n 0, 1) := by decide +kernel
theorem dX3_init_1 : decode cX3_init 1 = .ok (.invokespecial 3, 3) := by decide +kernel
theorem dX3_init_4 : decode cX3_init 4 = .ok (.aload_n 0, 1) := by decide +kernel
theorem dX3_init_5 : decode cX3_init 5 = .ok (.bipush 10, 2) := by decide +kernel
theorem dX3_init_7 : decode cX3_init 7 = .ok (.newarray .int, 2) := by decide +kernel
theorem dX3_init_9 : decode cX3_init 9 = .ok (.putfield 9, 3) := by decide +kernel
theorem dX3_init_12 : decode cX3_init 12 = .ok (.aload_n 0, 1) := by decide +kernel
theorem dX3_init_13 : decode cX3_init 13 = .ok (.bipush 10, 2) := by decide +kernel
theorem dX3_init_15 : decode cX3_init 15 = .ok (.newarray .int, 2) := by decide +kernel
theorem dX3_init_17 : decode cX3_init 17 = .ok (.putfield 15, 3) := by decide +kernel
theorem dX3_init_20 : decode cX3_init 20 = .ok (.aload_n 0, 1) := by decide +kernel
theorem dX3_init_21 : decode cX3_init 21 = .ok (.bipush 10, 2) := by decide +kernel
theorem dX3_init_23 : decode cX3_init 23 = .ok (.anewarray 18, 3) := by decide +kernel
theorem dX3_init_26 : decode cX3_init 26 = .ok (.putfield 20, 3) := by decide +kernel
theorem dX3_init_29 : decode cX3_init 29 = .ok (.return_, 1) := by decide +kernel
def trX3_init : Wd → Nat → List Int → Tr := fun w sz xs => (((((dfs 3).set 0 (.ref (sz + 0))).set 1 (.ref (sz + 1))).set 2 (.ref (sz + 2))), [dar w 24, dar w 25, dar w 26])
set_option maxRecDepth 100000 in
set_option maxHeartbeats 16000000 in
theorem ctX3_init : CT 3 yX3_init cX3_init 1 0 1 12 30 [RX8] trX3_init := by
  refine ct_of (own := "Floatparade$Route") (by decide) rfl rfl ?_
  intro l w sz a xs hxs p e s m below meth c hk hr hlk hao hI
  obtain rfl := List.length_eq_zero_iff.mp hxs
  have hl := lv_entry [Value.ref a] (n := 1) (Nat.le_of_ble_eq_true rfl)
  rw [lg_entry_eq]
  generalize hls : (lg_sl (Value.ref a :: List.map (fun v => Value.int (i32 v)) []) ++ List.replicate (1 - (lg_sl (Value.ref a :: List.map (fun v => Value.int (i32 v)) [])).length) Slot.unset).toArray = ls
  have hl : lv_has ls 1 [(0, .ref a)] := by rw [← hls]; exact hl
  obtain ⟨hx, hb, hml, hown, hkw, hin⟩ := id hk
  have hT := hkw.2.1
  have hfl : (dfs 3).length = 4 := by decide
  refine lv_aload_n hx hb dX3_init_0 rfl (lv_at hl 0 rfl) ?_
  refine W.eq (g2 := F0 m 1 ls [.ref a]) rfl ?_
  refine W.objInit hx hb hown (hT.at (wat_mem (i := 132) (by decide +kernel)) _) (hT.at oiI _) (hT.at oiC _) rfl (hl.1.trans hml.symm) rfl dX3_init_1 (Nat.le_of_ble_eq_true rfl) (Nat.le_of_ble_eq_true rfl) ?_
  refine W.eq (g2 := F0 m 4 ls []) rfl ?_
  refine lv_aload_n hx hb dX3_init_4 rfl (lv_at hl 0 rfl) ?_
  refine W.eq (g2 := F0 m 5 ls [.ref a]) rfl ?_
  refine lv_bipush hx hb (v := i32 10) dX3_init_5 (by decide) ?_
  refine W.eq (g2 := F0 m 7 ls [.int (i32 10), .ref a]) rfl ?_
  refine ct_newa (k2 := 24) (t := 0) (N' := 10) hk hI dX3_init_7 rfl (wat_mem (i := 148) (by decide +kernel)) rfl rfl (fun _ _ => Iff.rfl) (fun _ => rfl) (by decide) (by decide) (Nat.le_of_ble_eq_true rfl) (Nat.le_of_ble_eq_true rfl) (Nat.le_of_ble_eq_true rfl) fun H hI => ?_
  have hI : CI w s a sz 3 (dfs 3) [dar w 24] H _ := hI
  refine W_cs (cells2 := 1) (slots2 := 10) rfl rfl ?_
  refine W.eq (g2 := F0 m 9 ls [.ref (sz + 0), .ref a]) rfl ?_
  refine ct_put (j := 0) hk hI dX3_init_9 (by decide) (by decide) (wat_mem (i := 134) (by decide +kernel)) (cl_ty (q := 3) (by decide) 0 (by decide)) rfl rfl (by rw [hfl]; decide) rfl fun H locs hI => ?_
  have hfl : (((dfs 3).set 0 (.ref (sz + 0)))).length = 4 := List.length_set.trans hfl
  have hI : CI w s a sz 3 ((dfs 3).set 0 (.ref (sz + 0))) [dar w 24] H locs := hI
  refine W.eq (g2 := F0 m 12 ls []) rfl ?_
  refine lv_aload_n hx hb dX3_init_12 rfl (lv_at hl 0 rfl) ?_
  refine W.eq (g2 := F0 m 13 ls [.ref a]) rfl ?_
  refine lv_bipush hx hb (v := i32 10) dX3_init_13 (by decide) ?_
  refine W.eq (g2 := F0 m 15 ls [.int (i32 10), .ref a]) rfl ?_
  refine ct_newa (k2 := 25) (t := 0) (N' := 10) hk hI dX3_init_15 rfl (wat_mem (i := 148) (by decide +kernel)) rfl rfl (fun _ _ => Iff.rfl) (fun _ => rfl) (by decide) (by decide) (Nat.le_of_ble_eq_true rfl) (Nat.le_of_ble_eq_true rfl) (Nat.le_of_ble_eq_true rfl) fun H hI => ?_
  have hI : CI w s a sz 3 ((dfs 3).set 0 (.ref (sz + 0))) [dar w 24, dar w 25] H _ := hI
  refine W_cs (cells2 := 2) (slots2 := 20) rfl rfl ?_
  refine W.eq (g2 := F0 m 17 ls [.ref (sz + 1), .ref a]) rfl ?_
  refine ct_put (j := 1) hk hI dX3_init_17 (by decide) (by decide) (wat_mem (i := 135) (by decide +kernel)) (cl_ty (q := 3) (by decide) 1 (by decide)) rfl rfl (by rw [hfl]; decide) rfl fun H locs hI => ?_
  have hfl : ((((dfs 3).set 0 (.ref (sz + 0))).set 1 (.ref (sz + 1)))).length = 4 := List.length_set.trans hfl
  have hI : CI w s a sz 3 (((dfs 3).set 0 (.ref (sz + 0))).set 1 (.ref (sz + 1))) [dar w 24, dar w 25] H locs := hI
  refine W.eq (g2 := F0 m 20 ls []) rfl ?_
  refine lv_aload_n hx hb dX3_init_20 rfl (lv_at hl 0 rfl) ?_
  refine W.eq (g2 := F0 m 21 ls [.ref a]) rfl ?_
  refine lv_bipush hx hb (v := i32 10) dX3_init_21 (by decide) ?_
  refine W.eq (g2 := F0 m 23 ls [.int (i32 10), .ref a]) rfl ?_
  refine ct_newr (k2 := 26) (t := 6) (N' := 10) hk hI dX3_init_23 (wat_mem (i := 133) (by decide +kernel)) (hao _ (by decide)) rfl (by decide) rfl (by decide) (by decide) (Nat.le_of_ble_eq_true rfl) (Nat.le_of_ble_eq_true rfl) (Nat.le_of_ble_eq_true rfl) fun H hI => ?_
  have hI : CI w s a sz 3 (((dfs 3).set 0 (.ref (sz + 0))).set 1 (.ref (sz + 1))) [dar w 24, dar w 25, dar w 26] H _ := hI
  refine W_cs (cells2 := 3) (slots2 := 30) rfl rfl ?_
  refine W.eq (g2 := F0 m 26 ls [.ref (sz + 2), .ref a]) rfl ?_
  refine ct_put (j := 2) hk hI dX3_init_26 (by decide) (by decide) (wat_mem (i := 136) (by decide +kernel)) (cl_ty (q := 3) (by decide) 2 (by decide)) rfl rfl (by rw [hfl]; decide) rfl fun H locs hI => ?_
  have hfl : (((((dfs 3).set 0 (.ref (sz + 0))).set 1 (.ref (sz + 1))).set 2 (.ref (sz + 2)))).length = 4 := List.length_set.trans hfl
  have hI : CI w s a sz 3 ((((dfs 3).set 0 (.ref (sz + 0))).set 1 (.ref (sz + 1))).set 2 (.ref (sz + 2))) [dar w 24, dar w 25, dar w 26] H locs := hI
  refine W.eq (g2 := F0 m 29 ls []) rfl ?_
  exact ct_end (T := trX3_init w sz []) hk hr hlk hI dX3_init_29 (Nat.le_of_ble_eq_true rfl) (Nat.le_of_ble_eq_true rfl)
theorem dX4_init_0 : decode cX4_init 0 = .ok (.aload_n 0, 1) := by decide +kernel
theorem dX4_init_1 : decode cX4_init 1 = .ok (.invokespecial 3, 3) := by decide +kernel
theorem dX4_init_4 : decode cX4_init 4 = .ok (.aload_n 0, 1) := by decide +kernel
theorem dX4_init_5 : decode cX4_init 5 = .ok (.bipush 10, 2) := by decide +kernel
theorem dX4_init_7 : decode cX4_init 7 = .ok (.anewarray 9, 3) := by decide +kernel
theorem dX4_init_10 : decode cX4_init 10 = .ok (.putfield 11, 3) := by decide +kernel
theorem dX4_init_13 : decode cX4_init 13 = .ok (.return_, 1) := by decide +kernel
def trX4_init : Wd → Nat → List Int → Tr := fun w sz xs => (((dfs 4).set 0 (.ref (sz + 0))), [dar w 27])
set_option maxRecDepth 100000 in
set_option maxHeartbeats 16000000 in
theorem ctX4_init : CT 4 yX4_init cX4_init 1 0 1 12 10 [RX6] trX4_init := by
  refine ct_of (own := "Floatparade$Row") (by decide) rfl rfl ?_
  intro l w sz a xs hxs p e s m below meth c hk hr hlk hao hI
  obtain rfl := List.length_eq_zero_iff.mp hxs
  have hl := lv_entry [Value.ref a] (n := 1) (Nat.le_of_ble_eq_true rfl)
  rw [lg_entry_eq]
  generalize hls : (lg_sl (Value.ref a :: List.map (fun v => Value.int (i32 v)) []) ++ List.replicate (1 - (lg_sl (Value.ref a :: List.map (fun v => Value.int (i32 v)) [])).length) Slot.unset).toArray = ls
  have hl : lv_has ls 1 [(0, .ref a)] := by rw [← hls]; exact hl
  obtain ⟨hx, hb, hml, hown, hkw, hin⟩ := id hk
  have hT := hkw.2.1
  have hfl : (dfs 4).length = 2 := by decide
  refine lv_aload_n hx hb dX4_init_0 rfl (lv_at hl 0 rfl) ?_
  refine W.eq (g2 := F0 m 1 ls [.ref a]) rfl ?_
  refine W.objInit hx hb hown (hT.at (wat_mem (i := 154) (by decide +kernel)) _) (hT.at oiI _) (hT.at oiC _) rfl (hl.1.trans hml.symm) rfl dX4_init_1 (Nat.le_of_ble_eq_true rfl) (Nat.le_of_ble_eq_true rfl) ?_
  refine W.eq (g2 := F0 m 4 ls []) rfl ?_
  refine lv_aload_n hx hb dX4_init_4 rfl (lv_at hl 0 rfl) ?_
  refine W.eq (g2 := F0 m 5 ls [.ref a]) rfl ?_
  refine lv_bipush hx hb (v := i32 10) dX4_init_5 (by decide) ?_
  refine W.eq (g2 := F0 m 7 ls [.int (i32 10), .ref a]) rfl ?_
  refine ct_newr (k2 := 27) (t := 3) (N' := 10) hk hI dX4_init_7 (wat_mem (i := 155) (by decide +kernel)) (hao _ (by decide)) rfl (by decide) rfl (by decide) (by decide) (Nat.le_of_ble_eq_true rfl) (Nat.le_of_ble_eq_true rfl) (Nat.le_of_ble_eq_true rfl) fun H hI => ?_
  have hI : CI w s a sz 4 (dfs 4) [dar w 27] H _ := hI
  refine W_cs (cells2 := 1) (slots2 := 10) rfl rfl ?_
  refine W.eq (g2 := F0 m 10 ls [.ref (sz + 0), .ref a]) rfl ?_
  refine ct_put (j := 0) hk hI dX4_init_10 (by decide) (by decide) (wat_mem (i := 156) (by decide +kernel)) (cl_ty (q := 4) (by decide) 0 (by decide)) rfl rfl (by rw [hfl]; decide) rfl fun H locs hI => ?_
  have hfl : (((dfs 4).set 0 (.ref (sz + 0)))).length = 2 := List.length_set.trans hfl
  have hI : CI w s a sz 4 ((dfs 4).set 0 (.ref (sz + 0))) [dar w 27] H locs := hI
  refine W.eq (g2 := F0 m 13 ls []) rfl ?_
  exact ct_end (T := trX4_init w sz []) hk hr hlk hI dX4_init_13 (Nat.le_of_ble_eq_true rfl) (Nat.le_of_ble_eq_true rfl)
theorem dX1_init_0 : decode cX1_init 0 = .ok (.aload_n 0, 1) := by decide +kernel
theorem dX1_init_1 : decode cX1_init 1 = .ok (.invokespecial 3, 3) := by decide +kernel
theorem dX1_init_4 : decode cX1_init 4 = .ok (.aload_n 0, 1) := by decide +kernel
theorem dX1_init_5 : decode cX1_init 5 = .ok (.bipush 60, 2) := by decide +kernel
theorem dX1_init_7 : decode cX1_init 7 = .ok (.anewarray 9, 3) := by decide +kernel
theorem dX1_init_10 : decode cX1_init 10 = .ok (.putfield 11, 3) := by decide +kernel
theorem dX1_init_13 : decode cX1_init 13 = .ok (.aload_n 0, 1) := by decide +kernel
theorem dX1_init_14 : decode cX1_init 14 = .ok (.bipush 12, 2) := by decide +kernel
theorem dX1_init_16 : decode cX1_init 16 = .ok (.newarray .int, 2) := by decide +kernel
theorem dX1_init_18 : decode cX1_init 18 = .ok (.putfield 17, 3) := by decide +kernel
theorem dX1_init_21 : decode cX1_init 21 = .ok (.aload_n 0, 1) := by decide +kernel
theorem dX1_init_22 : decode cX1_init 22 = .ok (.iconst 1, 1) := by decide +kernel
theorem dX1_init_23 : decode cX1_init 23 = .ok (.putfield 21, 3) := by decide +kernel
theorem dX1_init_26 : decode cX1_init 26 = .ok (.aload_n 0, 1) := by decide +kernel
theorem dX1_init_27 : decode cX1_init 27 = .ok (.sipush 200, 3) := by decide +kernel
theorem dX1_init_30 : decode cX1_init 30 = .ok (.putfield 25, 3) := by decide +kernel
theorem dX1_init_33 : decode cX1_init 33 = .ok (.return_, 1) := by decide +kernel
def trX1_init : Wd → Nat → List Int → Tr := fun w sz xs => ((((((dfs 1).set 0 (.ref (sz + 0))).set 1 (.ref (sz + 1))).set 4 (.int (i32 1))).set 5 (.int (i32 200))), [dar w 28, dar w 29])
set_option maxRecDepth 100000 in
set_option maxHeartbeats 16000000 in
theorem ctX1_init : CT 1 yX1_init cX1_init 1 0 1 12 72 [RX2] trX1_init := by
  refine ct_of (own := "Floatparade$Line") (by decide) rfl rfl ?_
  intro l w sz a xs hxs p e s m below meth c hk hr hlk hao hI
  obtain rfl := List.length_eq_zero_iff.mp hxs
  have hl := lv_entry [Value.ref a] (n := 1) (Nat.le_of_ble_eq_true rfl)
  rw [lg_entry_eq]
  generalize hls : (lg_sl (Value.ref a :: List.map (fun v => Value.int (i32 v)) []) ++ List.replicate (1 - (lg_sl (Value.ref a :: List.map (fun v => Value.int (i32 v)) [])).length) Slot.unset).toArray = ls
  have hl : lv_has ls 1 [(0, .ref a)] := by rw [← hls]; exact hl
  obtain ⟨hx, hb, hml, hown, hkw, hin⟩ := id hk
  have hT := hkw.2.1
  have hfl : (dfs 1).length = 8 := by decide
  refine lv_aload_n hx hb dX1_init_0 rfl (lv_at hl 0 rfl) ?_
  refine W.eq (g2 := F0 m 1 ls [.ref a]) rfl ?_
  refine W.objInit hx hb hown (hT.at (wat_mem (i := 171) (by decide +kernel)) _) (hT.at oiI _) (hT.at oiC _) rfl (hl.1.trans hml.symm) rfl dX1_init_1 (Nat.le_of_ble_eq_true rfl) (Nat.le_of_ble_eq_true rfl) ?_
  refine W.eq (g2 := F0 m 4 ls []) rfl ?_
  refine lv_aload_n hx hb dX1_init_4 rfl (lv_at hl 0 rfl) ?_
  refine W.eq (g2 := F0 m 5 ls [.ref a]) rfl ?_
  refine lv_bipush hx hb (v := i32 60) dX1_init_5 (by decide) ?_
  refine W.eq (g2 := F0 m 7 ls [.int (i32 60), .ref a]) rfl ?_
  refine ct_newr (k2 := 28) (t := 7) (N' := 60) hk hI dX1_init_7 (wat_mem (i := 172) (by decide +kernel)) (hao _ (by decide)) rfl (by decide) rfl (by decide) (by decide) (Nat.le_of_ble_eq_true rfl) (Nat.le_of_ble_eq_true rfl) (Nat.le_of_ble_eq_true rfl) fun H hI => ?_
  have hI : CI w s a sz 1 (dfs 1) [dar w 28] H _ := hI
  refine W_cs (cells2 := 1) (slots2 := 60) rfl rfl ?_
  refine W.eq (g2 := F0 m 10 ls [.ref (sz + 0), .ref a]) rfl ?_
  refine ct_put (j := 0) hk hI dX1_init_10 (by decide) (by decide) (wat_mem (i := 174) (by decide +kernel)) (cl_ty (q := 1) (by decide) 0 (by decide)) rfl rfl (by rw [hfl]; decide) rfl fun H locs hI => ?_
  have hfl : (((dfs 1).set 0 (.ref (sz + 0)))).length = 8 := List.length_set.trans hfl
  have hI : CI w s a sz 1 ((dfs 1).set 0 (.ref (sz + 0))) [dar w 28] H locs := hI
  refine W.eq (g2 := F0 m 13 ls []) rfl ?_
  refine lv_aload_n hx hb dX1_init_13 rfl (lv_at hl 0 rfl) ?_
  refine W.eq (g2 := F0 m 14 ls [.ref a]) rfl ?_
  refine lv_bipush hx hb (v := i32 12) dX1_init_14 (by decide) ?_
  refine W.eq (g2 := F0 m 16 ls [.int (i32 12), .ref a]) rfl ?_
  refine ct_newa (k2 := 29) (t := 0) (N' := 12) hk hI dX1_init_16 rfl (wat_mem (i := 148) (by decide +kernel)) rfl rfl (fun _ _ => Iff.rfl) (fun _ => rfl) (by decide) (by decide) (Nat.le_of_ble_eq_true rfl) (Nat.le_of_ble_eq_true rfl) (Nat.le_of_ble_eq_true rfl) fun H hI => ?_
  have hI : CI w s a sz 1 ((dfs 1).set 0 (.ref (sz + 0))) [dar w 28, dar w 29] H _ := hI
  refine W_cs (cells2 := 2) (slots2 := 72) rfl rfl ?_
  refine W.eq (g2 := F0 m 18 ls [.ref (sz + 1), .ref a]) rfl ?_
  refine ct_put (j := 1) hk hI dX1_init_18 (by decide) (by decide) (wat_mem (i := 175) (by decide +kernel)) (cl_ty (q := 1) (by decide) 1 (by decide)) rfl rfl (by rw [hfl]; decide) rfl fun H locs hI => ?_
  have hfl : ((((dfs 1).set 0 (.ref (sz + 0))).set 1 (.ref (sz + 1)))).length = 8 := List.length_set.trans hfl
  have hI : CI w s a sz 1 (((dfs 1).set 0 (.ref (sz + 0))).set 1 (.ref (sz + 1))) [dar w 28, dar w 29] H locs := hI
  refine W.eq (g2 := F0 m 21 ls []) rfl ?_
  refine lv_aload_n hx hb dX1_init_21 rfl (lv_at hl 0 rfl) ?_
  refine W.eq (g2 := F0 m 22 ls [.ref a]) rfl ?_
  refine lv_iconst hx hb (v := i32 1) dX1_init_22 rfl ?_
  refine W.eq (g2 := F0 m 23 ls [.int (i32 1), .ref a]) rfl ?_
  refine ct_put (j := 4) hk hI dX1_init_23 (by decide) (by decide) (wat_mem (i := 179) (by decide +kernel)) (cl_ty (q := 1) (by decide) 4 (by decide)) (narrow_i _).1 (narrow_i _).2 (by rw [hfl]; decide) rfl fun H locs hI => ?_
  have hfl : (((((dfs 1).set 0 (.ref (sz + 0))).set 1 (.ref (sz + 1))).set 4 (.int (i32 1)))).length = 8 := List.length_set.trans hfl
  have hI : CI w s a sz 1 ((((dfs 1).set 0 (.ref (sz + 0))).set 1 (.ref (sz + 1))).set 4 (.int (i32 1))) [dar w 28, dar w 29] H locs := hI
  refine W.eq (g2 := F0 m 26 ls []) rfl ?_
  refine lv_aload_n hx hb dX1_init_26 rfl (lv_at hl 0 rfl) ?_
  refine W.eq (g2 := F0 m 27 ls [.ref a]) rfl ?_
  refine lv_sipush hx hb (v := i32 200) dX1_init_27 (by decide) ?_
  refine W.eq (g2 := F0 m 30 ls [.int (i32 200), .ref a]) rfl ?_
  refine ct_put (j := 5) hk hI dX1_init_30 (by decide) (by decide) (wat_mem (i := 180) (by decide +kernel)) (cl_ty (q := 1) (by decide) 5 (by decide)) (narrow_i _).1 (narrow_i _).2 (by rw [hfl]; decide) rfl fun H locs hI => ?_
  have hfl : ((((((dfs 1).set 0 (.ref (sz + 0))).set 1 (.ref (sz + 1))).set 4 (.int (i32 1))).set 5 (.int (i32 200)))).length = 8 := List.length_set.trans hfl
  have hI : CI w s a sz 1 (((((dfs 1).set 0 (.ref (sz + 0))).set 1 (.ref (sz + 1))).set 4 (.int (i32 1))).set 5 (.int (i32 200))) [dar w 28, dar w 29] H locs := hI
  refine W.eq (g2 := F0 m 33 ls []) rfl ?_
  exact ct_end (T := trX1_init w sz []) hk hr hlk hI dX1_init_33 (Nat.le_of_ble_eq_true rfl) (Nat.le_of_ble_eq_true rfl)
theorem dX9_init_0 : decode cX9_init 0 = .ok (.aload_n 0, 1) := by decide +kernel
theorem dX9_init_1 : decode cX9_init 1 = .ok (.invokespecial 3, 3) := by decide +kernel
theorem dX9_init_4 : decode cX9_init 4 = .ok (.aload_n 0, 1) := by decide +kernel
theorem dX9_init_5 : decode cX9_init 5 = .ok (.bipush 16, 2) := by decide +kernel
theorem dX9_init_7 : decode cX9_init 7 = .ok (.anewarray 9, 3) := by decide +kernel
theorem dX9_init_10 : decode cX9_init 10 = .ok (.putfield 11, 3) := by decide +kernel
theorem dX9_init_13 : decode cX9_init 13 = .ok (.aload_n 0, 1) := by decide +kernel
theorem dX9_init_14 : decode cX9_init 14 = .ok (.bipush 12, 2) := by decide +kernel
theorem dX9_init_16 : decode cX9_init 16 = .ok (.newarray .boolean, 2) := by decide +kernel
theorem dX9_init_18 : decode cX9_init 18 = .ok (.putfield 17, 3) := by decide +kernel
theorem dX9_init_21 : decode cX9_init 21 = .ok (.return_, 1) := by decide +kernel
def trX9_init : Wd → Nat → List Int → Tr := fun w sz xs => ((((dfs 9).set 0 (.ref (sz + 0))).set 1 (.ref (sz + 1))), [dar w 22, dar w 23])
set_option maxRecDepth 100000 in
set_option maxHeartbeats 16000000 in
theorem ctX9_init : CT 9 yX9_init cX9_init 1 0 1 12 28 [RX8] trX9_init := by
  refine ct_of (own := "Floatparade$Town") (by decide) rfl rfl ?_
  intro l w sz a xs hxs p e s m below meth c hk hr hlk hao hI
  obtain rfl := List.length_eq_zero_iff.mp hxs
  have hl := lv_entry [Value.ref a] (n := 1) (Nat.le_of_ble_eq_true rfl)
  rw [lg_entry_eq]
  generalize hls : (lg_sl (Value.ref a :: List.map (fun v => Value.int (i32 v)) []) ++ List.replicate (1 - (lg_sl (Value.ref a :: List.map (fun v => Value.int (i32 v)) [])).length) Slot.unset).toArray = ls
  have hl : lv_has ls 1 [(0, .ref a)] := by rw [← hls]; exact hl
  obtain ⟨hx, hb, hml, hown, hkw, hin⟩ := id hk
  have hT := hkw.2.1
  have hfl : (dfs 9).length = 3 := by decide
  refine lv_aload_n hx hb dX9_init_0 rfl (lv_at hl 0 rfl) ?_
  refine W.eq (g2 := F0 m 1 ls [.ref a]) rfl ?_
  refine W.objInit hx hb hown (hT.at (wat_mem (i := 108) (by decide +kernel)) _) (hT.at oiI _) (hT.at oiC _) rfl (hl.1.trans hml.symm) rfl dX9_init_1 (Nat.le_of_ble_eq_true rfl) (Nat.le_of_ble_eq_true rfl) ?_
  refine W.eq (g2 := F0 m 4 ls []) rfl ?_
  refine lv_aload_n hx hb dX9_init_4 rfl (lv_at hl 0 rfl) ?_
  refine W.eq (g2 := F0 m 5 ls [.ref a]) rfl ?_
  refine lv_bipush hx hb (v := i32 16) dX9_init_5 (by decide) ?_
  refine W.eq (g2 := F0 m 7 ls [.int (i32 16), .ref a]) rfl ?_
  refine ct_newr (k2 := 22) (t := 6) (N' := 16) hk hI dX9_init_7 (wat_mem (i := 109) (by decide +kernel)) (hao _ (by decide)) rfl (by decide) rfl (by decide) (by decide) (Nat.le_of_ble_eq_true rfl) (Nat.le_of_ble_eq_true rfl) (Nat.le_of_ble_eq_true rfl) fun H hI => ?_
  have hI : CI w s a sz 9 (dfs 9) [dar w 22] H _ := hI
  refine W_cs (cells2 := 1) (slots2 := 16) rfl rfl ?_
  refine W.eq (g2 := F0 m 10 ls [.ref (sz + 0), .ref a]) rfl ?_
  refine ct_put (j := 0) hk hI dX9_init_10 (by decide) (by decide) (wat_mem (i := 111) (by decide +kernel)) (cl_ty (q := 9) (by decide) 0 (by decide)) rfl rfl (by rw [hfl]; decide) rfl fun H locs hI => ?_
  have hfl : (((dfs 9).set 0 (.ref (sz + 0)))).length = 3 := List.length_set.trans hfl
  have hI : CI w s a sz 9 ((dfs 9).set 0 (.ref (sz + 0))) [dar w 22] H locs := hI
  refine W.eq (g2 := F0 m 13 ls []) rfl ?_
  refine lv_aload_n hx hb dX9_init_13 rfl (lv_at hl 0 rfl) ?_
  refine W.eq (g2 := F0 m 14 ls [.ref a]) rfl ?_
  refine lv_bipush hx hb (v := i32 12) dX9_init_14 (by decide) ?_
  refine W.eq (g2 := F0 m 16 ls [.int (i32 12), .ref a]) rfl ?_
  refine ct_newa (k2 := 23) (t := 1) (N' := 12) hk hI dX9_init_16 rfl (wat_mem (i := 121) (by decide +kernel)) rfl rfl (fun _ _ => Iff.rfl) (fun _ => rfl) (by decide) (by decide) (Nat.le_of_ble_eq_true rfl) (Nat.le_of_ble_eq_true rfl) (Nat.le_of_ble_eq_true rfl) fun H hI => ?_
  have hI : CI w s a sz 9 ((dfs 9).set 0 (.ref (sz + 0))) [dar w 22, dar w 23] H _ := hI
  refine W_cs (cells2 := 2) (slots2 := 28) rfl rfl ?_
  refine W.eq (g2 := F0 m 18 ls [.ref (sz + 1), .ref a]) rfl ?_
  refine ct_put (j := 1) hk hI dX9_init_18 (by decide) (by decide) (wat_mem (i := 112) (by decide +kernel)) (cl_ty (q := 9) (by decide) 1 (by decide)) rfl rfl (by rw [hfl]; decide) rfl fun H locs hI => ?_
  have hfl : ((((dfs 9).set 0 (.ref (sz + 0))).set 1 (.ref (sz + 1)))).length = 3 := List.length_set.trans hfl
  have hI : CI w s a sz 9 (((dfs 9).set 0 (.ref (sz + 0))).set 1 (.ref (sz + 1))) [dar w 22, dar w 23] H locs := hI
  refine W.eq (g2 := F0 m 21 ls []) rfl ?_
  exact ct_end (T := trX9_init w sz []) hk hr hlk hI dX9_init_21 (Nat.le_of_ble_eq_true rfl) (Nat.le_of_ble_eq_true rfl)
theorem dX0_init_0 : decode cX0_init 0 = .ok (.aload_n 0, 1) := by decide +kernel
theorem dX0_init_1 : decode cX0_init 1 = .ok (.invokespecial 3, 3) := by decide +kernel
theorem dX0_init_4 : decode cX0_init 4 = .ok (.aload_n 0, 1) := by decide +kernel
theorem dX0_init_5 : decode cX0_init 5 = .ok (.new 9, 3) := by decide +kernel
theorem dX0_init_8 : decode cX0_init 8 = .ok (.dup, 1) := by decide +kernel
theorem dX0_init_9 : decode cX0_init 9 = .ok (.invokespecial 11, 3) := by decide +kernel
theorem dX0_init_12 : decode cX0_init 12 = .ok (.putfield 12, 3) := by decide +kernel
theorem dX0_init_15 : decode cX0_init 15 = .ok (.aload_n 0, 1) := by decide +kernel
theorem dX0_init_16 : decode cX0_init 16 = .ok (.new 18, 3) := by decide +kernel
theorem dX0_init_19 : decode cX0_init 19 = .ok (.dup, 1) := by decide +kernel
theorem dX0_init_20 : decode cX0_init 20 = .ok (.invokespecial 20, 3) := by decide +kernel
theorem dX0_init_23 : decode cX0_init 23 = .ok (.putfield 21, 3) := by decide +kernel
theorem dX0_init_26 : decode cX0_init 26 = .ok (.aload_n 0, 1) := by decide +kernel
theorem dX0_init_27 : decode cX0_init 27 = .ok (.new 18, 3) := by decide +kernel
theorem dX0_init_30 : decode cX0_init 30 = .ok (.dup, 1) := by decide +kernel
theorem dX0_init_31 : decode cX0_init 31 = .ok (.invokespecial 20, 3) := by decide +kernel
theorem dX0_init_34 : decode cX0_init 34 = .ok (.putfield 25, 3) := by decide +kernel
theorem dX0_init_37 : decode cX0_init 37 = .ok (.aload_n 0, 1) := by decide +kernel
theorem dX0_init_38 : decode cX0_init 38 = .ok (.new 28, 3) := by decide +kernel
theorem dX0_init_41 : decode cX0_init 41 = .ok (.dup, 1) := by decide +kernel
theorem dX0_init_42 : decode cX0_init 42 = .ok (.invokespecial 30, 3) := by decide +kernel
theorem dX0_init_45 : decode cX0_init 45 = .ok (.putfield 31, 3) := by decide +kernel
theorem dX0_init_48 : decode cX0_init 48 = .ok (.aload_n 0, 1) := by decide +kernel
theorem dX0_init_49 : decode cX0_init 49 = .ok (.iconst (-1), 1) := by decide +kernel
theorem dX0_init_50 : decode cX0_init 50 = .ok (.putfield 35, 3) := by decide +kernel
theorem dX0_init_53 : decode cX0_init 53 = .ok (.aload_n 0, 1) := by decide +kernel
theorem dX0_init_54 : decode cX0_init 54 = .ok (.iload_n 1, 1) := by decide +kernel
theorem dX0_init_55 : decode cX0_init 55 = .ok (.putfield 39, 3) := by decide +kernel
theorem dX0_init_58 : decode cX0_init 58 = .ok (.return_, 1) := by decide +kernel
def trX0_init : Wd → Nat → List Int → Tr := fun w sz xs => ((((((((dfs 0).set 1 (.ref (sz + 0))).set 2 (.ref (sz + 4))).set 3 (.ref (sz + 6))).set 4 (.ref (sz + 8))).set 5 (.int (i32 (-1)))).set 0 (.int (i32 (xs.getD 0 0)))), [.inr (3, (trX3_init w (sz + 1) []).1), dar w 24, dar w 25, dar w 26, .inr (4, (trX4_init w (sz + 5) []).1), dar w 27, .inr (4, (trX4_init w (sz + 7) []).1), dar w 27, .inr (1, (trX1_init w (sz + 9) []).1), dar w 28, dar w 29])
set_option maxRecDepth 100000 in
set_option maxHeartbeats 16000000 in
theorem ctX0_init : CT 0 yX0_init cX0_init 2 1 2 32 138 [RX8, RX6, RX2] trX0_init := by
  refine ct_of (own := "Floatparade$League") (by decide) rfl rfl ?_
  intro l w sz a xs hxs p e s m below meth c hk hr hlk hao hI
  obtain ⟨x1, rfl⟩ := len_1 hxs
  have hl := lv_entry [Value.ref a, .int (i32 x1)] (n := 2) (Nat.le_of_ble_eq_true rfl)
  rw [lg_entry_eq]
  generalize hls : (lg_sl (Value.ref a :: List.map (fun v => Value.int (i32 v)) [x1]) ++ List.replicate (2 - (lg_sl (Value.ref a :: List.map (fun v => Value.int (i32 v)) [x1])).length) Slot.unset).toArray = ls
  have hl : lv_has ls 2 [(0, .ref a), (1, .int (i32 x1))] := by rw [← hls]; exact hl
  obtain ⟨hx, hb, hml, hown, hkw, hin⟩ := id hk
  have hT := hkw.2.1
  have hfl : (dfs 0).length = 6 := by decide
  refine lv_aload_n hx hb dX0_init_0 rfl (lv_at hl 0 rfl) ?_
  refine W.eq (g2 := F0 m 1 ls [.ref a]) rfl ?_
  refine W.objInit hx hb hown (hT.at (wat_mem (i := 126) (by decide +kernel)) _) (hT.at oiI _) (hT.at oiC _) rfl (hl.1.trans hml.symm) rfl dX0_init_1 (Nat.le_of_ble_eq_true rfl) (Nat.le_of_ble_eq_true rfl) ?_
  refine W.eq (g2 := F0 m 4 ls []) rfl ?_
  refine lv_aload_n hx hb dX0_init_4 rfl (lv_at hl 0 rfl) ?_
  refine W.eq (g2 := F0 m 5 ls [.ref a]) rfl ?_
  refine ct_new (k2 := 3) hk hI dX0_init_5 (by decide) (wat_mem (i := 127) (by decide +kernel)) (wat_mem (i := 128) (by decide +kernel)) (wat_mem (i := 73) (by decide +kernel)) (Nat.le_of_ble_eq_true rfl) (Nat.le_of_ble_eq_true rfl) fun H hI => ?_
  have hI : CI w s a sz 0 (dfs 0) [.inr (3, dfs 3)] H _ := hI
  refine W_cs (cells2 := 1) (slots2 := 4) rfl rfl ?_
  refine W.eq (g2 := F0 m 8 ls [.ref (sz + 0), .ref a]) rfl ?_
  refine lv_dup hx hb dX0_init_8 rfl ?_
  refine W.eq (g2 := F0 m 9 ls [.ref (sz + 0), .ref (sz + 0), .ref a]) rfl ?_
  refine ct_callN (k2 := 3) (vs := []) (xs := []) (rest := []) hk ctX3_init hI dX0_init_9 hl.1 rfl rfl (fun C hC => hao C (by first | exact List.mem_of_mem_tail hC | (revert C; decide))) (wat_mem (i := 129) (by decide +kernel)) (wat_mem (i := 131) (by decide +kernel)) (wat_mem (i := 73) (by decide +kernel)) (wat_mem (i := 130) (by decide +kernel)) rfl (by decide) (by decide +kernel) (Nat.le_of_ble_eq_true rfl) (Nat.le_of_ble_eq_true rfl) (Nat.le_of_ble_eq_true rfl) (Nat.le_of_ble_eq_true rfl) (Nat.le_of_ble_eq_true rfl) fun H locs hI => ?_
  have hI : CI w s a sz 0 (dfs 0) [.inr (3, (trX3_init w (sz + 1) []).1), dar w 24, dar w 25, dar w 26] H locs := hI
  refine W_cs (cells2 := 4) (slots2 := 34) rfl rfl ?_
  refine W.eq (g2 := F0 m 12 ls [.ref (sz + 0), .ref a]) rfl ?_
  refine ct_put (j := 1) hk hI dX0_init_12 (by decide) (by decide) (wat_mem (i := 205) (by decide +kernel)) (cl_ty (q := 0) (by decide) 1 (by decide)) rfl rfl (by rw [hfl]; decide) rfl fun H locs hI => ?_
  have hfl : (((dfs 0).set 1 (.ref (sz + 0)))).length = 6 := List.length_set.trans hfl
  have hI : CI w s a sz 0 ((dfs 0).set 1 (.ref (sz + 0))) [.inr (3, (trX3_init w (sz + 1) []).1), dar w 24, dar w 25, dar w 26] H locs := hI
  refine W.eq (g2 := F0 m 15 ls []) rfl ?_
  refine lv_aload_n hx hb dX0_init_15 rfl (lv_at hl 0 rfl) ?_
  refine W.eq (g2 := F0 m 16 ls [.ref a]) rfl ?_
  refine ct_new (k2 := 4) hk hI dX0_init_16 (by decide) (wat_mem (i := 149) (by decide +kernel)) (wat_mem (i := 150) (by decide +kernel)) (wat_mem (i := 74) (by decide +kernel)) (Nat.le_of_ble_eq_true rfl) (Nat.le_of_ble_eq_true rfl) fun H hI => ?_
  have hI : CI w s a sz 0 ((dfs 0).set 1 (.ref (sz + 0))) [.inr (3, (trX3_init w (sz + 1) []).1), dar w 24, dar w 25, dar w 26, .inr (4, dfs 4)] H _ := hI
  refine W_cs (cells2 := 5) (slots2 := 36) rfl rfl ?_
  refine W.eq (g2 := F0 m 19 ls [.ref (sz + 4), .ref a]) rfl ?_
  refine lv_dup hx hb dX0_init_19 rfl ?_
  refine W.eq (g2 := F0 m 20 ls [.ref (sz + 4), .ref (sz + 4), .ref a]) rfl ?_
  refine ct_callN (k2 := 4) (vs := []) (xs := []) (rest := [.inr (3, (trX3_init w (sz + 1) []).1), dar w 24, dar w 25, dar w 26]) hk ctX4_init hI dX0_init_20 hl.1 rfl rfl (fun C hC => hao C (by first | exact List.mem_of_mem_tail hC | (revert C; decide))) (wat_mem (i := 151) (by decide +kernel)) (wat_mem (i := 153) (by decide +kernel)) (wat_mem (i := 74) (by decide +kernel)) (wat_mem (i := 152) (by decide +kernel)) rfl (by decide) (by decide +kernel) (Nat.le_of_ble_eq_true rfl) (Nat.le_of_ble_eq_true rfl) (Nat.le_of_ble_eq_true rfl) (Nat.le_of_ble_eq_true rfl) (Nat.le_of_ble_eq_true rfl) fun H locs hI => ?_
  have hI : CI w s a sz 0 ((dfs 0).set 1 (.ref (sz + 0))) [.inr (3, (trX3_init w (sz + 1) []).1), dar w 24, dar w 25, dar w 26, .inr (4, (trX4_init w (sz + 5) []).1), dar w 27] H locs := hI
  refine W_cs (cells2 := 6) (slots2 := 46) rfl rfl ?_
  refine W.eq (g2 := F0 m 23 ls [.ref (sz + 4), .ref a]) rfl ?_
  refine ct_put (j := 2) hk hI dX0_init_23 (by decide) (by decide) (wat_mem (i := 207) (by decide +kernel)) (cl_ty (q := 0) (by decide) 2 (by decide)) rfl rfl (by rw [hfl]; decide) rfl fun H locs hI => ?_
  have hfl : ((((dfs 0).set 1 (.ref (sz + 0))).set 2 (.ref (sz + 4)))).length = 6 := List.length_set.trans hfl
  have hI : CI w s a sz 0 (((dfs 0).set 1 (.ref (sz + 0))).set 2 (.ref (sz + 4))) [.inr (3, (trX3_init w (sz + 1) []).1), dar w 24, dar w 25, dar w 26, .inr (4, (trX4_init w (sz + 5) []).1), dar w 27] H locs := hI
  refine W.eq (g2 := F0 m 26 ls []) rfl ?_
  refine lv_aload_n hx hb dX0_init_26 rfl (lv_at hl 0 rfl) ?_
  refine W.eq (g2 := F0 m 27 ls [.ref a]) rfl ?_
  refine ct_new (k2 := 4) hk hI dX0_init_27 (by decide) (wat_mem (i := 149) (by decide +kernel)) (wat_mem (i := 150) (by decide +kernel)) (wat_mem (i := 74) (by decide +kernel)) (Nat.le_of_ble_eq_true rfl) (Nat.le_of_ble_eq_true rfl) fun H hI => ?_
  have hI : CI w s a sz 0 (((dfs 0).set 1 (.ref (sz + 0))).set 2 (.ref (sz + 4))) [.inr (3, (trX3_init w (sz + 1) []).1), dar w 24, dar w 25, dar w 26, .inr (4, (trX4_init w (sz + 5) []).1), dar w 27, .inr (4, dfs 4)] H _ := hI
  refine W_cs (cells2 := 7) (slots2 := 48) rfl rfl ?_
  refine W.eq (g2 := F0 m 30 ls [.ref (sz + 6), .ref a]) rfl ?_
  refine lv_dup hx hb dX0_init_30 rfl ?_
  refine W.eq (g2 := F0 m 31 ls [.ref (sz + 6), .ref (sz + 6), .ref a]) rfl ?_
  refine ct_callN (k2 := 4) (vs := []) (xs := []) (rest := [.inr (3, (trX3_init w (sz + 1) []).1), dar w 24, dar w 25, dar w 26, .inr (4, (trX4_init w (sz + 5) []).1), dar w 27]) hk ctX4_init hI dX0_init_31 hl.1 rfl rfl (fun C hC => hao C (by first | exact List.mem_of_mem_tail hC | (revert C; decide))) (wat_mem (i := 151) (by decide +kernel)) (wat_mem (i := 153) (by decide +kernel)) (wat_mem (i := 74) (by decide +kernel)) (wat_mem (i := 152) (by decide +kernel)) rfl (by decide) (by decide +kernel) (Nat.le_of_ble_eq_true rfl) (Nat.le_of_ble_eq_true rfl) (Nat.le_of_ble_eq_true rfl) (Nat.le_of_ble_eq_true rfl) (Nat.le_of_ble_eq_true rfl) fun H locs hI => ?_
  have hI : CI w s a sz 0 (((dfs 0).set 1 (.ref (sz + 0))).set 2 (.ref (sz + 4))) [.inr (3, (trX3_init w (sz + 1) []).1), dar w 24, dar w 25, dar w 26, .inr (4, (trX4_init w (sz + 5) []).1), dar w 27, .inr (4, (trX4_init w (sz + 7) []).1), dar w 27] H locs := hI
  refine W_cs (cells2 := 8) (slots2 := 58) rfl rfl ?_
  refine W.eq (g2 := F0 m 34 ls [.ref (sz + 6), .ref a]) rfl ?_
  refine ct_put (j := 3) hk hI dX0_init_34 (by decide) (by decide) (wat_mem (i := 209) (by decide +kernel)) (cl_ty (q := 0) (by decide) 3 (by decide)) rfl rfl (by rw [hfl]; decide) rfl fun H locs hI => ?_
  have hfl : (((((dfs 0).set 1 (.ref (sz + 0))).set 2 (.ref (sz + 4))).set 3 (.ref (sz + 6)))).length = 6 := List.length_set.trans hfl
  have hI : CI w s a sz 0 ((((dfs 0).set 1 (.ref (sz + 0))).set 2 (.ref (sz + 4))).set 3 (.ref (sz + 6))) [.inr (3, (trX3_init w (sz + 1) []).1), dar w 24, dar w 25, dar w 26, .inr (4, (trX4_init w (sz + 5) []).1), dar w 27, .inr (4, (trX4_init w (sz + 7) []).1), dar w 27] H locs := hI
  refine W.eq (g2 := F0 m 37 ls []) rfl ?_
  refine lv_aload_n hx hb dX0_init_37 rfl (lv_at hl 0 rfl) ?_
  refine W.eq (g2 := F0 m 38 ls [.ref a]) rfl ?_
  refine ct_new (k2 := 1) hk hI dX0_init_38 (by decide) (wat_mem (i := 166) (by decide +kernel)) (wat_mem (i := 167) (by decide +kernel)) (wat_mem (i := 75) (by decide +kernel)) (Nat.le_of_ble_eq_true rfl) (Nat.le_of_ble_eq_true rfl) fun H hI => ?_
  have hI : CI w s a sz 0 ((((dfs 0).set 1 (.ref (sz + 0))).set 2 (.ref (sz + 4))).set 3 (.ref (sz + 6))) [.inr (3, (trX3_init w (sz + 1) []).1), dar w 24, dar w 25, dar w 26, .inr (4, (trX4_init w (sz + 5) []).1), dar w 27, .inr (4, (trX4_init w (sz + 7) []).1), dar w 27, .inr (1, dfs 1)] H _ := hI
  refine W_cs (cells2 := 9) (slots2 := 66) rfl rfl ?_
  refine W.eq (g2 := F0 m 41 ls [.ref (sz + 8), .ref a]) rfl ?_
  refine lv_dup hx hb dX0_init_41 rfl ?_
  refine W.eq (g2 := F0 m 42 ls [.ref (sz + 8), .ref (sz + 8), .ref a]) rfl ?_
  refine ct_callN (k2 := 1) (vs := []) (xs := []) (rest := [.inr (3, (trX3_init w (sz + 1) []).1), dar w 24, dar w 25, dar w 26, .inr (4, (trX4_init w (sz + 5) []).1), dar w 27, .inr (4, (trX4_init w (sz + 7) []).1), dar w 27]) hk ctX1_init hI dX0_init_42 hl.1 rfl rfl (fun C hC => hao C (by first | exact List.mem_of_mem_tail hC | (revert C; decide))) (wat_mem (i := 168) (by decide +kernel)) (wat_mem (i := 170) (by decide +kernel)) (wat_mem (i := 75) (by decide +kernel)) (wat_mem (i := 169) (by decide +kernel)) rfl (by decide) (by decide +kernel) (Nat.le_of_ble_eq_true rfl) (Nat.le_of_ble_eq_true rfl) (Nat.le_of_ble_eq_true rfl) (Nat.le_of_ble_eq_true rfl) (Nat.le_of_ble_eq_true rfl) fun H locs hI => ?_
  have hI : CI w s a sz 0 ((((dfs 0).set 1 (.ref (sz + 0))).set 2 (.ref (sz + 4))).set 3 (.ref (sz + 6))) [.inr (3, (trX3_init w (sz + 1) []).1), dar w 24, dar w 25, dar w 26, .inr (4, (trX4_init w (sz + 5) []).1), dar w 27, .inr (4, (trX4_init w (sz + 7) []).1), dar w 27, .inr (1, (trX1_init w (sz + 9) []).1), dar w 28, dar w 29] H locs := hI
  refine W_cs (cells2 := 11) (slots2 := 138) rfl rfl ?_
  refine W.eq (g2 := F0 m 45 ls [.ref (sz + 8), .ref a]) rfl ?_
  refine ct_put (j := 4) hk hI dX0_init_45 (by decide) (by decide) (wat_mem (i := 211) (by decide +kernel)) (cl_ty (q := 0) (by decide) 4 (by decide)) rfl rfl (by rw [hfl]; decide) rfl fun H locs hI => ?_
  have hfl : ((((((dfs 0).set 1 (.ref (sz + 0))).set 2 (.ref (sz + 4))).set 3 (.ref (sz + 6))).set 4 (.ref (sz + 8)))).length = 6 := List.length_set.trans hfl
  have hI : CI w s a sz 0 (((((dfs 0).set 1 (.ref (sz + 0))).set 2 (.ref (sz + 4))).set 3 (.ref (sz + 6))).set 4 (.ref (sz + 8))) [.inr (3, (trX3_init w (sz + 1) []).1), dar w 24, dar w 25, dar w 26, .inr (4, (trX4_init w (sz + 5) []).1), dar w 27, .inr (4, (trX4_init w (sz + 7) []).1), dar w 27, .inr (1, (trX1_init w (sz + 9) []).1), dar w 28, dar w 29] H locs := hI
  refine W.eq (g2 := F0 m 48 ls []) rfl ?_
  refine lv_aload_n hx hb dX0_init_48 rfl (lv_at hl 0 rfl) ?_
  refine W.eq (g2 := F0 m 49 ls [.ref a]) rfl ?_
  refine lv_iconst hx hb (v := i32 (-1)) dX0_init_49 rfl ?_
  refine W.eq (g2 := F0 m 50 ls [.int (i32 (-1)), .ref a]) rfl ?_
  refine ct_put (j := 5) hk hI dX0_init_50 (by decide) (by decide) (wat_mem (i := 213) (by decide +kernel)) (cl_ty (q := 0) (by decide) 5 (by decide)) (narrow_i _).1 (narrow_i _).2 (by rw [hfl]; decide) rfl fun H locs hI => ?_
  have hfl : (((((((dfs 0).set 1 (.ref (sz + 0))).set 2 (.ref (sz + 4))).set 3 (.ref (sz + 6))).set 4 (.ref (sz + 8))).set 5 (.int (i32 (-1))))).length = 6 := List.length_set.trans hfl
  have hI : CI w s a sz 0 ((((((dfs 0).set 1 (.ref (sz + 0))).set 2 (.ref (sz + 4))).set 3 (.ref (sz + 6))).set 4 (.ref (sz + 8))).set 5 (.int (i32 (-1)))) [.inr (3, (trX3_init w (sz + 1) []).1), dar w 24, dar w 25, dar w 26, .inr (4, (trX4_init w (sz + 5) []).1), dar w 27, .inr (4, (trX4_init w (sz + 7) []).1), dar w 27, .inr (1, (trX1_init w (sz + 9) []).1), dar w 28, dar w 29] H locs := hI
  refine W.eq (g2 := F0 m 53 ls []) rfl ?_
  refine lv_aload_n hx hb dX0_init_53 rfl (lv_at hl 0 rfl) ?_
  refine W.eq (g2 := F0 m 54 ls [.ref a]) rfl ?_
  refine lv_iload_n hx hb dX0_init_54 rfl (lv_at hl 1 rfl) ?_
  refine W.eq (g2 := F0 m 55 ls [.int (i32 x1), .ref a]) rfl ?_
  refine ct_put (j := 0) hk hI dX0_init_55 (by decide) (by decide) (wat_mem (i := 203) (by decide +kernel)) (cl_ty (q := 0) (by decide) 0 (by decide)) (narrow_i _).1 (narrow_i _).2 (by rw [hfl]; decide) rfl fun H locs hI => ?_
  have hfl : ((((((((dfs 0).set 1 (.ref (sz + 0))).set 2 (.ref (sz + 4))).set 3 (.ref (sz + 6))).set 4 (.ref (sz + 8))).set 5 (.int (i32 (-1)))).set 0 (.int (i32 x1)))).length = 6 := List.length_set.trans hfl
  have hI : CI w s a sz 0 (((((((dfs 0).set 1 (.ref (sz + 0))).set 2 (.ref (sz + 4))).set 3 (.ref (sz + 6))).set 4 (.ref (sz + 8))).set 5 (.int (i32 (-1)))).set 0 (.int (i32 x1))) [.inr (3, (trX3_init w (sz + 1) []).1), dar w 24, dar w 25, dar w 26, .inr (4, (trX4_init w (sz + 5) []).1), dar w 27, .inr (4, (trX4_init w (sz + 7) []).1), dar w 27, .inr (1, (trX1_init w (sz + 9) []).1), dar w 28, dar w 29] H locs := hI
  refine W.eq (g2 := F0 m 58 ls []) rfl ?_
  exact ct_end (T := trX0_init w sz [x1]) hk hr hlk hI dX0_init_58 (Nat.le_of_ble_eq_true rfl) (Nat.le_of_ble_eq_true rfl)
