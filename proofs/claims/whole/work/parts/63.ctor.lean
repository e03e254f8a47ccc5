theorem dX11_init_0 : decode cX11_init 0 = .ok (.aload_n 0, 1) := by decide +kernel
theorem dX11_init_1 : decode cX11_init 1 = .ok (.invokespecial 3, 3) := by decide +kernel
theorem dX11_init_4 : decode cX11_init 4 = .ok (.aload_n 0, 1) := by decide +kernel
theorem dX11_init_5 : decode cX11_init 5 = .ok (.bipush 10, 2) := by decide +kernel
theorem dX11_init_7 : decode cX11_init 7 = .ok (.anewarray 9, 3) := by decide +kernel
theorem dX11_init_10 : decode cX11_init 10 = .ok (.putfield 11, 3) := by decide +kernel
theorem dX11_init_13 : decode cX11_init 13 = .ok (.aload_n 0, 1) := by decide +kernel
theorem dX11_init_14 : decode cX11_init 14 = .ok (.iconst 2, 1) := by decide +kernel
theorem dX11_init_15 : decode cX11_init 15 = .ok (.anewarray 15, 3) := by decide +kernel
theorem dX11_init_18 : decode cX11_init 18 = .ok (.putfield 17, 3) := by decide +kernel
theorem dX11_init_21 : decode cX11_init 21 = .ok (.aload_n 0, 1) := by decide +kernel
theorem dX11_init_22 : decode cX11_init 22 = .ok (.new 21, 3) := by decide +kernel
theorem dX11_init_25 : decode cX11_init 25 = .ok (.dup, 1) := by decide +kernel
theorem dX11_init_26 : decode cX11_init 26 = .ok (.invokespecial 23, 3) := by decide +kernel
theorem dX11_init_29 : decode cX11_init 29 = .ok (.putfield 24, 3) := by decide +kernel
theorem dX11_init_32 : decode cX11_init 32 = .ok (.aload_n 0, 1) := by decide +kernel
theorem dX11_init_33 : decode cX11_init 33 = .ok (.iconst (-1), 1) := by decide +kernel
theorem dX11_init_34 : decode cX11_init 34 = .ok (.putfield 28, 3) := by decide +kernel
theorem dX11_init_37 : decode cX11_init 37 = .ok (.iconst 0, 1) := by decide +kernel
theorem dX11_init_38 : decode cX11_init 38 = .ok (.istore_n 1, 1) := by decide +kernel
theorem dX11_init_39 : decode cX11_init 39 = .ok (.iload_n 1, 1) := by decide +kernel
theorem dX11_init_40 : decode cX11_init 40 = .ok (.aload_n 0, 1) := by decide +kernel
theorem dX11_init_41 : decode cX11_init 41 = .ok (.getfield 17, 3) := by decide +kernel
theorem dX11_init_44 : decode cX11_init 44 = .ok (.arraylength, 1) := by decide +kernel
theorem dX11_init_45 : decode cX11_init 45 = .ok (.if_icmp .ge 23, 3) := by decide +kernel
theorem dX11_init_48 : decode cX11_init 48 = .ok (.aload_n 0, 1) := by decide +kernel
theorem dX11_init_49 : decode cX11_init 49 = .ok (.getfield 17, 3) := by decide +kernel
theorem dX11_init_52 : decode cX11_init 52 = .ok (.iload_n 1, 1) := by decide +kernel
theorem dX11_init_53 : decode cX11_init 53 = .ok (.new 15, 3) := by decide +kernel
theorem dX11_init_56 : decode cX11_init 56 = .ok (.dup, 1) := by decide +kernel
theorem dX11_init_57 : decode cX11_init 57 = .ok (.iload_n 1, 1) := by decide +kernel
theorem dX11_init_58 : decode cX11_init 58 = .ok (.invokespecial 32, 3) := by decide +kernel
theorem dX11_init_61 : decode cX11_init 61 = .ok (.aastore, 1) := by decide +kernel
theorem dX11_init_62 : decode cX11_init 62 = .ok (.iinc 1 1, 3) := by decide +kernel
theorem dX11_init_65 : decode cX11_init 65 = .ok (.goto (-26), 3) := by decide +kernel
theorem dX11_init_68 : decode cX11_init 68 = .ok (.return_, 1) := by decide +kernel
def trX11_init : Wd → Nat → List Int → Tr := fun w sz xs => ((((((dfs 11).set 0 (.ref (sz + 0))).set 1 (.ref (sz + 1))).set 2 (.ref (sz + 2))).set 5 (.int (i32 (-1)))), [dar w 13, .inl (w.2.1 4, 2, .inr (.inr (.inr (.inr (va_up (va_up (fun _ => none) 0 (some (sz + 5))) 1 (some (sz + 17))))))), .inr (9, (trX9_init w (sz + 3) []).1), dar w 22, dar w 23, .inr (0, (trX0_init w (sz + 6) [0]).1), .inr (3, (trX3_init w (sz + 7) []).1), dar w 24, dar w 25, dar w 26, .inr (4, (trX4_init w (sz + 11) []).1), dar w 27, .inr (4, (trX4_init w (sz + 13) []).1), dar w 27, .inr (1, (trX1_init w (sz + 15) []).1), dar w 28, dar w 29, .inr (0, (trX0_init w (sz + 18) [1]).1), .inr (3, (trX3_init w (sz + 19) []).1), dar w 24, dar w 25, dar w 26, .inr (4, (trX4_init w (sz + 23) []).1), dar w 27, .inr (4, (trX4_init w (sz + 25) []).1), dar w 27, .inr (1, (trX1_init w (sz + 27) []).1), dar w 28, dar w 29])
set_option maxRecDepth 100000 in
set_option maxHeartbeats 16000000 in
theorem ctX11_init : CT 11 yX11_init cX11_init 2 0 3 53 331 [RX6, RX0, RX8, RX2] trX11_init := by
  refine ct_of (own := "Floatparade") (by decide) rfl rfl ?_
  intro l w sz a xs hxs p e s m below meth c hk hr hlk hao hI
  obtain rfl := List.length_eq_zero_iff.mp hxs
  have hl := lv_entry [Value.ref a] (n := 2) (Nat.le_of_ble_eq_true rfl)
  rw [lg_entry_eq]
  generalize hls : (lg_sl (Value.ref a :: List.map (fun v => Value.int (i32 v)) []) ++ List.replicate (2 - (lg_sl (Value.ref a :: List.map (fun v => Value.int (i32 v)) [])).length) Slot.unset).toArray = ls
  have hl : lv_has ls 2 [(0, .ref a)] := by rw [← hls]; exact hl
  obtain ⟨hx, hb, hml, hown, hkw, hin⟩ := id hk
  have hT := hkw.2.1
  have hfl : (dfs 11).length = 7 := by decide
  refine lv_aload_n hx hb dX11_init_0 rfl (lv_at hl 0 rfl) ?_
  refine W.eq (g2 := F0 m 1 ls [.ref a]) rfl ?_
  refine W.objInit hx hb hown (hT.at (wat_mem (i := 96) (by decide +kernel)) _) (hT.at oiI _) (hT.at oiC _) rfl (hl.1.trans hml.symm) rfl dX11_init_1 (Nat.le_of_ble_eq_true rfl) (Nat.le_of_ble_eq_true rfl) ?_
  refine W.eq (g2 := F0 m 4 ls []) rfl ?_
  refine lv_aload_n hx hb dX11_init_4 rfl (lv_at hl 0 rfl) ?_
  refine W.eq (g2 := F0 m 5 ls [.ref a]) rfl ?_
  refine lv_bipush hx hb (v := i32 10) dX11_init_5 (by decide) ?_
  refine W.eq (g2 := F0 m 7 ls [.int (i32 10), .ref a]) rfl ?_
  refine ct_newr (k2 := 13) (t := 3) (N' := 10) hk hI dX11_init_7 (wat_mem (i := 99) (by decide +kernel)) (hao _ (by decide)) rfl (by decide) rfl (by decide) (by decide) (Nat.le_of_ble_eq_true rfl) (Nat.le_of_ble_eq_true rfl) (Nat.le_of_ble_eq_true rfl) fun H hI => ?_
  have hI : CI w s a sz 11 (dfs 11) [dar w 13] H _ := hI
  refine W_cs (cells2 := 1) (slots2 := 10) rfl rfl ?_
  refine W.eq (g2 := F0 m 10 ls [.ref (sz + 0), .ref a]) rfl ?_
  refine ct_put (j := 0) hk hI dX11_init_10 (by decide) (by decide) (wat_mem (i := 227) (by decide +kernel)) (cl_ty (q := 11) (by decide) 0 (by decide)) rfl rfl (by rw [hfl]; decide) rfl fun H locs hI => ?_
  have hfl : (((dfs 11).set 0 (.ref (sz + 0)))).length = 7 := List.length_set.trans hfl
  have hI : CI w s a sz 11 ((dfs 11).set 0 (.ref (sz + 0))) [dar w 13] H locs := hI
  refine W.eq (g2 := F0 m 13 ls []) rfl ?_
  refine lv_aload_n hx hb dX11_init_13 rfl (lv_at hl 0 rfl) ?_
  refine W.eq (g2 := F0 m 14 ls [.ref a]) rfl ?_
  refine lv_iconst hx hb (v := i32 2) dX11_init_14 rfl ?_
  refine W.eq (g2 := F0 m 15 ls [.int (i32 2), .ref a]) rfl ?_
  refine ct_newr (k2 := 14) (t := 4) (N' := 2) hk hI dX11_init_15 (wat_mem (i := 101) (by decide +kernel)) (hao _ (by decide)) rfl (by decide) rfl (by decide) (by decide) (Nat.le_of_ble_eq_true rfl) (Nat.le_of_ble_eq_true rfl) (Nat.le_of_ble_eq_true rfl) fun H hI => ?_
  have hI : CI w s a sz 11 ((dfs 11).set 0 (.ref (sz + 0))) [dar w 13, dar w 14] H _ := hI
  refine W_cs (cells2 := 2) (slots2 := 12) rfl rfl ?_
  refine W.eq (g2 := F0 m 18 ls [.ref (sz + 1), .ref a]) rfl ?_
  refine ct_put (j := 1) hk hI dX11_init_18 (by decide) (by decide) (wat_mem (i := 228) (by decide +kernel)) (cl_ty (q := 11) (by decide) 1 (by decide)) rfl rfl (by rw [hfl]; decide) rfl fun H locs hI => ?_
  have hfl : ((((dfs 11).set 0 (.ref (sz + 0))).set 1 (.ref (sz + 1)))).length = 7 := List.length_set.trans hfl
  have hI : CI w s a sz 11 (((dfs 11).set 0 (.ref (sz + 0))).set 1 (.ref (sz + 1))) [dar w 13, dar w 14] H locs := hI
  refine W.eq (g2 := F0 m 21 ls []) rfl ?_
  refine lv_aload_n hx hb dX11_init_21 rfl (lv_at hl 0 rfl) ?_
  refine W.eq (g2 := F0 m 22 ls [.ref a]) rfl ?_
  refine ct_new (k2 := 9) hk hI dX11_init_22 (by decide) (wat_mem (i := 103) (by decide +kernel)) (wat_mem (i := 104) (by decide +kernel)) (wat_mem (i := 71) (by decide +kernel)) (Nat.le_of_ble_eq_true rfl) (Nat.le_of_ble_eq_true rfl) fun H hI => ?_
  have hI : CI w s a sz 11 (((dfs 11).set 0 (.ref (sz + 0))).set 1 (.ref (sz + 1))) [dar w 13, dar w 14, .inr (9, dfs 9)] H _ := hI
  refine W_cs (cells2 := 3) (slots2 := 15) rfl rfl ?_
  refine W.eq (g2 := F0 m 25 ls [.ref (sz + 2), .ref a]) rfl ?_
  refine lv_dup hx hb dX11_init_25 rfl ?_
  refine W.eq (g2 := F0 m 26 ls [.ref (sz + 2), .ref (sz + 2), .ref a]) rfl ?_
  refine ct_callN (k2 := 9) (vs := []) (xs := []) (rest := [dar w 13, dar w 14]) hk ctX9_init hI dX11_init_26 hl.1 rfl rfl (fun C hC => hao C (by first | exact List.mem_of_mem_tail hC | (revert C; decide))) (wat_mem (i := 105) (by decide +kernel)) (wat_mem (i := 107) (by decide +kernel)) (wat_mem (i := 71) (by decide +kernel)) (wat_mem (i := 106) (by decide +kernel)) rfl (by decide) (by decide +kernel) (Nat.le_of_ble_eq_true rfl) (Nat.le_of_ble_eq_true rfl) (Nat.le_of_ble_eq_true rfl) (Nat.le_of_ble_eq_true rfl) (Nat.le_of_ble_eq_true rfl) fun H locs hI => ?_
  have hI : CI w s a sz 11 (((dfs 11).set 0 (.ref (sz + 0))).set 1 (.ref (sz + 1))) [dar w 13, dar w 14, .inr (9, (trX9_init w (sz + 3) []).1), dar w 22, dar w 23] H locs := hI
  refine W_cs (cells2 := 5) (slots2 := 43) rfl rfl ?_
  refine W.eq (g2 := F0 m 29 ls [.ref (sz + 2), .ref a]) rfl ?_
  refine ct_put (j := 2) hk hI dX11_init_29 (by decide) (by decide) (wat_mem (i := 229) (by decide +kernel)) (cl_ty (q := 11) (by decide) 2 (by decide)) rfl rfl (by rw [hfl]; decide) rfl fun H locs hI => ?_
  have hfl : (((((dfs 11).set 0 (.ref (sz + 0))).set 1 (.ref (sz + 1))).set 2 (.ref (sz + 2)))).length = 7 := List.length_set.trans hfl
  have hI : CI w s a sz 11 ((((dfs 11).set 0 (.ref (sz + 0))).set 1 (.ref (sz + 1))).set 2 (.ref (sz + 2))) [dar w 13, dar w 14, .inr (9, (trX9_init w (sz + 3) []).1), dar w 22, dar w 23] H locs := hI
  refine W.eq (g2 := F0 m 32 ls []) rfl ?_
  refine lv_aload_n hx hb dX11_init_32 rfl (lv_at hl 0 rfl) ?_
  refine W.eq (g2 := F0 m 33 ls [.ref a]) rfl ?_
  refine lv_iconst hx hb (v := i32 (-1)) dX11_init_33 rfl ?_
  refine W.eq (g2 := F0 m 34 ls [.int (i32 (-1)), .ref a]) rfl ?_
  refine ct_put (j := 5) hk hI dX11_init_34 (by decide) (by decide) (wat_mem (i := 232) (by decide +kernel)) (cl_ty (q := 11) (by decide) 5 (by decide)) (narrow_i _).1 (narrow_i _).2 (by rw [hfl]; decide) rfl fun H locs hI => ?_
  have hfl : ((((((dfs 11).set 0 (.ref (sz + 0))).set 1 (.ref (sz + 1))).set 2 (.ref (sz + 2))).set 5 (.int (i32 (-1))))).length = 7 := List.length_set.trans hfl
  have hI : CI w s a sz 11 (((((dfs 11).set 0 (.ref (sz + 0))).set 1 (.ref (sz + 1))).set 2 (.ref (sz + 2))).set 5 (.int (i32 (-1)))) [dar w 13, dar w 14, .inr (9, (trX9_init w (sz + 3) []).1), dar w 22, dar w 23] H locs := hI
  refine W.eq (g2 := F0 m 37 ls []) rfl ?_
  refine lv_iconst hx hb (v := i32 0) dX11_init_37 rfl ?_
  refine W.eq (g2 := F0 m 38 ls [.int (i32 0)]) rfl ?_
  refine lv_istore_n hx hb dX11_init_38 rfl hl (by decide) rfl fun ls hl => ?_
  have hl : lv_has ls 2 [(1, .int (i32 0)), (0, .ref a)] := hl
  refine W.eq (g2 := F0 m 39 ls []) rfl ?_
  refine lv_iload_n hx hb dX11_init_39 rfl (lv_at hl 0 rfl) ?_
  refine W.eq (g2 := F0 m 40 ls [.int (i32 0)]) rfl ?_
  refine lv_aload_n hx hb dX11_init_40 rfl (lv_at hl 1 rfl) ?_
  refine W.eq (g2 := F0 m 41 ls [.ref a, .int (i32 0)]) rfl ?_
  refine ct_get (j := 1) hk hI dX11_init_41 (by decide) (by decide) (wat_mem (i := 228) (by decide +kernel)) rfl ?_
  refine W.eq (g2 := F0 m 44 ls [.ref (sz + 1), .int (i32 0)]) rfl ?_
  refine ct_alen (i9 := 1) (t := 4) (v := i32 2) hk hI dX11_init_44 rfl rfl rfl ?_
  refine W.eq (g2 := F0 m 45 ls [.int (i32 2), .int (i32 0)]) rfl ?_
  refine lv_icmp_ge hx hb dX11_init_45 (tgt := 68) (by decide) (fun h9 => absurd h9 (by decide +kernel)) (fun _ => ?_)
  refine W.eq (g2 := F0 m 48 ls []) rfl ?_
  refine lv_aload_n hx hb dX11_init_48 rfl (lv_at hl 1 rfl) ?_
  refine W.eq (g2 := F0 m 49 ls [.ref a]) rfl ?_
  refine ct_get (j := 1) hk hI dX11_init_49 (by decide) (by decide) (wat_mem (i := 228) (by decide +kernel)) rfl ?_
  refine W.eq (g2 := F0 m 52 ls [.ref (sz + 1)]) rfl ?_
  refine lv_iload_n hx hb dX11_init_52 rfl (lv_at hl 0 rfl) ?_
  refine W.eq (g2 := F0 m 53 ls [.int (i32 0), .ref (sz + 1)]) rfl ?_
  refine ct_new (k2 := 0) hk hI dX11_init_53 (by decide) (wat_mem (i := 101) (by decide +kernel)) (wat_mem (i := 122) (by decide +kernel)) (wat_mem (i := 72) (by decide +kernel)) (Nat.le_of_ble_eq_true rfl) (Nat.le_of_ble_eq_true rfl) fun H hI => ?_
  have hI : CI w s a sz 11 (((((dfs 11).set 0 (.ref (sz + 0))).set 1 (.ref (sz + 1))).set 2 (.ref (sz + 2))).set 5 (.int (i32 (-1)))) [dar w 13, dar w 14, .inr (9, (trX9_init w (sz + 3) []).1), dar w 22, dar w 23, .inr (0, dfs 0)] H _ := hI
  refine W_cs (cells2 := 6) (slots2 := 49) rfl rfl ?_
  refine W.eq (g2 := F0 m 56 ls [.ref (sz + 5), .int (i32 0), .ref (sz + 1)]) rfl ?_
  refine lv_dup hx hb dX11_init_56 rfl ?_
  refine W.eq (g2 := F0 m 57 ls [.ref (sz + 5), .ref (sz + 5), .int (i32 0), .ref (sz + 1)]) rfl ?_
  refine lv_iload_n hx hb dX11_init_57 rfl (lv_at hl 0 rfl) ?_
  refine W.eq (g2 := F0 m 58 ls [.int (i32 0), .ref (sz + 5), .ref (sz + 5), .int (i32 0), .ref (sz + 1)]) rfl ?_
  refine ct_call (k2 := 0) (vs := [.int (i32 0)]) (xs := [0]) (rest := [dar w 13, dar w 14, .inr (9, (trX9_init w (sz + 3) []).1), dar w 22, dar w 23]) hk ctX0_init hI dX11_init_58 hl.1 rfl rfl (fun C hC => hao C (by first | exact List.mem_of_mem_tail hC | (revert C; decide))) (wat_mem (i := 123) (by decide +kernel)) (wat_mem (i := 125) (by decide +kernel)) (wat_mem (i := 72) (by decide +kernel)) (wat_mem (i := 124) (by decide +kernel)) rfl (by decide) (by decide +kernel) (Nat.le_of_ble_eq_true rfl) (Nat.le_of_ble_eq_true rfl) (Nat.le_of_ble_eq_true rfl) (Nat.le_of_ble_eq_true rfl) (Nat.le_of_ble_eq_true rfl) fun H locs hI => ?_
  have hI : CI w s a sz 11 (((((dfs 11).set 0 (.ref (sz + 0))).set 1 (.ref (sz + 1))).set 2 (.ref (sz + 2))).set 5 (.int (i32 (-1)))) [dar w 13, dar w 14, .inr (9, (trX9_init w (sz + 3) []).1), dar w 22, dar w 23, .inr (0, (trX0_init w (sz + 6) [0]).1), .inr (3, (trX3_init w (sz + 7) []).1), dar w 24, dar w 25, dar w 26, .inr (4, (trX4_init w (sz + 11) []).1), dar w 27, .inr (4, (trX4_init w (sz + 13) []).1), dar w 27, .inr (1, (trX1_init w (sz + 15) []).1), dar w 28, dar w 29] H locs := hI
  refine W_cs (cells2 := 17) (slots2 := 187) rfl rfl ?_
  refine W.eq (g2 := F0 m 61 ls [.ref (sz + 5), .int (i32 0), .ref (sz + 1)]) rfl ?_
  refine ct_aast (i9 := 1) (j9 := 5) (t := 4) (n := 2) (f := (fun _ => none)) hk hI dX11_init_61 (by decide) rfl rfl (by unfold vp_in; decide) fun H locs hI => ?_
  have hI : CI w s a sz 11 (((((dfs 11).set 0 (.ref (sz + 0))).set 1 (.ref (sz + 1))).set 2 (.ref (sz + 2))).set 5 (.int (i32 (-1)))) [dar w 13, .inl (w.2.1 4, 2, .inr (.inr (.inr (.inr (va_up (fun _ => none) 0 (some (sz + 5))))))), .inr (9, (trX9_init w (sz + 3) []).1), dar w 22, dar w 23, .inr (0, (trX0_init w (sz + 6) [0]).1), .inr (3, (trX3_init w (sz + 7) []).1), dar w 24, dar w 25, dar w 26, .inr (4, (trX4_init w (sz + 11) []).1), dar w 27, .inr (4, (trX4_init w (sz + 13) []).1), dar w 27, .inr (1, (trX1_init w (sz + 15) []).1), dar w 28, dar w 29] H locs := hI
  refine W.eq (g2 := F0 m 62 ls []) rfl ?_
  refine lv_iinc hx hb dX11_init_62 hl (k := 0) (v := i32 1) rfl (by decide +kernel) (by decide) rfl fun ls hl => ?_
  have hl : lv_has ls 2 [(1, .int (i32 1)), (0, .ref a)] := hl
  refine W.eq (g2 := F0 m 65 ls []) rfl ?_
  refine lv_goto hx hb dX11_init_65 (tgt := 39) (by decide) ?_
  refine W.eq (g2 := F0 m 39 ls []) rfl ?_
  refine lv_iload_n hx hb dX11_init_39 rfl (lv_at hl 0 rfl) ?_
  refine W.eq (g2 := F0 m 40 ls [.int (i32 1)]) rfl ?_
  refine lv_aload_n hx hb dX11_init_40 rfl (lv_at hl 1 rfl) ?_
  refine W.eq (g2 := F0 m 41 ls [.ref a, .int (i32 1)]) rfl ?_
  refine ct_get (j := 1) hk hI dX11_init_41 (by decide) (by decide) (wat_mem (i := 228) (by decide +kernel)) rfl ?_
  refine W.eq (g2 := F0 m 44 ls [.ref (sz + 1), .int (i32 1)]) rfl ?_
  refine ct_alen (i9 := 1) (t := 4) (v := i32 2) hk hI dX11_init_44 rfl rfl rfl ?_
  refine W.eq (g2 := F0 m 45 ls [.int (i32 2), .int (i32 1)]) rfl ?_
  refine lv_icmp_ge hx hb dX11_init_45 (tgt := 68) (by decide) (fun h9 => absurd h9 (by decide +kernel)) (fun _ => ?_)
  refine W.eq (g2 := F0 m 48 ls []) rfl ?_
  refine lv_aload_n hx hb dX11_init_48 rfl (lv_at hl 1 rfl) ?_
  refine W.eq (g2 := F0 m 49 ls [.ref a]) rfl ?_
  refine ct_get (j := 1) hk hI dX11_init_49 (by decide) (by decide) (wat_mem (i := 228) (by decide +kernel)) rfl ?_
  refine W.eq (g2 := F0 m 52 ls [.ref (sz + 1)]) rfl ?_
  refine lv_iload_n hx hb dX11_init_52 rfl (lv_at hl 0 rfl) ?_
  refine W.eq (g2 := F0 m 53 ls [.int (i32 1), .ref (sz + 1)]) rfl ?_
  refine ct_new (k2 := 0) hk hI dX11_init_53 (by decide) (wat_mem (i := 101) (by decide +kernel)) (wat_mem (i := 122) (by decide +kernel)) (wat_mem (i := 72) (by decide +kernel)) (Nat.le_of_ble_eq_true rfl) (Nat.le_of_ble_eq_true rfl) fun H hI => ?_
  have hI : CI w s a sz 11 (((((dfs 11).set 0 (.ref (sz + 0))).set 1 (.ref (sz + 1))).set 2 (.ref (sz + 2))).set 5 (.int (i32 (-1)))) [dar w 13, .inl (w.2.1 4, 2, .inr (.inr (.inr (.inr (va_up (fun _ => none) 0 (some (sz + 5))))))), .inr (9, (trX9_init w (sz + 3) []).1), dar w 22, dar w 23, .inr (0, (trX0_init w (sz + 6) [0]).1), .inr (3, (trX3_init w (sz + 7) []).1), dar w 24, dar w 25, dar w 26, .inr (4, (trX4_init w (sz + 11) []).1), dar w 27, .inr (4, (trX4_init w (sz + 13) []).1), dar w 27, .inr (1, (trX1_init w (sz + 15) []).1), dar w 28, dar w 29, .inr (0, dfs 0)] H _ := hI
  refine W_cs (cells2 := 18) (slots2 := 193) rfl rfl ?_
  refine W.eq (g2 := F0 m 56 ls [.ref (sz + 17), .int (i32 1), .ref (sz + 1)]) rfl ?_
  refine lv_dup hx hb dX11_init_56 rfl ?_
  refine W.eq (g2 := F0 m 57 ls [.ref (sz + 17), .ref (sz + 17), .int (i32 1), .ref (sz + 1)]) rfl ?_
  refine lv_iload_n hx hb dX11_init_57 rfl (lv_at hl 0 rfl) ?_
  refine W.eq (g2 := F0 m 58 ls [.int (i32 1), .ref (sz + 17), .ref (sz + 17), .int (i32 1), .ref (sz + 1)]) rfl ?_
  refine ct_call (k2 := 0) (vs := [.int (i32 1)]) (xs := [1]) (rest := [dar w 13, .inl (w.2.1 4, 2, .inr (.inr (.inr (.inr (va_up (fun _ => none) 0 (some (sz + 5))))))), .inr (9, (trX9_init w (sz + 3) []).1), dar w 22, dar w 23, .inr (0, (trX0_init w (sz + 6) [0]).1), .inr (3, (trX3_init w (sz + 7) []).1), dar w 24, dar w 25, dar w 26, .inr (4, (trX4_init w (sz + 11) []).1), dar w 27, .inr (4, (trX4_init w (sz + 13) []).1), dar w 27, .inr (1, (trX1_init w (sz + 15) []).1), dar w 28, dar w 29]) hk ctX0_init hI dX11_init_58 hl.1 rfl rfl (fun C hC => hao C (by first | exact List.mem_of_mem_tail hC | (revert C; decide))) (wat_mem (i := 123) (by decide +kernel)) (wat_mem (i := 125) (by decide +kernel)) (wat_mem (i := 72) (by decide +kernel)) (wat_mem (i := 124) (by decide +kernel)) rfl (by decide) (by decide +kernel) (Nat.le_of_ble_eq_true rfl) (Nat.le_of_ble_eq_true rfl) (Nat.le_of_ble_eq_true rfl) (Nat.le_of_ble_eq_true rfl) (Nat.le_of_ble_eq_true rfl) fun H locs hI => ?_
  have hI : CI w s a sz 11 (((((dfs 11).set 0 (.ref (sz + 0))).set 1 (.ref (sz + 1))).set 2 (.ref (sz + 2))).set 5 (.int (i32 (-1)))) [dar w 13, .inl (w.2.1 4, 2, .inr (.inr (.inr (.inr (va_up (fun _ => none) 0 (some (sz + 5))))))), .inr (9, (trX9_init w (sz + 3) []).1), dar w 22, dar w 23, .inr (0, (trX0_init w (sz + 6) [0]).1), .inr (3, (trX3_init w (sz + 7) []).1), dar w 24, dar w 25, dar w 26, .inr (4, (trX4_init w (sz + 11) []).1), dar w 27, .inr (4, (trX4_init w (sz + 13) []).1), dar w 27, .inr (1, (trX1_init w (sz + 15) []).1), dar w 28, dar w 29, .inr (0, (trX0_init w (sz + 18) [1]).1), .inr (3, (trX3_init w (sz + 19) []).1), dar w 24, dar w 25, dar w 26, .inr (4, (trX4_init w (sz + 23) []).1), dar w 27, .inr (4, (trX4_init w (sz + 25) []).1), dar w 27, .inr (1, (trX1_init w (sz + 27) []).1), dar w 28, dar w 29] H locs := hI
  refine W_cs (cells2 := 29) (slots2 := 331) rfl rfl ?_
  refine W.eq (g2 := F0 m 61 ls [.ref (sz + 17), .int (i32 1), .ref (sz + 1)]) rfl ?_
  refine ct_aast (i9 := 1) (j9 := 17) (t := 4) (n := 2) (f := (va_up (fun _ => none) 0 (some (sz + 5)))) hk hI dX11_init_61 (by decide) rfl rfl (by unfold vp_in; decide) fun H locs hI => ?_
  have hI : CI w s a sz 11 (((((dfs 11).set 0 (.ref (sz + 0))).set 1 (.ref (sz + 1))).set 2 (.ref (sz + 2))).set 5 (.int (i32 (-1)))) [dar w 13, .inl (w.2.1 4, 2, .inr (.inr (.inr (.inr (va_up (va_up (fun _ => none) 0 (some (sz + 5))) 1 (some (sz + 17))))))), .inr (9, (trX9_init w (sz + 3) []).1), dar w 22, dar w 23, .inr (0, (trX0_init w (sz + 6) [0]).1), .inr (3, (trX3_init w (sz + 7) []).1), dar w 24, dar w 25, dar w 26, .inr (4, (trX4_init w (sz + 11) []).1), dar w 27, .inr (4, (trX4_init w (sz + 13) []).1), dar w 27, .inr (1, (trX1_init w (sz + 15) []).1), dar w 28, dar w 29, .inr (0, (trX0_init w (sz + 18) [1]).1), .inr (3, (trX3_init w (sz + 19) []).1), dar w 24, dar w 25, dar w 26, .inr (4, (trX4_init w (sz + 23) []).1), dar w 27, .inr (4, (trX4_init w (sz + 25) []).1), dar w 27, .inr (1, (trX1_init w (sz + 27) []).1), dar w 28, dar w 29] H locs := hI
  refine W.eq (g2 := F0 m 62 ls []) rfl ?_
  refine lv_iinc hx hb dX11_init_62 hl (k := 0) (v := i32 2) rfl (by decide +kernel) (by decide) rfl fun ls hl => ?_
  have hl : lv_has ls 2 [(1, .int (i32 2)), (0, .ref a)] := hl
  refine W.eq (g2 := F0 m 65 ls []) rfl ?_
  refine lv_goto hx hb dX11_init_65 (tgt := 39) (by decide) ?_
  refine W.eq (g2 := F0 m 39 ls []) rfl ?_
  refine lv_iload_n hx hb dX11_init_39 rfl (lv_at hl 0 rfl) ?_
  refine W.eq (g2 := F0 m 40 ls [.int (i32 2)]) rfl ?_
  refine lv_aload_n hx hb dX11_init_40 rfl (lv_at hl 1 rfl) ?_
  refine W.eq (g2 := F0 m 41 ls [.ref a, .int (i32 2)]) rfl ?_
  refine ct_get (j := 1) hk hI dX11_init_41 (by decide) (by decide) (wat_mem (i := 228) (by decide +kernel)) rfl ?_
  refine W.eq (g2 := F0 m 44 ls [.ref (sz + 1), .int (i32 2)]) rfl ?_
  refine ct_alen (i9 := 1) (t := 4) (v := i32 2) hk hI dX11_init_44 rfl rfl rfl ?_
  refine W.eq (g2 := F0 m 45 ls [.int (i32 2), .int (i32 2)]) rfl ?_
  refine lv_icmp_ge hx hb dX11_init_45 (tgt := 68) (by decide) (fun _ => ?_) (fun h9 => absurd (by decide +kernel) h9)
  refine W.eq (g2 := F0 m 68 ls []) rfl ?_
  exact ct_end (T := trX11_init w sz []) hk hr hlk hI dX11_init_68 (Nat.le_of_ble_eq_true rfl) (Nat.le_of_ble_eq_true rfl)
