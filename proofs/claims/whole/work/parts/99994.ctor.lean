set_option maxHeartbeats 4000000 in
theorem ctX12_ini9 : CT 12 yX12_init cX12_init 1 0 1 12 2138 [] trX12_init := by
  refine ct_of (own := "FloatparadeModel") (by decide) rfl rfl ?_
  intro l w sz a xs hxs p e s m below meth c hk hr hlk hao hI
  obtain rfl := List.length_eq_zero_iff.mp hxs
  have hl := lv_entry [Value.ref a] (n := 1) (Nat.le_of_ble_eq_true rfl)
  rw [lg_entry_eq]
  generalize hls : (lg_sl (Value.ref a :: List.map (fun v => Value.int (i32 v)) []) ++ List.replicate (1 - (lg_sl (Value.ref a :: List.map (fun v => Value.int (i32 v)) [])).length) Slot.unset).toArray = ls
  have hl : lv_has ls 1 [(0, .ref a)] := by rw [← hls]; exact hl
  obtain ⟨hx, hb, hml, hown, hkw, hin⟩ := id hk
  have hT := hkw.2.1
  have hfl : (dfs 12).length = 52 := by decide
  have hN9 : (trX12_init w sz []).2.length = 46 := rfl
  refine lv_aload_n hx hb dX12_init_0 rfl (lv_at hl 0 rfl) ?_
  refine W.eq (g2 := F0 m 1 ls [.ref a]) rfl ?_
  refine W.objInit hx hb hown (hT.at (wat_mem (i := 1328) (by decide +kernel)) _) (hT.at oiI _) (hT.at oiC _) rfl (hl.1.trans hml.symm) rfl dX12_init_1 (Nat.le_of_ble_eq_true rfl) (Nat.le_of_ble_eq_true rfl) ?_
  refine W.eq (g2 := F0 m 4 ls []) rfl ?_
  obtain ⟨f0, ef0⟩ : ∃ f, dfs 12 = f := ⟨_, rfl⟩
  obtain ⟨r0, er0⟩ : ∃ r, ([] : List va_E) = r := ⟨_, rfl⟩
  rw [ef0, er0] at hI
  rw [ef0] at hfl
  have hrl : r0.length = 0 := by rw [← er0]; rfl
  have hc9 : 46 ≤ (trX12_init w sz []).2.length := by rw [hN9]; exact Nat.le_refl _
  refine zb_0 hk hl hc9 (Nat.le_refl 2138) hfl hrl hI fun H locs f1 r1 ef1 er1 hfl hrl hI => ?_
  refine zb_1 hk hl hc9 (Nat.le_refl 2138) hfl hrl hI fun H locs f2 r2 ef2 er2 hfl hrl hI => ?_
  refine zb_2 hk hl hc9 (Nat.le_refl 2138) hfl hrl hI fun H locs f3 r3 ef3 er3 hfl hrl hI => ?_
  refine zb_3 hk hl hc9 (Nat.le_refl 2138) hfl hrl hI fun H locs f4 r4 ef4 er4 hfl hrl hI => ?_
  refine zb_4 hk hl hc9 (Nat.le_refl 2138) hfl hrl hI fun H locs f5 r5 ef5 er5 hfl hrl hI => ?_
  refine zb_5 hk hl hc9 (Nat.le_refl 2138) hfl hrl hI fun H locs f6 r6 ef6 er6 hfl hrl hI => ?_
  refine zb_6 hk hl hc9 (Nat.le_refl 2138) hfl hrl hI fun H locs f7 r7 ef7 er7 hfl hrl hI => ?_
  refine zb_7 hk hl hc9 (Nat.le_refl 2138) hfl hrl hI fun H locs f8 r8 ef8 er8 hfl hrl hI => ?_
  refine zb_8 hk hl hc9 (Nat.le_refl 2138) hfl hrl hI fun H locs f9 r9 ef9 er9 hfl hrl hI => ?_
  refine zb_9 hk hl hc9 (Nat.le_refl 2138) hfl hrl hI fun H locs f10 r10 ef10 er10 hfl hrl hI => ?_
  refine zb_10 hk hl hc9 (Nat.le_refl 2138) hfl hrl hI fun H locs f11 r11 ef11 er11 hfl hrl hI => ?_
  refine zb_11 hk hl hc9 (Nat.le_refl 2138) hfl hrl hI fun H locs f12 r12 ef12 er12 hfl hrl hI => ?_
  refine zb_12 hk hl hc9 (Nat.le_refl 2138) hfl hrl hI fun H locs f13 r13 ef13 er13 hfl hrl hI => ?_
  refine zb_13 hk hl hc9 (Nat.le_refl 2138) hfl hrl hI fun H locs f14 r14 ef14 er14 hfl hrl hI => ?_
  refine zb_14 hk hl hc9 (Nat.le_refl 2138) hfl hrl hI fun H locs f15 r15 ef15 er15 hfl hrl hI => ?_
  refine zb_15 hk hl hc9 (Nat.le_refl 2138) hfl hrl hI fun H locs f16 r16 ef16 er16 hfl hrl hI => ?_
  refine zb_16 hk hl hc9 (Nat.le_refl 2138) hfl hrl hI fun H locs f17 r17 ef17 er17 hfl hrl hI => ?_
  refine zb_17 hk hl hc9 (Nat.le_refl 2138) hfl hrl hI fun H locs f18 r18 ef18 er18 hfl hrl hI => ?_
  refine zb_18 hk hl hc9 (Nat.le_refl 2138) hfl hrl hI fun H locs f19 r19 ef19 er19 hfl hrl hI => ?_
  refine zb_19 hk hl hc9 (Nat.le_refl 2138) hfl hrl hI fun H locs f20 r20 ef20 er20 hfl hrl hI => ?_
  refine zb_20 hk hl hc9 (Nat.le_refl 2138) hfl hrl hI fun H locs f21 r21 ef21 er21 hfl hrl hI => ?_
  refine zb_21 hk hl hc9 (Nat.le_refl 2138) hfl hrl hI fun H locs f22 r22 ef22 er22 hfl hrl hI => ?_
  refine zb_22 hk hl hc9 (Nat.le_refl 2138) hfl hrl hI fun H locs f23 r23 ef23 er23 hfl hrl hI => ?_
  refine zb_23 hk hl hc9 (Nat.le_refl 2138) hfl hrl hI fun H locs f24 r24 ef24 er24 hfl hrl hI => ?_
  refine zb_24 hk hl hc9 (Nat.le_refl 2138) hfl hrl hI fun H locs f25 r25 ef25 er25 hfl hrl hI => ?_
  refine zi_202 hk hl hfl hI fun H locs f26 ef26 hfl hI => ?_
  refine zb_25 hk hl hc9 (Nat.le_refl 2138) hfl hrl hI fun H locs f27 r26 ef27 er26 hfl hrl hI => ?_
  have h29 : f27[29]? = some (.ref (sz + 25)) := by rw [ef27, List.getElem?_set_self (by omega)]
  have h25 : r26[25]? = some (dar w 129) := by rw [er26, List.getElem?_append_right (by omega), show 25 - r25.length = 0 by omega]; rfl
  refine zb_26 hk hl hc9 (Nat.le_refl 2138) hfl hrl hI fun H locs f28 r27 ef28 er27 hfl hrl hI => ?_
  replace h29 : f28[29]? = some (.ref (sz + 25)) := by rw [ef28, List.getElem?_set_ne (by decide)]; exact h29
  replace h25 : r27[25]? = some (dar w 129) := by rw [er27, List.getElem?_append_left (by omega)]; exact h25
  refine zb_27 hk hl hc9 (Nat.le_refl 2138) hfl hrl hI fun H locs f29 r28 ef29 er28 hfl hrl hI => ?_
  replace h29 : f29[29]? = some (.ref (sz + 25)) := by rw [ef29, List.getElem?_set_ne (by decide)]; exact h29
  replace h25 : r28[25]? = some (dar w 129) := by rw [er28, List.getElem?_append_left (by omega)]; exact h25
  refine zb_28 hk hl hc9 (Nat.le_refl 2138) hfl hrl hI fun H locs f30 r29 ef30 er29 hfl hrl hI => ?_
  replace h29 : f30[29]? = some (.ref (sz + 25)) := by rw [ef30, List.getElem?_set_ne (by decide)]; exact h29
  replace h25 : r29[25]? = some (dar w 129) := by rw [er29, List.getElem?_append_left (by omega)]; exact h25
  refine zb_29 hk hl hc9 (Nat.le_refl 2138) hfl hrl hI fun H locs f31 r30 ef31 er30 hfl hrl hI => ?_
  replace h29 : f31[29]? = some (.ref (sz + 25)) := by rw [ef31, List.getElem?_set_ne (by decide)]; exact h29
  replace h25 : r30[25]? = some (dar w 129) := by rw [er30, List.getElem?_append_left (by omega)]; exact h25
  refine zb_30 hk hl hc9 (Nat.le_refl 2138) hfl hrl hI fun H locs f32 r31 ef32 er31 hfl hrl hI => ?_
  replace h29 : f32[29]? = some (.ref (sz + 25)) := by rw [ef32, List.getElem?_set_ne (by decide)]; exact h29
  replace h25 : r31[25]? = some (dar w 129) := by rw [er31, List.getElem?_append_left (by omega)]; exact h25
  refine zb_31 hk hl hc9 (Nat.le_refl 2138) hfl hrl hI fun H locs f33 r32 ef33 er32 hfl hrl hI => ?_
  replace h29 : f33[29]? = some (.ref (sz + 25)) := by rw [ef33, List.getElem?_set_ne (by decide)]; exact h29
  replace h25 : r32[25]? = some (dar w 129) := by rw [er32, List.getElem?_append_left (by omega)]; exact h25
  refine zb_32 hk hl hc9 (Nat.le_refl 2138) hfl hrl hI fun H locs f34 r33 ef34 er33 hfl hrl hI => ?_
  replace h29 : f34[29]? = some (.ref (sz + 25)) := by rw [ef34, List.getElem?_set_ne (by decide)]; exact h29
  replace h25 : r33[25]? = some (dar w 129) := by rw [er33, List.getElem?_append_left (by omega)]; exact h25
  refine zb_33 hk hl hc9 (Nat.le_refl 2138) hfl hrl hI fun H locs f35 r34 ef35 er34 hfl hrl hI => ?_
  replace h29 : f35[29]? = some (.ref (sz + 25)) := by rw [ef35, List.getElem?_set_ne (by decide)]; exact h29
  replace h25 : r34[25]? = some (dar w 129) := by rw [er34, List.getElem?_append_left (by omega)]; exact h25
  refine zb_34 hk hl hc9 (Nat.le_refl 2138) hfl hrl hI fun H locs f36 r35 ef36 er35 hfl hrl hI => ?_
  replace h29 : f36[29]? = some (.ref (sz + 25)) := by rw [ef36, List.getElem?_set_ne (by decide)]; exact h29
  replace h25 : r35[25]? = some (dar w 129) := by rw [er35, List.getElem?_append_left (by omega)]; exact h25
  refine zb_35 hk hl hc9 (Nat.le_refl 2138) hfl hrl hI fun H locs f37 r36 ef37 er36 hfl hrl hI => ?_
  replace h29 : f37[29]? = some (.ref (sz + 25)) := by rw [ef37, List.getElem?_set_ne (by decide)]; exact h29
  replace h25 : r36[25]? = some (dar w 129) := by rw [er36, List.getElem?_append_left (by omega)]; exact h25
  refine zb_36 hk hl hc9 (Nat.le_refl 2138) hfl hrl hI fun H locs f38 r37 ef38 er37 hfl hrl hI => ?_
  replace h29 : f38[29]? = some (.ref (sz + 25)) := by rw [ef38, List.getElem?_set_ne (by decide)]; exact h29
  replace h25 : r37[25]? = some (dar w 129) := by rw [er37, List.getElem?_append_left (by omega)]; exact h25
  refine zb_37 hk hl hc9 (Nat.le_refl 2138) hfl hrl hI fun H locs f39 r38 ef39 er38 hfl hrl hI => ?_
  replace h29 : f39[29]? = some (.ref (sz + 25)) := by rw [ef39, List.getElem?_set_ne (by decide)]; exact h29
  replace h25 : r38[25]? = some (dar w 129) := by rw [er38, List.getElem?_append_left (by omega)]; exact h25
  refine zb_38 hk hl hc9 (Nat.le_refl 2138) hfl hrl hI fun H locs f40 r39 ef40 er39 hfl hrl hI => ?_
  replace h29 : f40[29]? = some (.ref (sz + 25)) := by rw [ef40, List.getElem?_set_ne (by decide)]; exact h29
  replace h25 : r39[25]? = some (dar w 129) := by rw [er39, List.getElem?_append_left (by omega)]; exact h25
  refine zb_39 hk hl hc9 (Nat.le_refl 2138) hfl hrl hI fun H locs f41 r40 ef41 er40 hfl hrl hI => ?_
  replace h29 : f41[29]? = some (.ref (sz + 25)) := by rw [ef41, List.getElem?_set_ne (by decide)]; exact h29
  replace h25 : r40[25]? = some (dar w 129) := by rw [er40, List.getElem?_append_left (by omega)]; exact h25
  refine zb_40 hk hl hc9 (Nat.le_refl 2138) hfl hrl hI fun H locs f42 r41 ef42 er41 hfl hrl hI => ?_
  replace h29 : f42[29]? = some (.ref (sz + 25)) := by rw [ef42, List.getElem?_set_ne (by decide)]; exact h29
  replace h25 : r41[25]? = some (dar w 129) := by rw [er41, List.getElem?_append_left (by omega)]; exact h25
  refine zb_41 hk hl hc9 (Nat.le_refl 2138) hfl hrl hI fun H locs f43 r42 ef43 er42 hfl hrl hI => ?_
  replace h29 : f43[29]? = some (.ref (sz + 25)) := by rw [ef43, List.getElem?_set_ne (by decide)]; exact h29
  replace h25 : r42[25]? = some (dar w 129) := by rw [er42, List.getElem?_append_left (by omega)]; exact h25
  refine zb_42 hk hl hc9 (Nat.le_refl 2138) hfl hrl hI fun H locs f44 r43 ef44 er43 hfl hrl hI => ?_
  replace h29 : f44[29]? = some (.ref (sz + 25)) := by rw [ef44, List.getElem?_set_ne (by decide)]; exact h29
  replace h25 : r43[25]? = some (dar w 129) := by rw [er43, List.getElem?_append_left (by omega)]; exact h25
  refine zb_43 hk hl hc9 (Nat.le_refl 2138) hfl hrl hI fun H locs f45 r44 ef45 er44 hfl hrl hI => ?_
  replace h29 : f45[29]? = some (.ref (sz + 25)) := by rw [ef45, List.getElem?_set_ne (by decide)]; exact h29
  replace h25 : r44[25]? = some (dar w 129) := by rw [er44, List.getElem?_append_left (by omega)]; exact h25
  refine zb_44 hk hl hc9 (Nat.le_refl 2138) hfl hrl hI fun H locs f46 r45 ef46 er45 hfl hrl hI => ?_
  replace h29 : f46[29]? = some (.ref (sz + 25)) := by rw [ef46, List.getElem?_set_ne (by decide)]; exact h29
  replace h25 : r45[25]? = some (dar w 129) := by rw [er45, List.getElem?_append_left (by omega)]; exact h25
  refine zb_45 hk hl hc9 (Nat.le_refl 2138) hfl hrl hI fun H locs f47 r46 ef47 er46 hfl hrl hI => ?_
  replace h29 : f47[29]? = some (.ref (sz + 25)) := by rw [ef47, List.getElem?_set_ne (by decide)]; exact h29
  replace h25 : r46[25]? = some (dar w 129) := by rw [er46, List.getElem?_append_left (by omega)]; exact h25
  refine zs_0 hk hl h29 h25 hI fun H locs hI => ?_
  refine zs_1 hk hl h29 (by rw [List.getElem?_set_self (by omega)]) hI fun H locs hI => ?_
  have eF : (trX12_init w sz []).1 = f47 := by
    unfold trX12_init
    rw [ef47, ef46, ef45, ef44, ef43, ef42, ef41, ef40, ef39, ef38, ef37, ef36, ef35, ef34, ef33, ef32, ef31, ef30, ef29, ef28, ef27, ef26, ef25, ef24, ef23, ef22, ef21, ef20, ef19, ef18, ef17, ef16, ef15, ef14, ef13, ef12, ef11, ef10, ef9, ef8, ef7, ef6, ef5, ef4, ef3, ef2, ef1, ← ef0]
  have eR : (trX12_init w sz []).2 = (r46.set 25 (.inl (w.2.1 0, 2, .inl (va_up (fun _ => 0) 0 (i32 (-1)))))).set 25 (.inl (w.2.1 0, 2, .inl (va_up (va_up (fun _ => 0) 0 (i32 (-1))) 1 (i32 (-1))))) := by
    rw [er46, er45, er44, er43, er42, er41, er40, er39, er38, er37, er36, er35, er34, er33, er32, er31, er30, er29, er28, er27, er26, er25, er24, er23, er22, er21, er20, er19, er18, er17, er16, er15, er14, er13, er12, er11, er10, er9, er8, er7, er6, er5, er4, er3, er2, er1, ← er0]
    simp only [List.append_assoc, List.cons_append, List.nil_append]
    rfl
  exact ct_end (T := trX12_init w sz []) hk hr hlk (by rw [eF, eR]; exact hI) dX12_init_387 hc9 (Nat.le_refl 2138)
