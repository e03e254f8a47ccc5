/-- .. from the entry -/
theorem whole_start {p : Program} {e : Env} {s : State} {m : MethodId} {below : List Frame} {meth : Method} {c : Code} (l : Launch) (hflags : l.flags = flags0) {b L : Nat} {xs : Nat → Int32} (hL : L ≤ 3584) (htl : c.exceptionTable.toList = []) (C0 : lw_At p s m meth c b L xs) : W p l e room_1 s m #[Value.ref b] below meth c s.heap [] 0 0 (lw_Z below #[Value.ref b] s) (entryFrame m ([Value.ref b] : List Value).toArray 7) := by
  have C1 := C0
  obtain ⟨hx, hb, hr, hml, hown, hts, hX, hbl, hlk, hgv⟩ := C1
  have hq := flat_of_before _ hgv
  obtain ⟨D, cA, hKW⟩ := kw_of hts hq
  obtain ⟨w, hw⟩ : ∃ w : Wd, w = (D, cA, s.heap.size, b) := ⟨_, rfl⟩
  have hkw : KW w s := by rw [hw]; exact hKW _
  have hw1 : w.2.2.1 = s.heap.size := by rw [hw]
  have hw2 : w.2.2.2 = b := by rw [hw]
  have hZ : ZQ w s s.heap := zq_of hts hq w hw1
  have htT : ∀ w' ∈ TW, w'.before #[Value.ref b] s = true := fun w' h => hkw.2.1.at h _
  obtain ⟨a, ha⟩ : ∃ a, a = s.heap.size := ⟨_, rfl⟩
  have hl := lv_entry [Value.ref b] (n := 7) (Nat.le_of_ble_eq_true rfl)
  rw [lg_entry_eq]
  generalize hls : (lg_sl [Value.ref b] ++ List.replicate (7 - (lg_sl [Value.ref b]).length) Slot.unset).toArray = ls
  have hl : lv_has ls 7 [(0, .ref b)] := by rw [← hls]; exact hl
  have hK11 := hkw.1.1 11 _ (cl_at (q := 11) (by decide))
  have hK12 := hkw.1.1 12 _ (cl_at (q := 12) (by decide))
  have hao : ∀ C ∈ [RX6, RX0, RX8, RX2], va_AO C s := fun C hC => by
    simp only [List.mem_cons, List.not_mem_nil, or_false] at hC
    rcases hC with rfl | rfl | rfl | rfl
    · exact ao_RX6 hts
    · exact ao_RX0 hts
    · exact ao_RX8 hts
    · exact ao_RX2 hts
  refine W.newcK hx hb hown (htT _ (show Cond.classLink R_law 8 (cNm 11) ∈ TW from (wat_mem (i := 91) (by decide +kernel)))) (htT _ (cl_ins (q := 11) (by decide))) (htT _ (show Cond.initialized (cNm 11) ∈ TW from (wat_mem (i := 70) (by decide +kernel)))) rfl dLw_0 (Nat.le_of_ble_eq_true rfl) (Nat.le_of_ble_eq_true rfl) hK11.2.1 ha.symm fun H1 kC hkC e1 z1 o1 => ?_
  have gb : va_at w.1 vwCl (a, .inr (11, dfs 11)) H1 := ⟨_, cl_at (q := 11) (by decide), (u_born (cTy 11) htT (cl_words (q := 11) (by decide)) hK11 hkC e1 (cl_ty (q := 11) (by decide))).to (fun j hj => by
    have hj : j < nfl 11 := hj
    simp [vp_V, dfs, List.getD, hj])⟩
  refine W.eq (g2 := F0 m 3 ls [.ref a]) rfl ?_
  refine lv_dup hx hb dLw_3 rfl ?_
  refine W.eq (g2 := F0 m 4 ls ([] ++ .ref a :: [.ref a])) rfl ?_
  refine ctor_run (own := R_law) (b := a) (vs := []) (xs := []) (sk := [.ref a]) hx hb hml hown hkw ctX11_init gb z1 dLw_4 hl.1 rfl rfl hao (Or.inl (wat_mem (i := 93) (by decide +kernel))) (wat_mem (i := 95) (by decide +kernel)) (wat_mem (i := 70) (by decide +kernel)) (wat_mem (i := 94) (by decide +kernel)) rfl (by decide) (by decide +kernel) (Nat.le_of_ble_eq_true rfl) (Nat.le_of_ble_eq_true rfl) (Nat.le_of_ble_eq_true rfl) (Nat.le_of_ble_eq_true rfl) (Nat.le_of_ble_eq_true rfl) fun H2 L1 hL1 f1 f2 f3 f4 => ?_
  refine W_cs (cells2 := 30) (slots2 := 338) rfl rfl ?_
  refine W.eq (g2 := F0 m 7 ls [.ref a]) rfl ?_
  refine lv_astore_n hx hb dLw_7 rfl hl (by decide) rfl fun ls hl => ?_
  have hl : lv_has ls 7 [(1, .ref a), (0, .ref b)] := hl
  refine W.eq (g2 := F0 m 8 ls []) rfl ?_
  have s2 : H2.size = a + 30 := f3.trans (show a + 1 + (trX11_init w (a + 1) []).2.length = a + 30 from rfl)
  refine W.newcK hx hb hown (htT _ (show Cond.classLink R_law 123 (cNm 12) ∈ TW from (wat_mem (i := 1323) (by decide +kernel)))) (htT _ (cl_ins (q := 12) (by decide))) (htT _ (show Cond.initialized (cNm 12) ∈ TW from (wat_mem (i := 76) (by decide +kernel)))) rfl dLw_8 (Nat.le_of_ble_eq_true rfl) (Nat.le_of_ble_eq_true rfl) hK12.2.1 s2 fun H3 kC3 hkC3 e3 z3 o3 => ?_
  have gb3 : va_at w.1 vwCl (a + 30, .inr (12, dfs 12)) H3 := ⟨_, cl_at (q := 12) (by decide), (u_born (cTy 12) htT (cl_words (q := 12) (by decide)) hK12 hkC3 e3 (cl_ty (q := 12) (by decide))).to (fun j hj => by
    have hj : j < nfl 12 := hj
    simp [vp_V, dfs, List.getD, hj])⟩
  refine W.eq (g2 := F0 m 11 ls [.ref (a + 30)]) rfl ?_
  refine lv_dup hx hb dLw_11 rfl ?_
  refine W.eq (g2 := F0 m 12 ls ([] ++ .ref (a + 30) :: [.ref (a + 30)])) rfl ?_
  refine ctor_run (own := R_law) (b := a + 30) (vs := []) (xs := []) (sk := [.ref (a + 30)]) hx hb hml hown hkw ctX12_ini9 gb3 z3 dLw_12 hl.1 rfl rfl (fun C hC => nomatch hC) (Or.inl (wat_mem (i := 1325) (by decide +kernel))) (wat_mem (i := 1327) (by decide +kernel)) (wat_mem (i := 76) (by decide +kernel)) (wat_mem (i := 1326) (by decide +kernel)) rfl (by decide) (by decide +kernel) (Nat.le_of_ble_eq_true rfl) (Nat.le_of_ble_eq_true rfl) (Nat.le_of_ble_eq_true rfl) (Nat.le_of_ble_eq_true rfl) (Nat.le_of_ble_eq_true rfl) fun H4 L2 hL2 f5 f6 f7 f8 => ?_
  refine W_cs (cells2 := 77) (slots2 := 2528) rfl rfl ?_
  refine W.eq (g2 := F0 m 15 ls [.ref (a + 30)]) rfl ?_
  refine lv_astore_n hx hb dLw_15 rfl hl (by decide) rfl fun ls hl => ?_
  have hl : lv_has ls 7 [(2, .ref (a + 30)), (1, .ref a), (0, .ref b)] := hl
  refine W.eq (g2 := F0 m 16 ls []) rfl ?_
  have s4 : H4.size = a + 77 := f7.trans (show a + 30 + 1 + (trX12_init w (a + 30 + 1) []).2.length = a + 77 from rfl)
  refine lv_iconst hx hb (v := i32 1) dLw_16 rfl ?_
  refine W.eq (g2 := F0 m 17 ls [.int (i32 1)]) rfl ?_
  refine va_newaK (N := 1) hx hb (htT _ (show Cond.arrayClass (newarray.typeOf .long) ∈ TW from (wat_mem (i := 1797) (by decide +kernel)))) rfl dLw_17 rfl (by decide) (by decide) (Nat.le_of_ble_eq_true rfl) (Nat.le_of_ble_eq_true rfl) (Nat.le_of_ble_eq_true rfl) s4 fun H5 cA5 e5 z5 o5 hAr5 hNm5 => ?_
  have hcA : cA5 = w.2.1 2 := by
    have h9 : s.vm.findClass ("[" ++ FieldType.long.toString) = some (w.2.1 2) := (hkw.1.2 2 (w.2.1 2, .long) rfl).2
    exact Option.some.inj (hNm5.symm.trans h9)
  have g4 : va_at w.1 vwCl (a + 77, dar w 60) H5 := by
    show H5[a + 77]? = some (vp_cell (w.2.1 2) (1, .inr (.inl (fun _ => 0))))
    rw [← hcA]
    exact e5
  refine W_cs (cells2 := 78) (slots2 := 2529) rfl rfl ?_
  refine W.eq (g2 := F0 m 19 ls [.ref (a + 77)]) rfl ?_
  refine lv_astore_n hx hb dLw_19 rfl hl (by decide) rfl fun ls hl => ?_
  have hl : lv_has ls 7 [(3, .ref (a + 77)), (2, .ref (a + 30)), (1, .ref a), (0, .ref b)] := hl
  refine W.eq (g2 := F0 m 20 ls []) rfl ?_
  have n11 : (trX11_init w (a + 1) []).2.length = 29 := rfl
  have n12 : (trX12_init w (a + 30 + 1) []).2.length = 46 := rfl
  have k2 : ∀ q : Nat, q < a + 30 → H5[q]? = H2[q]? := fun q hq => (o5 q (by omega)).trans ((f8 q hq).trans (o3 q hq))
  have k0 : ∀ q : Nat, q < a → H5[q]? = s.heap[q]? := fun q hq => (k2 q (by omega)).trans ((f4 q hq).trans (o1 q hq))
  have hS := s_all (w := w) (a := a) (L := L) (xs := xs) (H := H5) (f1.kept (k2 _ (show a < a + 30 by omega))) (fun i e he => by
      have hi := (List.getElem?_eq_some_iff.mp he).1
      rw [n11] at hi
      exact (f2 i e he).kept (k2 _ (show a + 1 + i < a + 30 by omega))) (f5.kept (o5 _ (show a + 30 < a + 77 by omega))) (fun i e he => by
      have hi : i < (trX12_init w (a + 30 + 1) []).2.length := (List.getElem?_eq_some_iff.mp he).1
      rw [n12] at hi
      exact (f6 i e he).kept (o5 _ (show a + 30 + 1 + i < a + 77 by omega))) g4
  have hr5 : HR w (sAl a) (sT L xs) s H5 := st_HR hL ha hbl hw1 hw2 hX (k0 b (by omega)) hS
  refine run_20 hflags hL htl C0 hkw hZ hw1 hw2 hr5 ⟨by omega, fun q h1 _ => k0 q (by omega), fun z hz => ?_⟩ hl
  show w.2.2.1 ≤ z.base
  rcases List.mem_append.mp hz with hz | hz
  · rcases List.mem_append.mp hz with hz | hz
    · cases hz
    · rcases hL1 z hz with h9 | h9
      · rw [h9]; omega
      · have h9 : a + 1 ≤ z.base := h9
        omega
  · rcases hL2 z hz with h9 | h9
    · rw [h9]; omega
    · have h9 : a + 30 + 1 ≤ z.base := h9
      omega
set_option maxHeartbeats 4000000 in
theorem lw_walk (l : Launch) (hflags : l.flags = flags0) (b : Addr) (xs : List Int32) : MetFree l x (headSpec (Jvm.Cond.code x code maxLocals ret :: tables_1) room_1) (lw_P b xs) (fun _ _ _ _ _ => True) lw_Q := by
  refine MetFree.of_bodyS (code := code) (maxLocals := maxLocals) (ret := ret) (by decide) ?_ ?_
  · intro args s m h hn
    obtain ⟨meth, c, h1, h2, h3, h4, h5, h6, -, -⟩ := Cond.code_spec hn (atoms_spec (ws := Jvm.Cond.code x code maxLocals ret :: tables_1) h _ List.mem_cons_self)
    exact ⟨meth, c, h1, h2, h3, h4, h5, h6⟩
  · intro p e s m args below meth c s₁ B hml0 hP _
    obtain ⟨rfl, hx, hbd, hgv⟩ := hP
    obtain ⟨scr, harrAt, hlist, hof, hsmall⟩ := hx
    obtain ⟨hcb, hkn, -, -⟩ := State.arrayAt?_spec harrAt
    have hown : s.vm.findClass R_law = some m.cls := findClass_of_methodNamed B.named
    have hts0 : ∀ c ∈ (Jvm.Cond.code x code maxLocals ret :: tables_1), c.before #[Value.ref b] s = true := atoms_spec (ws := Jvm.Cond.code x code maxLocals ret :: tables_1) B.pre
    have hts : ∀ w ∈ lw_tbl, w.before #[Value.ref b] s = true := k2_hts_sels lw_privs (fun w hw => hts0 w (List.mem_cons_of_mem _ hw)) lw_privs_ok
    have hml : c.maxLocals = 7 := B.maxLocals_eq (hts0 _ List.mem_cons_self)
    have X₀ : Stand p l e room_1 s m #[Value.ref b] below meth c s₁ [] 0 0 := Stand.of_body B
    have hh0 : s₁.heap = s.heap := by rw [B.state]; rfl
    have hsz : scr.slots.size = xs.length := by rw [← Array.length_toList, hlist, List.length_map]
    have hval : ∀ j : Nat, j < xs.length → scr.slots[j]? = some (.int (xs.getD j 0)) := fun j hj => by
      rw [← Array.getElem?_toList, hlist]
      simp [hj]
    have hbl : b < s.heap.size := (Array.getElem?_eq_some_iff.mp hcb).1
    have hX : va_X b xs.length (fun j => xs.getD j 0) s s.heap := ⟨scr, hcb, hof, hkn, hsz, hval⟩
    have K : W p l e room_1 s m #[Value.ref b] below meth c s₁.heap [] 0 0 (lw_Z below #[Value.ref b] s) (entryFrame m ([Value.ref b] : List Value).toArray 7) := by
      rw [hh0]
      have ht : c.exceptionTable.toList = [] := by
        obtain ⟨meth9, c9, h1, h2, -, -, -, -, h7, -⟩ := Cond.code_spec B.named (hts0 _ List.mem_cons_self)
        cases Option.some.inj (h1.symm.trans B.method)
        cases Option.some.inj (h2.symm.trans X₀.code)
        rw [Array.isEmpty_iff.mp h7]
      exact whole_start l hflags hbd ht ⟨B.exec, B.bytes, B.returns, hml, hown, hts, hX, hbl, B.notSynchronized, hgv⟩
    obtain ⟨t, a1, o, b1, b2, b3⟩ := K s₁ rfl X₀
    exact ⟨t, o, a1, b1, b2, b3⟩
theorem lw_pre_spec {args : Array Value} {s : State} (h : (Jvm.Cond.and given_1 narrow_1).before args s = true) (hr : rest_1_c.before args s = true) : ∃ (b : Addr) (xs : List Int32), lw_P b xs args s := by
  have hs := flat_of_before _ h
  have hq := flat_of_before _ hr
  have hc : (Cond.count 1).before args s = true := hs _ (by decide +kernel)
  have harr : (Cond.arrayOf (.arg 0) .int).before args s = true := hs _ (by decide +kernel)
  have hle : (Cond.le (.length (.arg 0)) (.int 3584)).before args s = true := hs _ (by decide +kernel)
  have hlen : (Cond.isInt (.length (.arg 0))).before args s = true := hq _ (by decide +kernel)
  have hall : (Cond.all (.arg 0) (.isInt (.elem (.arg 0) (.index 0)))).before args s = true := hq _ (by decide +kernel)
  obtain ⟨b, xs, hb, hx⟩ := State.ints_of_pre rfl harr hlen hall
  have hsm : xs.length < 2 ^ 31 := hx.choose_spec.2.2.2
  have hev : (Term.length (.arg 0)).eval args s none [] s = some (.int xs.length.toInt32) := hx.length_eval hb
  have hv := Cond.le_ints hev (show (Term.int 3584).eval args s none [] s = some (.int 3584) from rfl)
  have hd : xs.length.toInt32 ≤ 3584 := by
    simpa [Cond.before, Cond.holds, hv] using hle
  have hN : xs.length ≤ 3584 := (Int32.ofNat_le_ofNat hsm (by decide)).mp (show Int32.ofNat xs.length ≤ Int32.ofNat 3584 from hd)
  exact ⟨b, xs, Cond.one_arg hc (show args[0]? = some (.ref b) from hb), hx, hN, h⟩
theorem lw_comes (l : Launch) (hflags : l.flags = flags0) : Comes l x (Jvm.Cond.code x code maxLocals ret :: tables_1) room_1 (fun tb e args s => Calls_1 tb e args s ∧ rest_1 tb e args s ∧ Pre_1 tb e args s)
    (fun _ _ args s o t => lw_Q args s o t) := by
  intro p e ha hc hk s m args below hf hfit hheap happ hpre
  obtain ⟨b, xs, hP⟩ := lw_pre_spec hpre.2.2 hpre.2.1
  obtain ⟨k, o, h1, h2, h3, hQ⟩ := lw_walk l hflags b xs p e ha hc hk s m args below hf ((Spec.applies_iff_loose hf).mp happ).1 hP trivial
  exact ⟨k, o, h1, h2, h3, hQ⟩
theorem lw_frame {s t : State} {o : Outcome} {args : Array Value} (h : Framed s o t [] 601024 7293034) :
    Framed s o t (fieldLocs frame_1_writes args s ++ arrayLocs frame_1_arrays args s ++ staticLocs frame_1_statics s) 601024 7293034 := h
theorem lw_limb (L : Cond) (hL : ∀ (args : Array Value) (s t : State), L.after args s (.returned (some (.int 1))) t = true) :
    ArmFor flags0 classFile x code maxLocals ret World_1 tables_1 room_1 Calls_1 rest_1 Pre_1
      (fun tb e a s o t => postC L tb e a s o t ∧ Framed s o t (fieldLocs frame_1_writes a s ++ arrayLocs frame_1_arrays a s ++ staticLocs frame_1_statics s) 601024 7293034) := by
  intro l hflags _ _ p e ha hc hk s m args below hf hfit hheap happ hpre
  obtain ⟨k, o, h1, h2, h3, rfl, hF⟩ := lw_comes l hflags p e ha hc hk s m args below hf hfit hheap happ hpre
  exact ⟨k, _, h1, h2, h3, hL args s _, lw_frame hF⟩
theorem i_vc : Claimed_1_1 ∧ Claimed_1_2 := ⟨lw_limb limb_1_1 (fun args s t => by simp [limb_1_1, Cond.after, Cond.holds, Cond.value]), lw_limb limb_1_2 (fun args s t => Cond.after_iff.mpr (by
  first | (rw [show limb_1_2 = Cond.eq .result (.int 1) from rfl, Cond.eq_ints (x := 1) (y := 1) rfl rfl]; simp; done) | (simp [limb_1_2, Cond.value, Term.eval]; done)))⟩
