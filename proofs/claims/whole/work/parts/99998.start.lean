/-! From the law's entry to its loop, and through it. -/
theorem dLw_0 : decode code 0 = .ok (.new 8, 3) := by decide +kernel
theorem dLw_3 : decode code 3 = .ok (.dup, 1) := by decide +kernel
theorem dLw_4 : decode code 4 = .ok (.invokespecial 122, 3) := by decide +kernel
theorem dLw_7 : decode code 7 = .ok (.astore_n 1, 1) := by decide +kernel
theorem dLw_8 : decode code 8 = .ok (.new 123, 3) := by decide +kernel
theorem dLw_11 : decode code 11 = .ok (.dup, 1) := by decide +kernel
theorem dLw_12 : decode code 12 = .ok (.invokespecial 125, 3) := by decide +kernel
theorem dLw_15 : decode code 15 = .ok (.astore_n 2, 1) := by decide +kernel
theorem dLw_16 : decode code 16 = .ok (.iconst 1, 1) := by decide +kernel
theorem dLw_17 : decode code 17 = .ok (.newarray .long, 2) := by decide +kernel
theorem dLw_19 : decode code 19 = .ok (.astore_n 3, 1) := by decide +kernel
theorem ce_bound {t : Int} {s' : St} (h : rl t s' s') (ht : t ≤ 520) : ceN s'.2 ≤ 40000 ∧ slN s'.2 ≤ 300000 := by
  obtain ⟨hA, -, -, -, -, -, hD, -, -, -, -, -, -, -, hN⟩ := h
  obtain ⟨⟨-, a1, a2, a3⟩, -⟩ := hA
  obtain ⟨⟨-, d1, d2, d3⟩, -⟩ := hD
  obtain ⟨⟨n1, n2⟩, ⟨n3, n4⟩, ⟨n5, n6⟩, -⟩ := hN
  unfold ceN slN
  rw [a3, d3]
  omega
theorem st_rl (L : Nat) (xs : Nat → Int32) : rl 0 (sT L xs) (sT L xs) := ⟨st_A L xs, st_M L xs, st_F L xs, st_T L xs, st_S L xs, st_W L xs, st_D L xs, st_J L xs, st_R L xs, st_O L xs, st_C L xs, st_L L xs, st_H L xs, st_K L xs, st_N L xs⟩
theorem st_HR {w : Wd} {s : State} {H5 : Heap} {a b L : Nat} {xs : Nat → Int32} (hL : L ≤ 3584) (ha : a = s.heap.size) (hbl : b < s.heap.size) (hw1 : w.2.2.1 = s.heap.size) (hw2 : w.2.2.2 = b) (hX : va_X b L xs s s.heap) (hb5 : H5[b]? = s.heap[b]?)
    (hS : ∀ (i : Nat) (p : Nat × Nat), sLP[i]? = some p → va_at w.1 vwCl (a + i, ent w (sAl a) (sT L xs) p.1 ((p.2 : Nat) : Int)) H5) : HR w (sAl a) (sT L xs) s H5 := by
  refine ⟨fun k n hl => ?_, fun k n k' n' hl hl' e => sAl_inj hl hl' e, fun k n hl => ?_, sT_SW hL xs, ⟨L, rfl, ?_⟩, ?_⟩
  · have h9 := hS (sof k n.toNat) (k, n.toNat) (sof_get hl)
    have e : ((n.toNat : Nat) : Int) = n := Int.toNat_of_nonneg hl.1
    rw [e] at h9
    exact h9
  · show w.2.2.1 ≤ a + sof k n.toNat
    omega
  · rw [hw2]
    have e : (fun j : Nat => i32 (gm (sT L xs) 61 0 j)) = xs := by
      funext j
      have e : gm (sT L xs) 61 0 (j : Int) = (xs j).toInt := rfl
      rw [e, i32_of]
    rw [e]
    exact hX.kept hb5
  · show ¬ w.2.2.1 ≤ w.2.2.2
    omega
def R_law : String := "FloatparadeLaw"
def lw_P (b : Addr) (xs : List Int32) (args : Array Value) (s : State) : Prop := args = #[.ref b] ∧ s.IntsAt b xs ∧ xs.length ≤ 3584 ∧ (Jvm.Cond.and given_1 narrow_1).before args s = true
def lw_Q (_ : Array Value) (s : State) (o : Outcome) (t : State) : Prop := o = .returned (some (.int 1)) ∧ Framed s o t [] 601024 7293034
def lw_Z (below : List Frame) (a : Array Value) (s : State) : State → Prop := fun t => ∃ o, t.status = .running ∧ Ended t below o ∧ lw_Q a s o t
/-- the law's own end, with 1 on the stack, nothing written that was there before, its room as the claim has it -/
theorem lw_ret {p : Program} {l : Launch} {e : Env} {s : State} {m : MethodId} {below : List Frame} {meth : Method} {c : Code} {b : Nat} (hx : p.tables.exec = Jvm.exec) (hb : c.code = code) (hr : meth.sig.returnType = ret) (hlocks : meth.locks = false) {pc : Nat} {H : Heap} {ls : Array Slot} (hdg : decode code pc = .ok (.ireturn, 1)) : W p l e room_1 s m #[Value.ref b] below meth c H [] 601024 7293034 (lw_Z below #[Value.ref b] s) (F0 m pc ls [.int 1]) := by
  intro T hT X
  obtain ⟨fs, hret, hrun, hended, hW, hframe⟩ := X.leave (v := some (.int 1)) (hlocks := hlocks) (fun h => by rw [hr] at h; cases h)
  have hmeth' : T.vm.method? m = some meth := X.method'
  refine ⟨T.setFrames fs, ?_, .returned (some (.int 1)), hrun, hended, rfl, ⟨_, rfl⟩, hW, hframe⟩
  jvm_step X.here [X.here.top, hx, hb, hdg, hmeth', hr, ret, narrow_b1]
  (try refine ⟨rfl, ?_⟩); (try refine ⟨rfl, ?_⟩)
  first | (intro acts; rw [hret _ acts rfl rfl rfl]) | rw [hret _ _ rfl rfl rfl]
  exact Steps.refl _
/-- what holds at the law's entry: the machine, the code, the tables' words (any of lw_tbl by 'hts w (by decide +kernel)'), the script of L ints xs at the cell b, what the Statement gives of the start (any of its parts by flat_of_before) -/
def lw_At (p : Program) (s : State) (m : MethodId) (meth : Method) (c : Code) (b L : Nat) (xs : Nat → Int32) : Prop :=
  p.tables.exec = Jvm.exec ∧ c.code = code ∧ meth.sig.returnType = ret ∧ c.maxLocals = 7 ∧ s.vm.findClass R_law = some m.cls ∧ (∀ w ∈ lw_tbl, w.before #[Value.ref b] s = true) ∧ va_X b L xs s s.heap ∧ b < s.heap.size ∧ meth.locks = false ∧ (Jvm.Cond.and given_1 narrow_1).before #[Value.ref b] s = true
theorem run_20 {p : Program} {l : Launch} {e : Env} {s : State} {m : MethodId} {below : List Frame} {meth : Method} {c : Code} (hflags : l.flags = flags0) {b L : Nat} {xs : Nat → Int32} (hL : L ≤ 3584) (htl : c.exceptionTable.toList = []) (C0 : lw_At p s m meth c b L xs)
    {w : Wd} (hkw : KW w s) (hZ : ZQ w s s.heap) (hw1 : w.2.2.1 = s.heap.size) (hw2 : w.2.2.2 = b) {a : Nat} {H5 : Heap} {locs : List Loc} (hr5 : HR w (sAl a) (sT L xs) s H5) (hS5 : va_S (wS w) s.heap H5 locs) {ls : Array Slot} (hl : lv_has ls 7 [(3, .ref (a + 77)), (2, .ref (a + 30)), (1, .ref a), (0, .ref b)]) :
    W p l e room_1 s m #[Value.ref b] below meth c H5 locs 78 2529 (lw_Z below #[Value.ref b] s) (F0 m 20 ls []) := by
  obtain ⟨hx, hb, hr, hml, hown, hts, hX, hbl, hlk, hgv⟩ := C0
  obtain ⟨t, s', e1, hr1, ht⟩ := law_one (a0 := 0) (L := (L : Int)) (by omega) (by omega) (s := sT L xs) (st_rl L xs) rfl
  obtain ⟨bc, bs⟩ := ce_bound hr1 ht
  have hC1 : 78 + (ceN s'.2 - ceN (sT L xs).2) ≤ 601024 := by omega
  have hC2 : 2529 + (slN s'.2 - slN (sT L xs).2) ≤ 7293034 := by omega
  have hCX : CX (Cxv p l e room_1 s m #[Value.ref b] below meth c (lw_Z below #[Value.ref b] s)) w mdL_law (sAl a, (sT L xs).2, 78, 2529) (0, 1, s') :=
    ⟨hx, hb, hml, hown, hkw, hZ, ⟨Nat.le_of_ble_eq_true rfl, Nat.le_of_ble_eq_true rfl, hC1, hC2⟩, hlk, hflags, fun q hq => (by show w.2.2.1 ≤ q; rw [hw1]; exact hq), htl⟩
  have hEE : EE (Cxv p l e room_1 s m #[Value.ref b] below meth c (lw_Z below #[Value.ref b] s)) w mdL_law (sAl a, (sT L xs).2, 78, 2529) (0, 1, s') := by
    refine ⟨fun pc α1 H locs1 cells slots ls1 hp hd _ _ _ _ => ?_, fun _ _ _ _ _ _ _ _ _ h => absurd h (by decide), fun _ _ _ _ _ _ _ _ _ h => absurd h (by decide), fun _ _ _ _ _ _ _ _ _ _ _ _ h => absurd rfl h, fun _ => rfl⟩
    obtain ⟨g1, g2, g3, g4, g5⟩ := hp
    refine va_forget (fun q hq => ?_) (W.widen (Nat.le_trans g4 hC1) (Nat.le_trans g5 hC2) ?_)
    · have h9 : w.2.2.1 ≤ q.base := g3.2.2 q hq
      rw [hw1] at h9
      exact h9
    · have e9 : i32 1 = 1 := by decide +kernel
      show W p l e room_1 s m #[Value.ref b] below meth c H [] 601024 7293034 (lw_Z below #[Value.ref b] s) (F0 m pc ls1 [.int (i32 1)])
      rw [e9]
      exact lw_ret hx hb hr hlk hd
  have hTT : TT (Cxv p l e room_1 s m #[Value.ref b] below meth c (lw_Z below #[Value.ref b] s)) w mdL_law (sAl a, (sT L xs).2, 78, 2529) (0, 1, s') := by
    intro pc i n e9 α1 H locs1 cells slots ls1 t1 hp hd hb2 hr9 hsz
    simp only [thb, Bool.and_eq_true] at hb2
    have h9 : 0 = e9 := congrArg Prod.fst hr9
    subst h9
    exact absurd hb2.1.1.2 (by decide)
  have hMC : MC (Cxv p l e room_1 s m #[Value.ref b] below meth c (lw_Z below #[Value.ref b] s)) w mdL_law (sAl a, (sT L xs).2, 78, 2529) (0, 1, s') := ⟨hCX, hflags, hEE, hTT⟩
  have hP : ∀ kb, RsB mdL_law (0, 1, s') kb (rL_law kb) := fun kb => pL_law aok (0, 1, s') kb
  obtain ⟨-, k2⟩ := fuel_B (md := mdL_law) (r := (0, 1, s')) (kk := kL_law) (rr := rL_law) rfl (fun _ => rfl) hP 9999
  have h2 := (hP (kL_law 9999)).2 _ w _ hMC (k2 _ w _ hMC)
  obtain ⟨-, h3⟩ := h2 _ List.mem_cons_self
  obtain ⟨-, h4⟩ := h3 [0, 0, 0, 0] [] (sT L xs) e1
  refine h4 (sAl a) H5 locs 78 2529 ls [] ⟨hr5, XT.same _ _, hS5, Nat.le_add_right _ _, Nat.le_add_right _ _⟩ ⟨rfl, _, hl, ?_, ?_⟩ trivial
  · intro q hq
    simp only [List.mem_cons, List.not_mem_nil, or_false] at hq
    rcases hq with rfl | rfl | rfl | rfl <;> rfl
  · intro i hi
    match i, hi with
    | 0, _ => exact ⟨.ref b, by simp, (show Value.ref b = .ref w.2.2.2 by rw [hw2])⟩
    | 1, _ => exact ⟨.ref a, by simp, Int.le_refl 0, (by show (0 : Int) < 1; decide), (by show Value.ref a = .ref (sAl a 11 0); rw [show sAl a 11 0 = a + 0 from congrArg (a + ·) (show sof 11 0 = 0 by decide +kernel)]; rfl)⟩
    | 2, _ => exact ⟨.ref (a + 30), by simp, Int.le_refl 0, (by show (0 : Int) < 1; decide), (by show Value.ref (a + 30) = .ref (sAl a 12 0); rw [show sAl a 12 0 = a + 30 from congrArg (a + ·) (show sof 12 0 = 30 by decide +kernel)])⟩
    | 3, _ => exact ⟨.ref (a + 77), by simp, Int.le_refl 0, (by show (0 : Int) < 1; decide), (by show Value.ref (a + 77) = .ref (sAl a 60 0); rw [show sAl a 60 0 = a + 77 from congrArg (a + ·) (show sof 60 0 = 77 by decide +kernel)])⟩
    | 4, hi => exact absurd rfl hi
    | 5, hi => exact absurd rfl hi
    | 6, hi => exact absurd rfl hi
    | i + 7, hi => exact absurd rfl hi
