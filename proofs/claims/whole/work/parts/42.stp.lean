section STP2
variable {x : Cx} {w : Wd} {md : MD} {z : Bg} {r : Rt} {pc : Nat} {L S : List PV} {t : St} {K : Co} {N : Nx}
theorem narrow_i (v : Int32) : narrow .int (.int v) = .int v ∧ fits .int (.int v) = true := by
  first | exact ⟨rfl, rfl⟩ | simp [narrow, fits]
theorem narrow_z {v : Int} (h : v = 0 ∨ v = 1) : narrow .boolean (.int (i32 v)) = .int (i32 v) ∧ fits .boolean (.int (i32 v)) = true := by
  rcases h with rfl | rfl <;> first | exact ⟨rfl, rfl⟩ | decide +kernel
theorem putf_ok {i q j k q2 : Nat} (hc : CX x w md z r) (hq : q ≤ 12) (hj : j < nfl q) (hl : FLK (my md).cls i q j) (hfin : (cT q j).2.2.2 = false) (hdg : decode (mby md) pc = .ok (.putfield i, 3)) (hn : Nxt x w z r (mnl md) (pc + 3) N)
    (hf : k = 0 ∧ (ftb q j).1 = 0 ∧ (cT q j).2.2.1 = "I" ∨ k = 5 ∧ (ftb q j).1 = 5 ∧ (cT q j).2.2.1 = "Z" ∨ k = 1 ∧ ftb q j = (1, q2) ∧ ∃ ty9, parseFieldDescriptor (cT q j).2.2.1 = some (.object ty9))
    (h : (match (generalizing := false) k with
      | 0 => pI S fun v S => pO q S fun n S => N L S (pm t q n j v)
      | 5 => pI S fun v S => pO q S fun n S => if v = 0 ∨ v = 1 then N L S (pm t q n j v) else none
      | 1 => pR S fun q' v S => tst (Nat.beq q' q2) (pO q S fun n S => N L S (pm t q n j v))
      | _ => none) = some r) : WA x w z r (mnl md) pc L S t := by
  rcases hf with ⟨rfl, hf, hd⟩ | ⟨rfl, hf, hd⟩ | ⟨rfl, hf, ty9, hd⟩
  · replace h := pI_some h
    obtain ⟨q9, v, S1, rfl, h⟩ := h
    exact putI_ok (ty := .int) hc hq hj hl hfin (by rw [hd]; rfl) (Or.inl hf) (narrow_i _) hdg hn h
  · replace h := pI_some h
    obtain ⟨q9, v, S1, rfl, h⟩ := h
    have h9 : (v = 0 ∨ v = 1) ∧ (pO q S1 fun n S => N L S (pm t q n j v)) = some r := by
      have h2 := h
      replace h2 := pO_some h2
      obtain ⟨a, y, S2, ha, rfl, h3⟩ := h2
      split at h3
      · next e =>
        refine ⟨e, ?_⟩
        simp only [if_pos e] at h
        exact h
      · cases h3
    exact putI_ok (ty := .boolean) hc hq hj hl hfin (by rw [hd]; rfl) (Or.inr hf) (narrow_z h9.1) hdg hn h9.2
  · exact putR_ok (ty9 := ty9) hc hq hj hl hfin hd hf hdg hn h
theorem stp_ok (hA : AOK) {i : Instr} {n : Nat} {ns : List Nat} {is : List Int} {f : Fn} {md2 : MD} {op : Op} {hs : List Nat} (hc : CX x w md z r) (hl : x.1.2.1.flags = flags0) (he : EE x w md z r) (ht : TT x w md z r) (hd : DK md pc (i, n, (ns, is), (f, md2), op)) (hb : sb md pc i n ns is md2 hs = true)
    (hk : Kon x w z r (mnl md) K) (hn : tmb i ns = false → Nxt x w z r (mnl md) (pc + n) N) (h : stp i ns is f md2 L S t K N = some r) : WA x w z r (mnl md) pc L S t := by
  have hx := hc.1
  have hy := hc.2.1
  have ho := hc.2.2.2.1
  have hT := hc.2.2.2.2.1.2.1
  cases i
  case iconst k =>
    obtain ⟨h1, h2⟩ := and2 hb
    obtain rfl := beq_1 h1
    exact push_ok (v := (0, 0, k)) (u := .int (i32 k)) (hn rfl) h (fun _ => ⟨rgb_ok h2, rfl⟩) (fun kk => lv_iconst hx hy hd rfl kk)
  case bipush k =>
    obtain ⟨h1, h3⟩ := and2 hb
    obtain ⟨h1, h2⟩ := and2 h1
    obtain rfl := beq_1 h1
    exact push_ok (v := (0, 0, k)) (u := .int (i32 k)) (hn rfl) h (fun _ => ⟨rgb_ok h2, rfl⟩) (fun kk => lv_bipush hx hy hd (of_decide_eq_true h3) kk)
  case sipush k =>
    obtain ⟨h1, h3⟩ := and2 hb
    obtain ⟨h1, h2⟩ := and2 h1
    obtain rfl := beq_1 h1
    exact push_ok (v := (0, 0, k)) (u := .int (i32 k)) (hn rfl) h (fun _ => ⟨rgb_ok h2, rfl⟩) (fun kk => lv_sipush hx hy hd (of_decide_eq_true h3) kk)
  case ldc k =>
    obtain ⟨h1, h3⟩ := and2 hb
    obtain ⟨h1, h2⟩ := and2 h1
    obtain rfl := beq_1 h1
    exact push_ok (v := (0, 0, i0 is)) (u := .int (i32 (i0 is))) (hn rfl) h (fun _ => ⟨rgb_ok h2, rfl⟩) (fun kk => lv_ldc hx hy ho (hT.at (wat_mem h3) _) hd kk)
  case ldc_w k =>
    obtain ⟨h1, h3⟩ := and2 hb
    obtain ⟨h1, h2⟩ := and2 h1
    obtain rfl := beq_1 h1
    exact push_ok (v := (0, 0, i0 is)) (u := .int (i32 (i0 is))) (hn rfl) h (fun _ => ⟨rgb_ok h2, rfl⟩) (fun kk => lv_ldcw hx hy ho (hT.at (wat_mem h3) _) hd kk)
  case lconst k =>
    obtain rfl := beq_1 hb
    refine push_ok (v := (1, 0, (k.val : Int))) (u := .long (Int64.ofInt (k.val : Int))) (hn rfl) h (fun _ => ⟨?_, rfl⟩) (fun kk => lv_lconst hx hy hd (by rfl) kk)
    have := k.isLt
    exact ⟨by omega, by omega⟩
  case aconst_null =>
    obtain rfl := beq_1 hb
    exact null_ok hc hd (hn rfl) h
  case iload k =>
    obtain rfl := beq_1 hb
    exact iload_ok (hn rfl) h (fun h1 kk => lv_iload hx hy hd h1 kk)
  case iload_n k =>
    obtain rfl := beq_1 hb
    exact iload_ok (hn rfl) h (fun h1 kk => lv_iload_n hx hy hd rfl h1 kk)
  case aload k =>
    obtain rfl := beq_1 hb
    exact aload_ok (hn rfl) h (fun h1 kk => lv_aload hx hy hd h1 kk) (fun h1 kk => lv_aloadN hx hy hd h1 kk)
  case aload_n k =>
    obtain rfl := beq_1 hb
    exact aload_ok (hn rfl) h (fun h1 kk => lv_aload_n hx hy hd rfl h1 kk) (fun h1 kk => lv_aload_nN hx hy hd rfl h1 kk)
  case istore k =>
    obtain ⟨h1, h2⟩ := and2 hb
    obtain rfl := beq_1 h1
    exact istore_ok (Nat.le_of_ble_eq_true h2) (hn rfl) h (fun a1 a2 a3 kk => lv_istore hx hy hd a1 a2 a3 kk)
  case istore_n k =>
    obtain ⟨h1, h2⟩ := and2 hb
    obtain rfl := beq_1 h1
    exact istore_ok (Nat.le_of_ble_eq_true h2) (hn rfl) h (fun a1 a2 a3 kk => lv_istore_n hx hy hd rfl a1 a2 a3 kk)
  case astore k =>
    obtain ⟨h1, h2⟩ := and2 hb
    obtain rfl := beq_1 h1
    exact astore_ok (Nat.le_of_ble_eq_true h2) (hn rfl) h (fun a1 a2 a3 kk => lv_astore hx hy hd a1 a2 a3 kk) (fun a1 a2 a3 kk => lv_astoreN hx hy hd a1 a2 a3 kk)
  case astore_n k =>
    obtain ⟨h1, h2⟩ := and2 hb
    obtain rfl := beq_1 h1
    exact astore_ok (Nat.le_of_ble_eq_true h2) (hn rfl) h (fun a1 a2 a3 kk => lv_astore_n hx hy hd rfl a1 a2 a3 kk) (fun a1 a2 a3 kk => lv_astore_nN hx hy hd rfl a1 a2 a3 kk)
  case iinc k m =>
    obtain ⟨h1, h2⟩ := and2 hb
    obtain rfl := beq_1 h1
    exact iinc_ok hc hd (Nat.le_of_ble_eq_true h2) (hn rfl) h
  case iadd =>
    obtain rfl := beq_1 hb
    exact bin_ok (op := fun a b => wr (a + b)) (f := fun a b => a + b) (fun a b _ _ => ⟨i32_add a b, rg_wr _⟩) (hn rfl) h (fun kk => lv_iadd hx hy hd kk)
  case isub =>
    obtain rfl := beq_1 hb
    exact bin_ok (op := fun a b => wr (a - b)) (f := fun a b => a - b) (fun a b _ _ => ⟨i32_sub a b, rg_wr _⟩) (hn rfl) h (fun kk => lv_isub hx hy hd kk)
  case imul =>
    obtain rfl := beq_1 hb
    exact bin_ok (op := fun a b => wr (a * b)) (f := fun a b => a * b) (fun a b _ _ => ⟨i32_mul a b, rg_wr _⟩) (hn rfl) h (fun kk => lv_imul hx hy hd kk)
  case idiv =>
    obtain rfl := beq_1 hb
    exact div_ok (op := fun a b => idv a b) (f := fun a b => a / b) (fun a b ha hb _ => ⟨i32_idv ha hb, rg_idv _ _⟩) (hn rfl) h (fun h0 kk => lv_idiv hx hy hd h0 kk)
  case irem =>
    obtain rfl := beq_1 hb
    exact div_ok (op := fun a b => irm a b) (f := fun a b => a - a / b * b) (fun a b ha hb h0 => ⟨i32_irm ha hb, rg_irm ha hb h0⟩) (hn rfl) h (fun h0 kk => lv_irem hx hy hd h0 kk)
  case ineg =>
    obtain rfl := beq_1 hb
    exact ineg_ok hc hd (hn rfl) h
  case iand =>
    obtain rfl := beq_1 hb
    exact bin_ok (op := fun a b => iand a b) (f := fun a b => a &&& b) (fun a b _ _ => ⟨i32_iand a b, rg_iand _ _⟩) (hn rfl) h (fun kk => lv_iand hx hy hd kk)
  case ior =>
    obtain rfl := beq_1 hb
    exact bin_ok (op := fun a b => ior a b) (f := fun a b => a ||| b) (fun a b _ _ => ⟨i32_ior a b, rg_ior _ _⟩) (hn rfl) h (fun kk => lv_ior hx hy hd kk)
  case ixor =>
    obtain rfl := beq_1 hb
    exact bin_ok (op := fun a b => ixor a b) (f := fun a b => a ^^^ b) (fun a b _ _ => ⟨i32_ixor a b, rg_ixor _ _⟩) (hn rfl) h (fun kk => lv_ixor hx hy hd kk)
  case ishl =>
    obtain rfl := beq_1 hb
    exact bin_ok (op := fun a b => ishl a b) (f := fun a b => a <<< (b &&& 31)) (fun a b _ _ => ⟨i32_ishl a b, rg_ishl _ _⟩) (hn rfl) h (fun kk => lv_ishl hx hy hd kk)
  case ishr =>
    obtain rfl := beq_1 hb
    exact bin_ok (op := fun a b => ishr a b) (f := fun a b => a >>> (b &&& 31)) (fun a b _ _ => ⟨i32_ishr a b, rg_ishr _ _⟩) (hn rfl) h (fun kk => lv_ishr hx hy hd kk)
  case iushr =>
    obtain rfl := beq_1 hb
    exact bin_ok (op := fun a b => iushr a b) (f := fun a b => (a.toUInt32 >>> (b.toUInt32 &&& Int32.toUInt32 31)).toInt32) (fun a b _ _ => ⟨i32_iushr a b, rg_iushr _ _⟩) (hn rfl) h (fun kk => lv_iushr hx hy hd rfl kk)
  case i2l =>
    obtain rfl := beq_1 hb
    exact i2l_ok hc hd (hn rfl) h
  case lcmp =>
    obtain rfl := beq_1 hb
    exact lcmp_ok hc hd (hn rfl) h
  case dup =>
    obtain rfl := beq_1 hb
    exact dup_ok hc hd (hn rfl) h
  case dup2 =>
    obtain rfl := beq_1 hb
    exact dup2_ok hc hd (hn rfl) h
  case getfield j =>
    obtain ⟨hb, h6⟩ := and2 hb
    obtain ⟨hb, h5⟩ := and2 hb
    obtain ⟨hb, h4⟩ := and2 hb
    obtain ⟨hb, h3⟩ := and2 hb
    obtain ⟨h1, h2⟩ := and2 hb
    obtain rfl := beq_1 h1
    have h4 := (of_decide_eq_true h4).symm
    obtain ⟨jn, hj⟩ : ∃ jn : Nat, jn = (i0 is).toNat := ⟨_, rfl⟩
    rw [← hj] at h3 h4 h5 h6
    refine getf_ok (i := j) (q := g0 ns) (j := jn) (k := g1 ns) (q2 := g2 ns) hc (Nat.le_of_ble_eq_true h2) (Nat.le_of_ble_eq_true h3) (lkb_ok h5) hd (hn rfl) ?_ (by rw [← h4]; exact h)
    split at h6
    · next e => rw [e]; simp only [Bool.or_eq_true] at h6; exact Or.inl ⟨rfl, h6.imp beq_1 beq_1⟩
    · next e => rw [e]; exact Or.inr ⟨by omega, by omega, of_decide_eq_true h6⟩
    · next e => rw [e]; exact Or.inr ⟨by omega, by omega, of_decide_eq_true h6⟩
    · next e => rw [e]; exact Or.inr ⟨by omega, by omega, of_decide_eq_true h6⟩
    · next e => rw [e]; exact Or.inr ⟨by omega, by omega, of_decide_eq_true h6⟩
    · cases h6
  case putfield j =>
    obtain ⟨hb, h7⟩ := and2 hb
    obtain ⟨hb, h6⟩ := and2 hb
    obtain ⟨hb, h5⟩ := and2 hb
    obtain ⟨hb, h4⟩ := and2 hb
    obtain ⟨hb, h3⟩ := and2 hb
    obtain ⟨h1, h2⟩ := and2 hb
    obtain rfl := beq_1 h1
    have h4 := (of_decide_eq_true h4).symm
    obtain ⟨jn, hj⟩ : ∃ jn : Nat, jn = (i0 is).toNat := ⟨_, rfl⟩
    rw [← hj] at h3 h4 h5 h6 h7
    refine putf_ok (i := j) (q := g0 ns) (j := jn) (k := g1 ns) (q2 := g2 ns) hc (Nat.le_of_ble_eq_true h2) (Nat.le_of_ble_eq_true h3) (lkb_ok h5) (notb h6) hd (hn rfl) ?_ (by rw [← h4]; exact h)
    split at h7
    · next e => rw [e]; obtain ⟨a1, a2⟩ := and2 h7; exact Or.inl ⟨rfl, beq_1 a1, of_decide_eq_true a2⟩
    · next e => rw [e]; obtain ⟨a1, a2⟩ := and2 h7; exact Or.inr (Or.inl ⟨rfl, beq_1 a1, of_decide_eq_true a2⟩)
    · next e =>
      rw [e]
      obtain ⟨a1, a2⟩ := and2 h7
      refine Or.inr (Or.inr ⟨rfl, of_decide_eq_true a1, ?_⟩)
      split at a2
      · next ty e => exact ⟨_, e⟩
      · cases a2
    · cases h7
  case iaload =>
    obtain ⟨h1, h2⟩ := and2 hb
    obtain rfl := beq_1 h1
    obtain ⟨l, e1, e2, e3, e4⟩ := arb_ok h2
    exact iald_ok (q := g0 ns) (l := l) hc e2 e3 e4 hd (hn rfl) (by rw [← e1]; exact h)
  case baload =>
    obtain ⟨h1, h2⟩ := and2 hb
    obtain rfl := beq_1 h1
    obtain ⟨l, e1, e2, e3, e4⟩ := arb_ok h2
    exact bald_ok (q := g0 ns) (l := l) hc e2 e3 hd (hn rfl) (by rw [← e1]; exact h)
  case aaload =>
    obtain ⟨hb, h5⟩ := and2 hb
    obtain ⟨hb, h4⟩ := and2 hb
    obtain ⟨hb, h3⟩ := and2 hb
    obtain ⟨h1, h2⟩ := and2 hb
    obtain rfl := beq_1 h1
    obtain ⟨l, e1, e2, e3, e4⟩ := arb_ok h2
    exact aald_ok (q := g0 ns) (e := (aty (g0 ns)).1) (l := l) hc e2 e3 ⟨Nat.le_of_ble_eq_true h3, Nat.le_of_ble_eq_true h4⟩ hd (hn rfl) (by rw [← e1, beq_1 h5]; exact h)
  case laload =>
    obtain rfl := beq_1 hb
    exact lald_ok hc hd (hn rfl) h
  case iastore =>
    obtain ⟨hb, h3⟩ := and2 hb
    obtain ⟨h1, h2⟩ := and2 hb
    obtain rfl := beq_1 h1
    obtain ⟨l, e1, e2, e3, e4⟩ := arb_ok h2
    exact iast_ok (q := g0 ns) (l := l) hc e2 (Nat.ne_of_beq_eq_false (notb h3)) e3 hd (hn rfl) (by rw [← e1]; exact h)
  case bastore =>
    obtain ⟨hb, h3⟩ := and2 hb
    obtain ⟨h1, h2⟩ := and2 hb
    obtain rfl := beq_1 h1
    obtain ⟨l, e1, e2, e3, e4⟩ := arb_ok h2
    exact bast_ok (q := g0 ns) (l := l) hc e2 (Nat.ne_of_beq_eq_false (notb h3)) e3 hd (hn rfl) (by rw [← e1]; exact h)
  case aastore =>
    obtain ⟨hb, h6⟩ := and2 hb
    obtain ⟨hb, h5⟩ := and2 hb
    obtain ⟨hb, h4⟩ := and2 hb
    obtain ⟨hb, h3⟩ := and2 hb
    obtain ⟨h1, h2⟩ := and2 hb
    obtain rfl := beq_1 h1
    obtain ⟨l, e1, e2, e3, e4⟩ := arb_ok h2
    exact aast_ok (q := g0 ns) (e := (aty (g0 ns)).1) (l := l) hc e2 (Nat.ne_of_beq_eq_false (notb h6)) e3 ⟨Nat.le_of_ble_eq_true h3, Nat.le_of_ble_eq_true h4⟩ hd (hn rfl) (by rw [← e1, beq_1 h5]; exact h)
  case lastore =>
    obtain rfl := beq_1 hb
    exact last_ok hc hd (hn rfl) h
  case arraylength =>
    obtain ⟨hb, h3⟩ := and2 hb
    obtain ⟨h1, h2⟩ := and2 hb
    obtain rfl := beq_1 h1
    obtain ⟨l, e1, e2, e3, e4⟩ := arb_ok h2
    exact alen_ok (q := g0 ns) (e := (aty (g0 ns)).1) (l := l) hc e2 e3 (Nat.le_of_ble_eq_true h3) e4 hd (hn rfl) (by rw [← e1]; exact h)
  case ifCond c o =>
    obtain ⟨h1, h2⟩ := and2 hb
    obtain rfl := beq_1 h1
    exact if_ok hc hd (gtb_ok h2) hk (hn rfl) h
  case if_icmp c o =>
    obtain ⟨h1, h2⟩ := and2 hb
    obtain rfl := beq_1 h1
    exact icmp_ok hc hd (gtb_ok h2) hk (hn rfl) h
  case ifnull o =>
    obtain ⟨h1, h2⟩ := and2 hb
    obtain rfl := beq_1 h1
    exact ifnull_ok hc hd (gtb_ok h2) hk (hn rfl) h
  case ifnonnull o =>
    obtain ⟨h1, h2⟩ := and2 hb
    obtain rfl := beq_1 h1
    exact ifnonnull_ok hc hd (gtb_ok h2) hk (hn rfl) h
  case if_acmp c o =>
    obtain ⟨h1, h2⟩ := and2 hb
    obtain rfl := beq_1 h1
    cases c
    · exact acmpeq_ok hc hd (gtb_ok h2) hk (hn rfl) h
    · exact acmpne_ok hc hd (gtb_ok h2) hk (hn rfl) h
  case goto o =>
    obtain ⟨h1, h2⟩ := and2 hb
    obtain rfl := beq_1 h1
    exact goto_ok (n := 0) hc hd (gtb_ok h2) hk h
  case tableswitch d lo hi offs =>
    obtain ⟨hb, h3⟩ := and2 hb
    obtain ⟨h1, h2⟩ := and2 hb
    exact tsw_ok hc hd h1 h2 (of_decide_eq_true h3) hk h
  case lookupswitch d ps =>
    obtain ⟨hb, h3⟩ := and2 hb
    obtain ⟨h1, h2⟩ := and2 hb
    exact lsw_ok hc hd h1 h2 h3 hk h
  case ireturn =>
    obtain ⟨hb, h3⟩ := and2 hb
    obtain ⟨h1, h2⟩ := and2 hb
    obtain rfl := beq_1 h1
    refine iret_ok (g := g0 ns) hc he hd (beq_1 h2) (fun e => ?_) h
    rw [e] at h3
    exact of_decide_eq_true h3
  case areturn =>
    obtain ⟨hb, h3⟩ := and2 hb
    obtain ⟨h1, h2⟩ := and2 hb
    obtain rfl := beq_1 h1
    exact aret_ok (g := g0 ns) hc he hd (beq_1 h2) (beq_1 h3) h
  case return_ =>
    obtain ⟨h1, h2⟩ := and2 hb
    obtain rfl := beq_1 h1
    exact vret_ok hc he hd (beq_1 h2) h
  case new j =>
    match ns, hd, hb, hn, h with
    | [], hd, hb, hn, h => exact (Bool.false_ne_true hb).elim
    | q :: l, hd, hb, hn, h =>
      by_cases e : q = 99 ∧ l ≠ []
      · obtain ⟨rfl, e⟩ := e
        cases l with
        | nil => exact absurd rfl e
        | cons o l => exact thrw_ok hc ht hd hb h
      · have hb' : akb md j n q l = true := by
          by_cases e2 : q = 99
          · subst e2
            cases l with
            | nil => exact hb
            | cons o l => exact absurd ⟨rfl, by simp⟩ e
          · have hb2 : (match q :: l with
              | 99 :: o :: _ => thb md j o
              | q :: l => akb md j n q l
              | _ => false) = true := hb
            split at hb2
            · next e3 => cases e3; exact absurd rfl e2
            · next e3 => cases e3; exact hb2
            · cases hb2
        have hq : q = 2 ∨ q = 6 ∨ q = 8 ∨ q = 10 := by
          have := (and2 hb').2
          simp only [Bool.or_eq_true] at this
          rcases this with ((a | a) | a) | a
          · exact Or.inl (beq_1 a)
          · exact Or.inr (Or.inl (beq_1 a))
          · exact Or.inr (Or.inr (Or.inl (beq_1 a)))
          · exact Or.inr (Or.inr (Or.inr (beq_1 a)))
        rcases hq with rfl | rfl | rfl | rfl <;> exact hA hl hc hd hb' (hn rfl) h
  case invokevirtual j =>
    exact hd.1.2 x w md z r pc j n ns hs K N L S t hc hl he hb hd.2 hk (hn rfl) h
  case invokestatic j =>
    exact hd.1.2 x w md z r pc j n ns hs K N L S t hc hl he hb hd.2 hk (hn rfl) h
  all_goals exact (Bool.false_ne_true hb).elim
end STP2
