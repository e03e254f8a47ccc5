/-! every instruction -/
def rgb (k : Int) : Bool := decide (-2147483648 ≤ k) && decide (k < 2147483648)
theorem rgb_ok {k : Int} (h : rgb k = true) : rg k := by
  simp only [rgb, Bool.and_eq_true, decide_eq_true_eq] at h
  exact h
def lkb (own : String) (i q j h : Nat) : Bool := wat h (.fieldLink own i (cT q j).1 (cT q j).2.1 (cT q j).2.2.1) || wat h (.fieldLinkNest own i (cT q j).1 (cT q j).2.1 (cT q j).2.2.1 "Floatparade")
theorem lkb_ok {own : String} {i q j h : Nat} (hb : lkb own i q j h = true) : FLK own i q j := by
  simp only [lkb, Bool.or_eq_true] at hb
  rcases hb with hb | hb
  · exact Or.inl (wat_mem hb)
  · exact Or.inr (wat_mem hb)
/-- what is to know of a method for its calls -/
def MK (md2 : MD) (b : Bool) : Prop :=
  ((my md2).cls ≠ "java/lang/invoke/MethodHandle" ∧ (my md2).cls ≠ "java/lang/invoke/VarHandle" ∧ (parseMethodDescriptor (my md2).desc).map (fun d => d.parameters.length) = some ((mps md2).length - (if b = true then 1 else 0))) ∧
  cwd md2 ∈ TW ∧ Cond.initialized (my md2).cls ∈ TW ∧ (∀ p ∈ mps md2, p.1 ≠ 7) ∧
  (b = true → mhh md2 = [] ∧ (∃ q ty, mps md2 = (3, q) :: ty ∧ q ≤ 12 ∧ cNm q = (my md2).cls) ∧ Cond.instanceMethod (my md2) ∈ TW ∧ Cond.selects (my md2).cls (my md2) (my md2) ∈ TW) ∧
  (b = false → Cond.static (my md2) ∈ TW)
def MKb (md2 : MD) (b : Bool) (h1 h2 h3 h4 : Nat) : Bool :=
  decide ((my md2).cls ≠ "java/lang/invoke/MethodHandle") && decide ((my md2).cls ≠ "java/lang/invoke/VarHandle") && decide ((parseMethodDescriptor (my md2).desc).map (fun d => d.parameters.length) = some ((mps md2).length - (if b = true then 1 else 0))) &&
  wat h1 (cwd md2) && wat h2 (.initialized (my md2).cls) && (mps md2).all (fun p => !Nat.beq p.1 7) &&
  (match b with
    | true => (mhh md2).isEmpty && (match mps md2 with
      | (3, q) :: _ => Nat.ble q 12 && decide (cNm q = (my md2).cls)
      | _ => false) && wat h3 (.instanceMethod (my md2)) && wat h4 (.selects (my md2).cls (my md2) (my md2))
    | false => wat h3 (.static (my md2)))
theorem MKb_ok {md2 : MD} {b : Bool} {h1 h2 h3 h4 : Nat} (h : MKb md2 b h1 h2 h3 h4 = true) : MK md2 b := by
  simp only [MKb, Bool.and_eq_true, decide_eq_true_eq] at h
  obtain ⟨⟨⟨⟨⟨⟨a1, a2⟩, a3⟩, a4⟩, a5⟩, a6⟩, a7⟩ := h
  refine ⟨⟨a1, a2, a3⟩, wat_mem a4, wat_mem a5, fun p hp e => ?_, fun e => ?_, fun e => ?_⟩
  · have := List.all_eq_true.mp a6 p hp
    rw [e] at this
    exact absurd this (by decide)
  · subst e
    simp only [Bool.and_eq_true, List.isEmpty_iff] at a7
    obtain ⟨⟨⟨b1, b2⟩, b3⟩, b4⟩ := a7
    refine ⟨b1, ?_, wat_mem b3, wat_mem b4⟩
    split at b2
    · next q ty e =>
      simp only [Bool.and_eq_true, decide_eq_true_eq] at b2
      exact ⟨q, ty, e, Nat.le_of_ble_eq_true b2.1, b2.2⟩
    · cases b2
  · subst e
    exact wat_mem a7
/-- a call's place -/
def hdb (own : String) (pc : Nat) : List Nat → List (Nat × Nat × Nat × Nat) → List Nat → Bool
  | [], [], _ => true
  | e :: g :: ns, (a, b, h, ct) :: hh, w1 :: w2 :: ws => Nat.ble a pc && Nat.blt pc b && Nat.beq h g && !Nat.beq ct 0 && Nat.ble 1 e && Nat.ble e 3 && wat w1 (.classLink own ct (exn e)) && wat w2 (.castable (exn e) (exn e)) && hdb own pc ns hh ws
  | _, _, _ => false
theorem hdb_ok {own : String} {pc : Nat} : ∀ {ns : List Nat} {hh : List (Nat × Nat × Nat × Nat)} {ws : List Nat}, hdb own pc ns hh ws = true → HDL own pc ns hh
  | [], [], _, _ => trivial
  | [], _ :: _, _, h => by cases h
  | [_], _, _, h => by cases h
  | _ :: _ :: _, [], _, h => by cases h
  | _ :: _ :: _, _ :: _, [], h => by cases h
  | _ :: _ :: _, _ :: _, [_], h => by cases h
  | e :: g :: ns, (a, b, h9, ct) :: hh, w1 :: w2 :: ws, h => by
    simp only [hdb, Bool.and_eq_true] at h
    obtain ⟨⟨⟨⟨⟨⟨⟨⟨a1, a2⟩, a3⟩, a4⟩, a5⟩, a6⟩, a7⟩, a8⟩, a9⟩ := h
    refine ⟨⟨Nat.le_of_ble_eq_true a1, ?_⟩, Nat.eq_of_beq_eq_true a3, fun e => ?_, ⟨Nat.le_of_ble_eq_true a5, Nat.le_of_ble_eq_true a6⟩, wat_mem a7, wat_mem a8, hdb_ok a9⟩
    · exact Nat.le_of_ble_eq_true a2
    · rw [e] at a4
      cases a4
noncomputable def ivb (md : MD) (pc i n : Nat) (ns : List Nat) (md2 : MD) (hs : List Nat) : Bool :=
  Nat.beq n 3 && Nat.ble (mfr md2 + 1) (mfr md) && Nat.ble (8 + (mnl md2 + 11) + mlo md2) (mlo md) && (ns.isEmpty || (mhh md2).isEmpty) && (wat (g0 hs) (.methodLink (my md).cls i (my md2)) || ((mhh md2).isEmpty && wat (g0 hs) (.methodLinkNest (my md).cls i (my md2) "Floatparade"))) && (ns.isEmpty || hdb (my md).cls pc ns (mhh md) hs.tail)
theorem ivb_ok {md : MD} {pc i n : Nat} {ns : List Nat} {md2 : MD} {hs : List Nat} {b : Bool} (h : ivb md pc i n ns md2 hs = true) (hm : MK md2 b) : n = 3 ∧ IVK md i md2 b ns ∧ (ns ≠ [] → HDL (my md).cls pc ns (mhh md)) := by
  simp only [ivb, Bool.and_eq_true, Bool.or_eq_true, List.isEmpty_iff] at h
  obtain ⟨⟨⟨⟨⟨a1, a2⟩, a3⟩, a4⟩, a5⟩, a6⟩ := h
  obtain ⟨b1, b2, b3, b4, b5, b6⟩ := hm
  refine ⟨Nat.eq_of_beq_eq_true a1, ⟨b1, ⟨Nat.le_of_ble_eq_true a2, Nat.le_of_ble_eq_true a3⟩, b2, b3, b4, b5, b6, fun e => ?_, ?_⟩, fun e => ?_⟩
  · rcases a4 with a4 | a4
    · exact absurd a4 e
    · exact a4
  · rcases a5 with a5 | a5
    · exact Or.inl (wat_mem a5)
    · exact Or.inr ⟨a5.1, wat_mem a5.2⟩
  · rcases a6 with a6 | a6
    · exact absurd a6 e
    · exact hdb_ok a6
/-- a call of a method that keeps to a function -/
def CallOK (md2 : MD) (f : Fn) (b : Bool) : Prop := (∀ xs t r, f xs t = some r → ∀ k, t.2 k ≤ r.2.2.2 k) ∧ ∀ (x : Cx) (w : Wd) (md : MD) (z : Bg) (r : Rt) (pc i n : Nat) (ns hs : List Nat) (K : Co) (N : Nx) (L S : List PV) (t : St),
  CX x w md z r → x.1.2.1.flags = flags0 → EE x w md z r → ivb md pc i n ns md2 hs = true → decode (mby md) pc = .ok ((if b = true then .invokevirtual i else .invokestatic i), n) → Kon x w z r (mnl md) K → Nxt x w z r (mnl md) (pc + n) N →
  inv b ns f md2 L S t K N = some r → WA x w z r (mnl md) pc L S t
theorem co_of {md2 : MD} {f : Fn} {b : Bool} (hm : MK md2 b) (hI : Impl md2 f) : CallOK md2 f b :=
  ⟨fun xs t r h => (hI launch0 rfl (((fun _ => 0), (fun _ _ => 0)), (fun _ => 0), 0, 0) (fun _ _ => 0) t xs r h).1, fun x w md z r pc i n ns hs K N L S t hc hl he hb hd hk hn h => by
    obtain ⟨rfl, h1, h2⟩ := ivb_ok hb hm
    exact inv_ok hc hl hI h1 h2 he hd hk hn h⟩
/-- a throw's place -/
def ekx (e : Nat) : Nat := match e with | 1 => 43 | 2 => 53 | _ => 65
def ecx (e : Nat) : Nat := match e with | 1 => 47 | 2 => 57 | _ => 69
def THK (md : MD) (pc i n e : Nat) : Prop := ∃ (k : Nat) (tx : String), Cond.stringRef (my md).cls k tx ∈ lw_tbl ∧ decode (mby md) pc = .ok (.new i, 3) ∧ decode (mby md) (pc + 3) = .ok (.dup, 1) ∧
  ((n = 10 ∧ decode (mby md) (pc + 4) = .ok (.ldc k, 2) ∧ decode (mby md) (pc + 6) = .ok (.invokespecial (ecx e), 3) ∧ decode (mby md) (pc + 9) = .ok (.athrow, 1)) ∨
   (n = 11 ∧ decode (mby md) (pc + 4) = .ok (.ldc_w k, 3) ∧ decode (mby md) (pc + 7) = .ok (.invokespecial (ecx e), 3) ∧ decode (mby md) (pc + 10) = .ok (.athrow, 1)))
def thb (md : MD) (i e : Nat) : Bool := decide ((my md).cls = "Floatparade") && (mhh md).isEmpty && Nat.ble 6 (mfr md) && Nat.ble 90 (mlo md) && Nat.ble 1 e && Nat.ble e 3 && Nat.beq i (ekx e)
/-- what is thrown, at a method's end -/
def TT (x : Cx) (w : Wd) (md : MD) (z : Bg) (r : Rt) : Prop := ∀ pc i n e α H locs cells slots ls t, PT x w z t α H locs cells slots → THK md pc i n e → thb md i e = true → r = (e, 0, thw t) → ls.size = mnl md → Wx x H locs cells slots (F0 (xm x) pc ls [])
/-- an object is made: the place -/
def lds (by9 : ByteArray) : Nat → List Nat → Nat → Prop
  | pc, [], e => pc = e
  | pc, k :: ks, e => (∃ n, decode by9 pc = .ok (.iload n, 2) ∧ n = k ∧ lds by9 (pc + 2) ks e) ∨ ∃ n : Fin 4, decode by9 pc = .ok (.iload_n n, 1) ∧ n.val = k ∧ lds by9 (pc + 1) ks e
def akx (q : Nat) : String × Nat × Nat × Nat × Nat := match q with
  | 2 => (RX1, 9, 81, 7, 0) | 6 => (RX11, 9, 58, 10, 3) | 8 => (RX11, 155, 157, 16, 6) | _ => (RX11, 211, 213, 13, 4)
def AK (md : MD) (pc i n q : Nat) (l : List Nat) : Prop := decode (mby md) pc = .ok (.new i, 3) ∧ decode (mby md) (pc + 3) = .ok (.dup, 1) ∧ ∃ e, lds (mby md) (pc + 4) l e ∧ decode (mby md) e = .ok (.invokespecial (akx q).2.2.1, 3) ∧ pc + n = e + 3
def akb (md : MD) (i n q : Nat) (l : List Nat) : Bool := decide ((my md).cls = (akx q).1) && Nat.beq i (akx q).2.1 && Nat.beq n (akx q).2.2.2.1 && Nat.beq l.length (akx q).2.2.2.2 && Nat.ble 3 (mfr md) && Nat.ble 60 (mlo md) && (Nat.beq q 2 || Nat.beq q 6 || Nat.beq q 8 || Nat.beq q 10)
def AOK : Prop := ∀ {x : Cx} {w : Wd} {md : MD} {z : Bg} {r : Rt} {pc i n q : Nat} {l : List Nat} {L S : List PV} {t : St} {N : Nx}, x.1.2.1.flags = flags0 → CX x w md z r → AK md pc i n q l → akb md i n q l = true → Nxt x w z r (mnl md) (pc + n) N → alo q l L S t N = some r → WA x w z r (mnl md) pc L S t
/-- what the rows of decode say of an entry, and what is called -/
def DK (md : MD) (pc : Nat) (e : E0) : Prop := match e.1 with
  | .new i => (match e.2.2.1.1 with
    | 99 :: o :: _ => THK md pc i e.2.1 o
    | q :: l => AK md pc i e.2.1 q l
    | _ => False)
  | .invokevirtual i => CallOK e.2.2.2.1.2 e.2.2.2.1.1 true ∧ decode (mby md) pc = .ok (.invokevirtual i, e.2.1)
  | .invokestatic i => CallOK e.2.2.2.1.2 e.2.2.2.1.1 false ∧ decode (mby md) pc = .ok (.invokestatic i, e.2.1)
  | i => decode (mby md) pc = .ok (i, e.2.1)
/-- .. what is decided -/
def tsb (pc : Nat) (lo : Int) : List Int → List Int → List Nat → Bool
  | [], [], [] => true
  | o :: os, i :: is, t :: ts => decide (i = lo) && decide ((pc : Int) + o = (t : Int)) && tsb pc (lo + 1) os is ts
  | _, _, _ => false
def lsb (pc : Nat) : List (Int × Int) → List Int → List Nat → Bool
  | [], [], [] => true
  | (k, o) :: os, i :: is, t :: ts => decide (i = k) && decide ((pc : Int) + o = (t : Int)) && lsb pc os is ts
  | _, _, _ => false
def gtb (pc : Nat) (o : Int) (t : Nat) : Bool := decide ((pc : Int) + o = (t : Int))
def arb (q e : Nat) (l : Int) : Bool := !Nat.ble q 12 && decide (aty q = (e, l.toNat)) && decide (0 ≤ l) && decide (l < 2147483648)
noncomputable def sb (md : MD) (pc : Nat) (i : Instr) (n : Nat) (ns : List Nat) (is : List Int) (md2 : MD) (hs : List Nat) : Bool := match i with
  | .iconst k => Nat.beq n 1 && rgb k
  | .bipush k => Nat.beq n 2 && rgb k && decide ((Int8.ofInt k).toInt32 = Int32.ofInt k)
  | .sipush k => Nat.beq n 3 && rgb k && decide ((Int16.ofInt k).toInt32 = Int32.ofInt k)
  | .ldc j => Nat.beq n 2 && rgb (i0 is) && wat (g0 hs) (.constant (my md).cls j (Int32.ofInt (i0 is)))
  | .ldc_w j => Nat.beq n 3 && rgb (i0 is) && wat (g0 hs) (.constant (my md).cls j (Int32.ofInt (i0 is)))
  | .lconst _ => Nat.beq n 1
  | .aconst_null => Nat.beq n 1
  | .iload _ => Nat.beq n 2
  | .iload_n _ => Nat.beq n 1
  | .aload _ => Nat.beq n 2
  | .aload_n _ => Nat.beq n 1
  | .istore k => Nat.beq n 2 && Nat.blt k (mnl md)
  | .istore_n k => Nat.beq n 1 && Nat.blt k.val (mnl md)
  | .astore k => Nat.beq n 2 && Nat.blt k (mnl md)
  | .astore_n k => Nat.beq n 1 && Nat.blt k.val (mnl md)
  | .iinc k _ => Nat.beq n 3 && Nat.blt k (mnl md)
  | .iadd => Nat.beq n 1
  | .isub => Nat.beq n 1
  | .imul => Nat.beq n 1
  | .idiv => Nat.beq n 1
  | .irem => Nat.beq n 1
  | .ineg => Nat.beq n 1
  | .iand => Nat.beq n 1
  | .ior => Nat.beq n 1
  | .ixor => Nat.beq n 1
  | .ishl => Nat.beq n 1
  | .ishr => Nat.beq n 1
  | .iushr => Nat.beq n 1
  | .i2l => Nat.beq n 1
  | .lcmp => Nat.beq n 1
  | .dup => Nat.beq n 1
  | .dup2 => Nat.beq n 1
  | .getfield j => Nat.beq n 3 && Nat.ble (g0 ns) 12 && Nat.blt (i0 is).toNat (nfl (g0 ns)) && decide (((i0 is).toNat : Int) = i0 is) && lkb (my md).cls j (g0 ns) (i0 is).toNat (g0 hs) && (match g1 ns with
    | 0 => Nat.beq (ftb (g0 ns) (i0 is).toNat).1 0 || Nat.beq (ftb (g0 ns) (i0 is).toNat).1 5
    | 1 => decide (ftb (g0 ns) (i0 is).toNat = (1, g2 ns))
    | 2 => decide (ftb (g0 ns) (i0 is).toNat = (2, g2 ns))
    | 3 => decide (ftb (g0 ns) (i0 is).toNat = (3, g2 ns))
    | 4 => decide (ftb (g0 ns) (i0 is).toNat = (4, g2 ns))
    | _ => false)
  | .putfield j => Nat.beq n 3 && Nat.ble (g0 ns) 12 && Nat.blt (i0 is).toNat (nfl (g0 ns)) && decide (((i0 is).toNat : Int) = i0 is) && lkb (my md).cls j (g0 ns) (i0 is).toNat (g0 hs) && !(cT (g0 ns) (i0 is).toNat).2.2.2 && (match g1 ns with
    | 0 => Nat.beq (ftb (g0 ns) (i0 is).toNat).1 0 && decide ((cT (g0 ns) (i0 is).toNat).2.2.1 = "I")
    | 5 => Nat.beq (ftb (g0 ns) (i0 is).toNat).1 5 && decide ((cT (g0 ns) (i0 is).toNat).2.2.1 = "Z")
    | 1 => decide (ftb (g0 ns) (i0 is).toNat = (1, g2 ns)) && (match parseFieldDescriptor (cT (g0 ns) (i0 is).toNat).2.2.1 with
      | some (.object _) => true
      | _ => false)
    | _ => false)
  | .iaload => Nat.beq n 1 && arb (g0 ns) 0 (i0 is)
  | .baload => Nat.beq n 1 && arb (g0 ns) 1 (i0 is)
  | .aaload => Nat.beq n 1 && arb (g0 ns) (aty (g0 ns)).1 (i0 is) && Nat.ble 3 (aty (g0 ns)).1 && Nat.ble (aty (g0 ns)).1 7 && Nat.beq (elk (aty (g0 ns)).1) (g1 ns)
  | .laload => Nat.beq n 1
  | .iastore => Nat.beq n 1 && arb (g0 ns) 0 (i0 is) && !Nat.beq (g0 ns) 61
  | .bastore => Nat.beq n 1 && arb (g0 ns) 1 (i0 is) && !Nat.beq (g0 ns) 61
  | .aastore => Nat.beq n 1 && arb (g0 ns) (aty (g0 ns)).1 (i0 is) && Nat.ble 3 (aty (g0 ns)).1 && Nat.ble (aty (g0 ns)).1 7 && Nat.beq (elk (aty (g0 ns)).1) (g1 ns) && !Nat.beq (g0 ns) 61
  | .lastore => Nat.beq n 1
  | .arraylength => Nat.beq n 1 && arb (g0 ns) (aty (g0 ns)).1 (i0 is) && Nat.ble (aty (g0 ns)).1 7
  | .ifCond _ o => Nat.beq n 3 && gtb pc o (g0 ns)
  | .if_icmp _ o => Nat.beq n 3 && gtb pc o (g0 ns)
  | .ifnull o => Nat.beq n 3 && gtb pc o (g0 ns)
  | .ifnonnull o => Nat.beq n 3 && gtb pc o (g0 ns)
  | .if_acmp _ o => Nat.beq n 3 && gtb pc o (g0 ns)
  | .goto o => Nat.beq n 3 && gtb pc o (g0 ns)
  | .tableswitch d lo hi offs => gtb pc d (g0 ns) && tsb pc lo offs.toList is ns.tail && decide (lo + (is.length : Int) = hi + 1)
  | .lookupswitch d ps => gtb pc d (g0 ns) && lsb pc ps.toList is ns.tail && (ps.toList.zip (ps.toList.drop 1)).all (fun (a, next) => a.1 < next.1)
  | .ireturn => Nat.beq n 1 && Nat.beq (mrt md).1 0 && (match g0 ns with
    | 0 => decide (mret md ≠ some .boolean)
    | _ => true)
  | .areturn => Nat.beq n 1 && Nat.beq (mrt md).1 2 && Nat.beq (g0 ns) (mrt md).2
  | .return_ => Nat.beq n 1 && Nat.beq (mrt md).1 9
  | .new i => (match ns with
    | 99 :: o :: _ => thb md i o
    | q :: l => akb md i n q l
    | _ => false)
  | .invokevirtual i => ivb md pc i n ns md2 hs
  | .invokestatic i => ivb md pc i n ns md2 hs
  | _ => false
