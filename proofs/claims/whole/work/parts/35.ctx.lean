/-! Words that stay while the tables get warmer, and what a method's body stands on. -/
def sw (w : Cond) : Bool := goodWord w || (match w with
  | .castable .. => true
  | .declares _ => true
  | .fieldLinkNest .. => true
  | .methodLinkNest .. => true
  | _ => false)
theorem sw_warm {w : Cond} (h : sw w = true) {s U : State} (hW : s.WarmedH U.vm) {A A' : Array Value} (hb : w.before A s = true) : w.before A' U = true := by
  simp only [sw, Bool.or_eq_true] at h
  rcases h with h | h
  · exact word_at hW (good_of_word h) hb
  · cases w with
    | castable a b => exact va_tabs (u := s.setVm U.vm) (A := A) rfl rfl (by rw [Cond.castable_setVm hW.alike]; exact hb)
    | declares a => exact va_tabs (u := s.setVm U.vm) (A := A) rfl rfl (by rw [Cond.declares_setVm hW.alike]; exact hb)
    | fieldLinkNest a b c d e f => exact va_Nw.use rfl (va_Nw.warmF hW (va_Nw.of rfl hb))
    | methodLinkNest a b c d => exact va_Nw.use rfl (va_Nw.warmM hW (va_Nw.of rfl hb))
    | _ => cases h
def TW : List Cond := lw_tbl.filter sw
def TWk (U : State) : Prop := ∀ w ∈ TW, ∀ A : Array Value, w.before A U = true
theorem TWk.warm {s U : State} (h : TWk s) (hW : s.WarmedH U.vm) : TWk U := fun w hw A => sw_warm (List.mem_filter.mp hw).2 hW (h w hw #[])
def wat (i : Nat) (w : Cond) : Bool := decide (lw_tbl[i]? = some w) && sw w
theorem wat_mem {i : Nat} {w : Cond} (h : wat i w = true) : w ∈ TW := by
  simp only [wat, Bool.and_eq_true, decide_eq_true_eq] at h
  exact List.mem_filter.mpr ⟨List.mem_of_getElem? h.1, h.2⟩
theorem TWk.at {U : State} (h : TWk U) {w : Cond} (hw : w ∈ TW) (A : Array Value) : w.before A U = true := h w hw A
def SOk (U : State) : Prop := ∀ (own : String) (k : Nat) (tx : String), Cond.stringRef own k tx ∈ lw_tbl → ∃ a, vk_R own k tx a U
theorem SOk.warm {s U : State} (h : SOk s) (hW : s.WarmedH U.vm) : SOk U := fun own k tx hm => by
  obtain ⟨a, ha⟩ := h own k tx hm
  exact ⟨a, vk_R.warm hW ha⟩
abbrev tyl (w : Wd) : List (ClassId × FieldType) := [(w.2.1 0, .int), (w.2.1 1, .boolean), (w.2.1 2, .long), (w.2.1 3, .object RX6), (w.2.1 4, .object RX0), (w.2.1 5, .object RX10), (w.2.1 6, .object RX8), (w.2.1 7, .object RX2)]
/-- the exceptions by their numbers -/
def exn (o : Nat) : String := match o with
  | 1 => "java/lang/IllegalArgumentException"
  | 2 => "java/lang/IllegalStateException"
  | _ => "java/lang/IndexOutOfBoundsException"
def NCk (U : State) : Prop := ∀ a b : Nat, 1 ≤ a → a ≤ 3 → 1 ≤ b → b ≤ 3 → a ≠ b → va_Nc (exn a) (exn b) U
def KW (w : Wd) (U : State) : Prop := va_K w.1 vwCl (tyl w) U ∧ TWk U ∧ SOk U ∧ va_AO RX10 U ∧ NCk U
theorem KW.warm {w : Wd} {s U : State} (h : KW w s) (hW : s.WarmedH U.vm) : KW w U := ⟨va_K.moved hW.alike h.1, h.2.1.warm hW, h.2.2.1.warm hW, va_AO.moved hW.alike h.2.2.2.1, fun a b h1 h2 h3 h4 h5 => va_Nc.moved hW.alike (h.2.2.2.2 a b h1 h2 h3 h4 h5)⟩
def ZQ (w : Wd) (U : State) (H : Heap) : Prop := vx_Zq Bundle.tN "UNASSIGNED_STACK" Bundle.steD (wS w) U H ∧ vx_Zq Bundle.tN "SUPPRESSED_SENTINEL" Bundle.listD (wS w) U H
theorem ZQ.kept {w : Wd} {u U : State} {H H1 : Heap} (h : ZQ w u H) (hvm : u.vm.Alike U.vm) (hq : ∀ a : Nat, a < H.size → ¬ wS w a → H1[a]? = H[a]?) : ZQ w U H1 := ⟨vx_Zq.moved hvm (h.1.kept hq), vx_Zq.moved hvm (h.2.kept hq)⟩
abbrev Cx := (Program × Launch × Env × Room × State) × (MethodId × Array Value × List Frame × Method × Code) × (State → Prop)
abbrev xS (x : Cx) : State := x.1.2.2.2.2
abbrev xR (x : Cx) : Room := x.1.2.2.2.1
abbrev xm (x : Cx) : MethodId := x.2.1.1
abbrev xC (x : Cx) : Code := x.2.1.2.2.2.2
abbrev xT (x : Cx) : Method := x.2.1.2.2.2.1
abbrev Wx (x : Cx) (H : Heap) (locs : List Loc) (cells slots : Nat) (g : JFrame) : Prop := W x.1.1 x.1.2.1 x.1.2.2.1 x.1.2.2.2.1 x.1.2.2.2.2 x.2.1.1 x.2.1.2.1 x.2.1.2.2.1 x.2.1.2.2.2.1 x.2.1.2.2.2.2 H locs cells slots x.2.2 g
abbrev mps (md : MD) : Sh := md.1
abbrev mrt (md : MD) : Nat × Nat := md.2.1
abbrev my (md : MD) : MethodName := md.2.2.1
abbrev mby (md : MD) : ByteArray := md.2.2.2.1
abbrev mnl (md : MD) : Nat := md.2.2.2.2.1
abbrev mret (md : MD) : Option FieldType := md.2.2.2.2.2.1
abbrev mfr (md : MD) : Nat := md.2.2.2.2.2.2.1
abbrev mlo (md : MD) : Nat := md.2.2.2.2.2.2.2.1
abbrev mhh (md : MD) : List (Nat × Nat × Nat × Nat) := md.2.2.2.2.2.2.2.2
/-- where a method began: addresses and counts, cells and slots that were made before -/
abbrev Bg := Al × Cn × Nat × Nat
abbrev Rt := Nat × Int × St
def CX (x : Cx) (w : Wd) (md : MD) (z : Bg) (r : Rt) : Prop :=
  x.1.1.tables.exec = Jvm.exec ∧ (xC x).code = mby md ∧ (xC x).maxLocals = mnl md ∧ (xS x).vm.findClass (my md).cls = some (xm x).cls ∧ KW w (xS x) ∧ ZQ w (xS x) (xS x).heap ∧
  (mfr md ≤ (xR x).frames ∧ mlo md ≤ (xR x).locals ∧ z.2.2.1 + (ceN r.2.2.2 - ceN z.2.1) ≤ (xR x).cells ∧ z.2.2.2 + (slN r.2.2.2 - slN z.2.1) ≤ (xR x).slots) ∧
  (xT x).locks = false ∧ x.1.2.1.flags = flags0 ∧ (∀ q : Nat, (xS x).heap.size ≤ q → wS w q) ∧ (xC x).exceptionTable.toList = tableOf (mhh md)
/-- the state t is held at the heap H, somewhere in the body -/
def PT (x : Cx) (w : Wd) (z : Bg) (t : St) (α : Al) (H : Heap) (locs : List Loc) (cells slots : Nat) : Prop :=
  HR w α t (xS x) H ∧ XT z.1 α z.2.1 t.2 ∧ va_S (wS w) (xS x).heap H locs ∧ cells ≤ z.2.2.1 + (ceN t.2 - ceN z.2.1) ∧ slots ≤ z.2.2.2 + (slN t.2 - slN z.2.1)
def WA (x : Cx) (w : Wd) (z : Bg) (r : Rt) (nL : Nat) (pc : Nat) (L S : List PV) (t : St) : Prop :=
  (∀ k, t.2 k ≤ r.2.2.2 k) ∧ ∀ (α : Al) (H : Heap) (locs : List Loc) (cells slots : Nat) (ls : Array Slot) (sk : List Value),
    PT x w z t α H locs cells slots → LR w α t.2 nL L ls → SR w α t.2 S sk → Wx x H locs cells slots (F0 (xm x) pc ls sk)
def Nxt (x : Cx) (w : Wd) (z : Bg) (r : Rt) (nL : Nat) (pc : Nat) (N : Nx) : Prop := ∀ L S t, N L S t = some r → WA x w z r nL pc L S t
def Kon (x : Cx) (w : Wd) (z : Bg) (r : Rt) (nL : Nat) (K : Co) : Prop := ∀ pc L S t, K pc L S t = some r → WA x w z r nL pc L S t
/-! what has been popped -/
theorem pI_some {S : List PV} {k : Int → List PV → Res} {r : Rt} (h : pI S k = some r) : ∃ (q : Nat) (y : Int) (S' : List PV), S = (0, q, y) :: S' ∧ k y S' = some r := by
  unfold pI at h
  split at h
  · exact ⟨_, _, _, rfl, h⟩
  · cases h
theorem pL_some {S : List PV} {k : Int → List PV → Res} {r : Rt} (h : pL S k = some r) : ∃ (q : Nat) (y : Int) (S' : List PV), S = (1, q, y) :: S' ∧ k y S' = some r := by
  unfold pL at h
  split at h
  · exact ⟨_, _, _, rfl, h⟩
  · cases h
theorem pE_some {S : List PV} {k : Res} {r : Rt} (h : pE S k = some r) : S = [] ∧ k = some r := by
  unfold pE at h
  split at h
  · exact ⟨rfl, h⟩
  · cases h
theorem tst_some {b : Bool} {k : Res} {r : Rt} (h : tst b k = some r) : b = true ∧ k = some r := by
  unfold tst at h
  split at h
  · exact ⟨rfl, h⟩
  · cases h
theorem pR_some {S : List PV} {k : Nat → Int → List PV → Res} {r : Rt} (h : pR S k = some r) : ∃ (a q : Nat) (y : Int) (S' : List PV), (a = 2 ∨ a = 3) ∧ S = (a, q, y) :: S' ∧ k q y S' = some r := by
  unfold pR at h
  split at h
  · exact ⟨2, _, _, _, Or.inl rfl, rfl, h⟩
  · exact ⟨3, _, _, _, Or.inr rfl, rfl, h⟩
  · cases h
theorem pO_some {q : Nat} {S : List PV} {k : Int → List PV → Res} {r : Rt} (h : pO q S k = some r) : ∃ (a : Nat) (y : Int) (S' : List PV), (a = 2 ∧ 0 ≤ y ∨ a = 3) ∧ S = (a, q, y) :: S' ∧ k y S' = some r := by
  unfold pO at h
  split at h
  · split at h
    · next e =>
      have e := Nat.eq_of_beq_eq_true e
      subst e
      split at h
      · next h0 => exact ⟨2, _, _, Or.inl ⟨rfl, h0⟩, rfl, h⟩
      · cases h
    · cases h
  · split at h
    · next e =>
      have e := Nat.eq_of_beq_eq_true e
      subst e
      exact ⟨3, _, _, Or.inr rfl, rfl, h⟩
    · cases h
  · cases h
theorem SR.cons {w : Wd} {α : Al} {N : Cn} {t : PV} {S : List PV} {sk : List Value} (h : SR w α N (t :: S) sk) : ∃ v sk', sk = v :: sk' ∧ cR w α N t v ∧ SR w α N S sk' := by
  cases sk with
  | nil => exact absurd h (fun h => h)
  | cons v sk' => exact ⟨v, sk', rfl, h.1, h.2⟩
theorem SR.nil {w : Wd} {α : Al} {N : Cn} {sk : List Value} (h : SR w α N [] sk) : sk = [] := by
  cases sk with
  | nil => rfl
  | cons v sk' => exact absurd h (fun h => h)
theorem SR.int {w : Wd} {α : Al} {N : Cn} {q : Nat} {y : Int} {S : List PV} {sk : List Value} (h : SR w α N ((0, q, y) :: S) sk) : ∃ sk', sk = .int (i32 y) :: sk' ∧ rg y ∧ SR w α N S sk' := by
  obtain ⟨v, sk', rfl, hv, hs⟩ := h.cons
  obtain ⟨h1, rfl⟩ := hv
  exact ⟨sk', rfl, h1, hs⟩
theorem SR.long {w : Wd} {α : Al} {N : Cn} {q : Nat} {y : Int} {S : List PV} {sk : List Value} (h : SR w α N ((1, q, y) :: S) sk) : ∃ sk', sk = .long (Int64.ofInt y) :: sk' ∧ rg y ∧ SR w α N S sk' := by
  obtain ⟨v, sk', rfl, hv, hs⟩ := h.cons
  obtain ⟨h1, rfl⟩ := hv
  exact ⟨sk', rfl, h1, hs⟩
/-- a reference of either tag -/
theorem cR.ref {w : Wd} {α : Al} {N : Cn} {a q : Nat} {y : Int} {v : Value} (ha : a = 2 ∨ a = 3) (h : cR w α N (a, q, y) v) : -1 ≤ y ∧ y < cnt N q ∧ v = rf α q y := by
  rcases ha with rfl | rfl
  · exact h
  · exact ⟨by have := h.1; omega, h.2.1, by rw [rf_pos h.1]; exact h.2.2⟩
theorem cR.obj {w : Wd} {α : Al} {N : Cn} {a q : Nat} {y : Int} {v : Value} (ha : a = 2 ∧ 0 ≤ y ∨ a = 3) (h : cR w α N (a, q, y) v) : lv N q y ∧ v = .ref (α q y) := by
  rcases ha with ⟨rfl, h0⟩ | rfl
  · exact ⟨⟨h0, h.2.1⟩, by rw [← rf_pos h0]; exact h.2.2⟩
  · exact ⟨⟨h.1, h.2.1⟩, h.2.2⟩
theorem SR.ref {w : Wd} {α : Al} {N : Cn} {a q : Nat} {y : Int} {S : List PV} {sk : List Value} (ha : a = 2 ∨ a = 3) (h : SR w α N ((a, q, y) :: S) sk) : ∃ sk', sk = rf α q y :: sk' ∧ -1 ≤ y ∧ y < cnt N q ∧ SR w α N S sk' := by
  obtain ⟨v, sk', rfl, hv, hs⟩ := h.cons
  obtain ⟨h1, h2, rfl⟩ := hv.ref ha
  exact ⟨sk', rfl, h1, h2, hs⟩
theorem SR.obj {w : Wd} {α : Al} {N : Cn} {a q : Nat} {y : Int} {S : List PV} {sk : List Value} (ha : a = 2 ∧ 0 ≤ y ∨ a = 3) (h : SR w α N ((a, q, y) :: S) sk) : ∃ sk', sk = .ref (α q y) :: sk' ∧ lv N q y ∧ SR w α N S sk' := by
  obtain ⟨v, sk', rfl, hv, hs⟩ := h.cons
  obtain ⟨h1, rfl⟩ := hv.obj ha
  exact ⟨sk', rfl, h1, hs⟩
section ROWS
variable {x : Cx} {w : Wd} {md : MD} {z : Bg} {r : Rt} {pc : Nat} {L S : List PV} {t : St} {K : Co} {N : Nx}
/-- a value comes on the stack -/
theorem push_ok {ln : Nat} {v : PV} {u : Value} (hn : Nxt x w z r (mnl md) (pc + ln) N) (h : N L (v :: S) t = some r) (hv : ∀ α, cR w α t.2 v u)
    (row : ∀ {H locs cells slots ls sk}, Wx x H locs cells slots (F0 (xm x) (pc + ln) ls (u :: sk)) → Wx x H locs cells slots (F0 (xm x) pc ls sk)) : WA x w z r (mnl md) pc L S t := by
  obtain ⟨hm, hw⟩ := hn _ _ _ h
  exact ⟨hm, fun α H locs cells slots ls sk hp hl hs => row (hw α H locs cells slots ls (u :: sk) hp hl ⟨hv α, hs⟩)⟩
theorem bin_ok {op : Int → Int → Int} {f : Int32 → Int32 → Int32} (hop : ∀ a b, rg a → rg b → f (i32 a) (i32 b) = i32 (op a b) ∧ rg (op a b)) (hn : Nxt x w z r (mnl md) (pc + 1) N) (h : (pI S fun b S => pI S fun a S => N L ((0, 0, op a b) :: S) t) = some r)
    (row : ∀ {a b : Int32} {H locs cells slots ls sk}, Wx x H locs cells slots (F0 (xm x) (pc + 1) ls (.int (f a b) :: sk)) → Wx x H locs cells slots (F0 (xm x) pc ls (.int b :: .int a :: sk))) : WA x w z r (mnl md) pc L S t := by
  obtain ⟨_, b, S1, rfl, h1⟩ := pI_some h
  clear h
  obtain ⟨_, a, S2, rfl, h⟩ := pI_some h1
  clear h1
  obtain ⟨hm, hw⟩ := hn _ _ _ h
  refine ⟨hm, fun α H locs cells slots ls sk hp hl hs => ?_⟩
  obtain ⟨sk1, rfl, hb, hs⟩ := hs.int
  obtain ⟨sk2, rfl, ha, hs⟩ := hs.int
  obtain ⟨e, he⟩ := hop a b ha hb
  exact row (by rw [e]; exact hw α H locs cells slots ls _ hp hl ⟨⟨he, rfl⟩, hs⟩)
/-- .. that divides -/
theorem div_ok {op : Int → Int → Int} {f : Int32 → Int32 → Int32} (hop : ∀ a b, rg a → rg b → b ≠ 0 → f (i32 a) (i32 b) = i32 (op a b) ∧ rg (op a b)) (hn : Nxt x w z r (mnl md) (pc + 1) N) (h : (pI S fun b S => pI S fun a S => if b = 0 then none else N L ((0, 0, op a b) :: S) t) = some r)
    (row : ∀ {a b : Int32} {H locs cells slots ls sk}, ¬ b = 0 → Wx x H locs cells slots (F0 (xm x) (pc + 1) ls (.int (f a b) :: sk)) → Wx x H locs cells slots (F0 (xm x) pc ls (.int b :: .int a :: sk))) : WA x w z r (mnl md) pc L S t := by
  obtain ⟨_, b, S1, rfl, h1⟩ := pI_some h
  clear h
  obtain ⟨_, a, S2, rfl, h⟩ := pI_some h1
  clear h1
  split at h
  · cases h
  · next h0 =>
    obtain ⟨hm, hw⟩ := hn _ _ _ h
    refine ⟨hm, fun α H locs cells slots ls sk hp hl hs => ?_⟩
    obtain ⟨sk1, rfl, hb, hs⟩ := hs.int
    obtain ⟨sk2, rfl, ha, hs⟩ := hs.int
    obtain ⟨e, he⟩ := hop a b ha hb h0
    exact row (fun q => h0 ((i32_inj hb rg_0).mp (q.trans i32_0.symm))) (by rw [e]; exact hw α H locs cells slots ls _ hp hl ⟨⟨he, rfl⟩, hs⟩)
def cP (c : ClassFile.Cond) (a b : Int32) : Prop := match c with
  | .eq => a = b
  | .ne => ¬ a = b
  | .lt => a < b
  | .ge => b ≤ a
  | .gt => b < a
  | .le => a ≤ b
/-- a branch on a comparison -/
theorem cnd_ok {c : ClassFile.Cond} {a b : Int} {A B : Res} (ha : rg a) (hb : rg b) (h : cnd c a b A B = some r) {P : Prop}
    (hA : A = some r → cP c (i32 a) (i32 b) → P)
    (hB : B = some r → ¬ cP c (i32 a) (i32 b) → P) : P := by
  have e1 := i32_inj ha hb
  have e2 := i32_lt ha hb
  have e3 := i32_lt hb ha
  have e4 := i32_le ha hb
  have e5 := i32_le hb ha
  cases c <;> simp only [cnd] at h <;> split at h <;> next q =>
    first
    | exact hA h (by simp only [cP, e1, e2, e3, e4, e5]; omega)
    | exact hB h (by simp only [cP, e1, e2, e3, e4, e5]; omega)
end ROWS
