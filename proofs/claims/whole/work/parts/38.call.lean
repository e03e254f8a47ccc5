/-! Calls. -/
def mkG : Sh → List Int → Nat → List PV
  | [], _, _ => []
  | (t, k) :: ty, xs, i => match Nat.beq t 7 with
    | true => (7, 0, 0) :: mkG ty xs i
    | false => (t, k, xs.getD i 0) :: mkG ty xs (i + 1)
/-- the second tells no more than the first -/
def coer (a b : PV) : Prop := a = b ∨ (a.1 = 3 ∧ b = (2, a.2))
theorem cR.coer {w : Wd} {α : Al} {N : Cn} {a b : PV} {v : Value} (h : coer a b) (hv : cR w α N a v) : cR w α N b v := by
  rcases h with rfl | ⟨h, rfl⟩
  · exact hv
  · obtain ⟨t, k, x⟩ := a
    have h : t = 3 := h
    subst h
    exact ⟨by have := hv.1; omega, hv.2.1, by rw [rf_pos hv.1]; exact hv.2.2⟩
theorem shp_cons {t k t' k' : Nat} {x : Int} {ty : Sh} {l : List PV} {xs : List Int} (h : shpH ((t, k) :: ty) ((t', k', x) :: l) = some xs) :
    (t = 7 ∧ shpH ty l = some xs) ∨ (t ≠ 7 ∧ coer (t', k', x) (t, k, x) ∧ ∃ ys, shpH ty l = some ys ∧ xs = x :: ys) := by
  unfold shpH at h
  split at h
  · next e => exact Or.inl ⟨Nat.eq_of_beq_eq_true e, h⟩
  · next e =>
    split at h
    · next e2 =>
      split at h
      · next ys e3 =>
        cases h
        refine Or.inr ⟨fun z => ?_, ?_, ys, e3, rfl⟩
        · rw [z] at e; cases e
        · simp only [Bool.and_eq_true, Bool.or_eq_true] at e2
          obtain ⟨e4, e5⟩ := e2
          have e5 := Nat.eq_of_beq_eq_true e5
          subst e5
          rcases e4 with e4 | ⟨e4, e6⟩
          · have e4 := Nat.eq_of_beq_eq_true e4
            subst e4; exact Or.inl rfl
          · have e4 := Nat.eq_of_beq_eq_true e4
            have e6 := Nat.eq_of_beq_eq_true e6
            subst e4; subst e6; exact Or.inr ⟨rfl, rfl⟩
      · cases h
    · cases h
theorem getD_mid (pre ys : List Int) (x : Int) : (pre ++ x :: ys).getD pre.length 0 = x := by simp [List.getD]
theorem shp_mk : ∀ {ty : Sh} {l : List PV} {xs : List Int}, shpH ty l = some xs → ∀ pre : List Int, (mkG ty (pre ++ xs) pre.length).length = l.length ∧ ∀ i, (nth (mkG ty (pre ++ xs) pre.length) i).1 = 7 ∨ coer (nth l i) (nth (mkG ty (pre ++ xs) pre.length) i)
  | [], [], _, _, _ => ⟨rfl, fun _ => Or.inl rfl⟩
  | [], _ :: _, _, h, _ => by cases h
  | _ :: _, [], _, h, _ => by cases h
  | (t, k) :: ty, (t', k', x) :: l, xs, h, pre => by
    rcases shp_cons h with ⟨rfl, h9⟩ | ⟨h7, hc, ys, h9, rfl⟩
    · obtain ⟨h1, h2⟩ := shp_mk h9 pre
      refine ⟨by simp [mkG, h1], fun i => ?_⟩
      cases i with
      | zero => exact Or.inl rfl
      | succ i => exact h2 i
    · obtain ⟨h1, h2⟩ := shp_mk h9 (pre ++ [x])
      have e : pre ++ [x] ++ ys = pre ++ x :: ys := by simp
      have e2 : (pre ++ [x]).length = pre.length + 1 := by simp
      rw [e, e2] at h1 h2
      have e7 : Nat.beq t 7 = false := by
        cases hb : Nat.beq t 7 with
        | false => rfl
        | true => exact absurd (Nat.eq_of_beq_eq_true hb) h7
      have em : mkG ((t, k) :: ty) (pre ++ x :: ys) pre.length = (t, k, x) :: mkG ty (pre ++ x :: ys) (pre.length + 1) := by
        simp only [mkG, e7, getD_mid]
      rw [em]
      refine ⟨by simp [h1], fun i => ?_⟩
      cases i with
      | zero => exact Or.inr hc
      | succ i => exact h2 i
theorem shp_SR {w : Wd} {α : Al} {N : Cn} : ∀ {ty : Sh} {l : List PV} {xs : List Int} {vs : List Value}, shpH ty l = some xs → (∀ p ∈ ty, p.1 ≠ 7) → SR w α N l vs → ∀ pre : List Int, SR w α N (mkG ty (pre ++ xs) pre.length) vs
  | [], [], _, vs, _, _, hs, _ => by rw [hs.nil]; trivial
  | [], _ :: _, _, _, h, _, _, _ => by cases h
  | _ :: _, [], _, _, h, _, _, _ => by cases h
  | (t, k) :: ty, (t', k', x) :: l, xs, vs, h, h7, hs, pre => by
    obtain ⟨v, vs', rfl, hv, hs⟩ := hs.cons
    rcases shp_cons h with ⟨e, -⟩ | ⟨e, hc, ys, h9, rfl⟩
    · exact absurd e (h7 (t, k) List.mem_cons_self)
    · have h2 := shp_SR h9 (fun p hp => h7 p (List.mem_cons_of_mem _ hp)) hs (pre ++ [x])
      have e1 : pre ++ [x] ++ ys = pre ++ x :: ys := by simp
      have e2 : (pre ++ [x]).length = pre.length + 1 := by simp
      rw [e1, e2] at h2
      have e7 : Nat.beq t 7 = false := by
        cases hb : Nat.beq t 7 with
        | false => rfl
        | true => exact absurd (Nat.eq_of_beq_eq_true hb) e
      have em : mkG ((t, k) :: ty) (pre ++ x :: ys) pre.length = (t, k, x) :: mkG ty (pre ++ x :: ys) (pre.length + 1) := by
        simp only [mkG, e7, getD_mid]
      rw [em]
      exact ⟨hv.coer hc, h2⟩
theorem shp_LR {w : Wd} {α : Al} {N : Cn} {nL : Nat} {ty : Sh} {L : List PV} {xs : List Int} {ls : Array Slot} (h : shpH ty L = some xs) (hl : LR w α N nL L ls) : LR w α N nL (mkG ty xs 0) ls := by
  obtain ⟨h1, h2⟩ := shp_mk h []
  obtain ⟨g1, l, g2, g3, g4⟩ := hl
  refine ⟨h1.trans g1, l, g2, g3, fun i hi => ?_⟩
  rcases h2 i with e | e
  · exact absurd e hi
  · obtain ⟨v, hm, hv⟩ := g4 i (by
      rcases e with e | ⟨e, -⟩
      · rw [e]; exact hi
      · rw [e]; simp)
    exact ⟨v, hm, hv.coer e⟩
theorem spl_some : ∀ {n : Nat} {a S b S' : List PV}, spl n a S = some (b, S') → ∃ c, S = c ++ S' ∧ c.length = n ∧ b = c.reverse ++ a
  | 0, a, S, b, S', h => by
    have h : some (a, S) = some (b, S') := h
    cases h
    exact ⟨[], rfl, rfl, rfl⟩
  | n + 1, a, [], b, S', h => by cases h
  | n + 1, a, v :: S, b, S', h => by
    obtain ⟨c, h1, h2, h3⟩ := spl_some (n := n) (a := v :: a) h
    exact ⟨v :: c, by rw [h1]; rfl, by simp [h2], by rw [h3]; simp⟩
theorem SR.split {w : Wd} {α : Al} {N : Cn} : ∀ {a b : List PV} {sk : List Value}, SR w α N (a ++ b) sk → ∃ s1 s2, sk = s1 ++ s2 ∧ SR w α N a s1 ∧ SR w α N b s2
  | [], _, sk, h => ⟨[], sk, rfl, trivial, h⟩
  | v :: a, b, sk, h => by
    obtain ⟨u, sk', rfl, h1, h2⟩ := SR.cons h
    obtain ⟨s1, s2, rfl, h3, h4⟩ := SR.split h2
    exact ⟨u :: s1, s2, rfl, ⟨h1, h3⟩, h4⟩
theorem SR.app {w : Wd} {α : Al} {N : Cn} : ∀ {a b : List PV} {s1 s2 : List Value}, SR w α N a s1 → SR w α N b s2 → SR w α N (a ++ b) (s1 ++ s2)
  | [], _, s1, _, h1, h2 => by rw [h1.nil]; exact h2
  | v :: a, b, s1, s2, h1, h2 => by
    obtain ⟨u, s', rfl, h3, h4⟩ := h1.cons
    exact ⟨h3, SR.app h4 h2⟩
theorem SR.rev {w : Wd} {α : Al} {N : Cn} : ∀ {a : List PV} {s1 : List Value}, SR w α N a s1 → SR w α N a.reverse s1.reverse
  | [], s1, h => by rw [h.nil]; trivial
  | v :: a, s1, h => by
    obtain ⟨u, s', rfl, h3, h4⟩ := h.cons
    rw [List.reverse_cons, List.reverse_cons]
    exact (SR.rev h4).app ⟨h3, trivial⟩
theorem SR.len {w : Wd} {α : Al} {N : Cn} : ∀ {a : List PV} {s1 : List Value}, SR w α N a s1 → s1.length = a.length
  | [], s1, h => by rw [h.nil]; rfl
  | v :: a, s1, h => by
    obtain ⟨u, s', rfl, h3, h4⟩ := h.cons
    simp [SR.len h4]
theorem cat_le (v : Value) : v.category ≤ 2 := by cases v <;> simp [Value.category]
theorem cat_sum : ∀ (l : List Value), (l.map fun v => v.category).sum ≤ 2 * l.length
  | [] => by simp
  | v :: l => by
    have h := cat_sum l
    have h2 := cat_le v
    simp only [List.map_cons, List.sum_cons, List.length_cons]
    omega
/-! contracts -/
def cwd (md : MD) : Cond := match mhh md with
  | [] => Cond.code (my md) (mby md) (mnl md) (mret md)
  | hh => Cond.codeWith (my md) (mby md) (mnl md) (mret md) hh
def RV (w : Wd) (α : Al) (N : Cn) (rt : Nat × Nat) (y : Int) (v : Option Value) : Prop := match rt with
  | (9, _) => v = none
  | (t, q) => ∃ u, v = some u ∧ cR w α N (t, q, y) u
def Pcc (w : Wd) (α : Al) (t : St) (md : MD) (xs : List Int) : Array Value → State → Prop := fun a U =>
  (∃ vs : List Value, a = vs.toArray ∧ SR w α t.2 (mkG (mps md) xs 0) vs) ∧ HR w α t U U.heap ∧ KW w U ∧ ZQ w U U.heap ∧ ∀ q : Nat, U.heap.size ≤ q → wS w q
def Qcc (w : Wd) (α : Al) (t : St) (md : MD) (r : Rt) : Array Value → State → Outcome → State → Prop := fun _ st o u =>
  (∃ α' v, r.1 = 0 ∧ XT α α' t.2 r.2.2.2 ∧ HR w α' r.2.2 u u.heap ∧ o = .returned v ∧ RV w α' r.2.2.2 (mrt md) r.2.1 v) ∧ va_F (wS w) st u
def Xcc (w : Wd) (α : Al) (t : St) (r : Rt) : String → State → State → Prop := fun E st u =>
  (∃ α', r.1 ≠ 0 ∧ E = exn r.1 ∧ XT α α' t.2 r.2.2.2 ∧ HR w α' r.2.2 u u.heap) ∧ va_F (wS w) st u
theorem Pcc.blind (w : Wd) (α : Al) (t : St) (md : MD) (xs : List Int) : FrameBlind (Pcc w α t md xs) := by
  intro a U g mk h
  obtain ⟨h1, h2, h3, h4, h5⟩ := h
  exact ⟨h1, HR.moved (u := U) (U := U.calling g mk a) (Vm.Alike.refl U.vm) h2, KW.warm (s := U) (U := U.calling g mk a) h3 (State.WarmedH.refl U), ZQ.kept (u := U) (U := U.calling g mk a) h4 (Vm.Alike.refl U.vm) (fun _ _ _ => rfl), h5⟩
abbrev rmd (md : MD) (t : St) (r : Rt) : Room := { frames := mfr md, cells := ceN r.2.2.2 - ceN t.2, slots := slN r.2.2.2 - slN t.2, locals := mlo md }
/-- a method answers and does what the function says -/
def Impl (md : MD) (f : Fn) : Prop := ∀ (l : Launch), l.flags = flags0 → ∀ (w : Wd) (α : Al) (t : St) (xs : List Int) (r : Rt), f xs t = some r → (∀ k, t.2 k ≤ r.2.2.2 k) ∧
  match mhh md with
  | [] => vx_Met l (my md) [cwd md] (rmd md t r) (Pcc w α t md xs) (Qcc w α t md r) (Xcc w α t r) (ceN r.2.2.2 - ceN t.2) (slN r.2.2.2 - slN t.2) (wS w)
  | _ => r.1 = 0 → Met l (my md) [cwd md] (rmd md t r) (Pcc w α t md xs) (Qcc w α t md r) (ceN r.2.2.2 - ceN t.2) (slN r.2.2.2 - slN t.2) (wS w)
/-- what a method does at its ends -/
def EE (x : Cx) (w : Wd) (md : MD) (z : Bg) (r : Rt) : Prop :=
  (∀ pc α H locs cells slots ls, PT x w z r.2.2 α H locs cells slots → decode (mby md) pc = .ok (.ireturn, 1) → (mrt md).1 = 0 → r.1 = 0 → rg r.2.1 → (mret md = some .boolean → r.2.1 = 0 ∨ r.2.1 = 1) → Wx x H locs cells slots (F0 (xm x) pc ls [.int (i32 r.2.1)])) ∧
  (∀ pc α H locs cells slots ls, PT x w z r.2.2 α H locs cells slots → decode (mby md) pc = .ok (.areturn, 1) → (mrt md).1 = 2 → r.1 = 0 → -1 ≤ r.2.1 → r.2.1 < cnt r.2.2.2 (mrt md).2 → Wx x H locs cells slots (F0 (xm x) pc ls [rf α (mrt md).2 r.2.1])) ∧
  (∀ pc α H locs cells slots ls, PT x w z r.2.2 α H locs cells slots → decode (mby md) pc = .ok (.return_, 1) → (mrt md).1 = 9 → r.1 = 0 → Wx x H locs cells slots (F0 (xm x) pc ls [])) ∧
  (∀ pc α H locs cells slots ls rest q ce, PT x w z r.2.2 α H locs cells slots → mhh md = [] → r.1 ≠ 0 → H[q]? = some ce → ce.vm = .none → (xS x).vm.findClass (exn r.1) = some ce.cls →
    vx_W x.1.1 x.1.2.1 x.1.2.2.1 x.1.2.2.2.1 x.1.2.2.2.2 x.2.1.1 x.2.1.2.1 x.2.1.2.2.1 x.2.1.2.2.2.1 x.2.1.2.2.2.2 H locs cells slots x.2.2 (F0 (xm x) pc ls rest) q) ∧
  (mhh md ≠ [] → r.1 = 0)
/-- a call's static facts -/
def IVK (md : MD) (i : Nat) (md2 : MD) (b : Bool) (ns : List Nat) : Prop :=
  ((my md2).cls ≠ "java/lang/invoke/MethodHandle" ∧ (my md2).cls ≠ "java/lang/invoke/VarHandle" ∧ (parseMethodDescriptor (my md2).desc).map (fun d => d.parameters.length) = some ((mps md2).length - (if b = true then 1 else 0))) ∧
  (mfr md2 + 1 ≤ mfr md ∧ 8 + (mnl md2 + 11) + mlo md2 ≤ mlo md) ∧ cwd md2 ∈ TW ∧ Cond.initialized (my md2).cls ∈ TW ∧ (∀ p ∈ mps md2, p.1 ≠ 7) ∧
  (b = true → mhh md2 = [] ∧ (∃ q ty, mps md2 = (3, q) :: ty ∧ q ≤ 12 ∧ cNm q = (my md2).cls) ∧ Cond.instanceMethod (my md2) ∈ TW ∧ Cond.selects (my md2).cls (my md2) (my md2) ∈ TW) ∧
  (b = false → Cond.static (my md2) ∈ TW) ∧ (ns ≠ [] → mhh md2 = []) ∧ (Cond.methodLink (my md).cls i (my md2) ∈ TW ∨ (mhh md2 = [] ∧ Cond.methodLinkNest (my md).cls i (my md2) "Floatparade" ∈ TW))
/-- the rows of a table of handlers, as a call's numbers tell them -/
def HDL (own : String) (pc : Nat) : List Nat → List (Nat × Nat × Nat × Nat) → Prop
  | [], [] => True
  | e :: g :: ns, (a, b, h, ct) :: hh => (a ≤ pc ∧ pc < b) ∧ h = g ∧ ct ≠ 0 ∧ (1 ≤ e ∧ e ≤ 3) ∧ Cond.classLink own ct (exn e) ∈ TW ∧ Cond.castable (exn e) (exn e) ∈ TW ∧ HDL own pc ns hh
  | _, _ => False
section CALLS
variable {x : Cx} {w : Wd} {md : MD} {z : Bg} {r : Rt} {pc : Nat} {L S : List PV} {t : St} {K : Co} {N : Nx}
theorem PT.step {t1 : St} {α α' : Al} {H H1 : Heap} {locs locs1 : List Loc} {cells slots mc ms : Nat} (hp : PT x w z t α H locs cells slots) (hx : XT α α' t.2 t1.2) (hr : HR w α' t1 (xS x) H1) (hS : va_S (wS w) (xS x).heap H1 locs1)
    (h1 : mc = ceN t1.2 - ceN t.2) (h2 : ms = slN t1.2 - slN t.2) : PT x w z t1 α' H1 locs1 (cells + mc) (slots + ms) := by
  obtain ⟨g1, g2, g3, g4, g5⟩ := hp
  have a1 := ceN_mono g2.1; have a2 := ceN_mono hx.1
  have b1 := slN_mono g2.1; have b2 := slN_mono hx.1
  exact ⟨hr, g2.trans hx, hS, by omega, by omega⟩
/-- behind a call that may throw -/
theorem vrun_ok {α : Al} {H : Heap} {locs : List Loc} {cells slots mc ms : Nat} {ls : Array Slot} {sk rest : List Value} {md2 : MD} {r1 : Rt} {a : Array Value} (hp : PT x w z t α H locs cells slots) (h1 : mc = ceN r1.2.2.2 - ceN t.2) (h2 : ms = slN r1.2.2.2 - slN t.2)
    (hr : vx_Run x.1.1 x.1.2.1 x.1.2.2.1 x.1.2.2.2.1 x.1.2.2.2.2 x.2.1.1 x.2.1.2.1 x.2.1.2.2.1 x.2.1.2.2.2.1 x.2.1.2.2.2.2 H locs cells slots mc ms (F0 (xm x) pc ls sk) rest (Qcc w α t md2 r1 a) (Xcc w α t r1) (wS w))
    (kk : ∀ α' H1 locs1 v, r1.1 = 0 → XT α α' t.2 r1.2.2.2 → PT x w z r1.2.2 α' H1 locs1 (cells + mc) (slots + ms) → RV w α' r1.2.2.2 (mrt md2) r1.2.1 v → Wx x H1 locs1 (cells + mc) (slots + ms) (F0 (xm x) (pc + 3) ls (v.toList ++ rest)))
    (kx : ∀ α' H1 locs1 q ce, r1.1 ≠ 0 → XT α α' t.2 r1.2.2.2 → PT x w z r1.2.2 α' H1 locs1 (cells + mc) (slots + ms) → H1[q]? = some ce → ce.vm = .none → (xS x).vm.findClass (exn r1.1) = some ce.cls →
      vx_W x.1.1 x.1.2.1 x.1.2.2.1 x.1.2.2.2.1 x.1.2.2.2.2 x.2.1.1 x.2.1.2.1 x.2.1.2.2.1 x.2.1.2.2.2.1 x.2.1.2.2.2.2 H1 locs1 (cells + mc) (slots + ms) x.2.2 (F0 (xm x) pc ls rest) q) : Wx x H locs cells slots (F0 (xm x) pc ls sk) := by
  intro T hT X
  rcases hr T hT X with ⟨v, st₀, u, T', L', h0, X', hL, e1, e2, ⟨⟨α', v', r0, hxt, hhr, ho, hrv⟩, hF⟩, st⟩ | ⟨q, st₀, u, T', L', E, ce, h0, X', hL, e1, e2, ⟨⟨α', r0, hE, hxt, hhr⟩, hF⟩, hce, hcv, hcl, st⟩
  · cases ho
    obtain ⟨k1, k2, k3⟩ := vx_keep h0 e1 hp.2.2.1 (fun _ _ h => h) (fun _ h => h) hL hF
    have hh : HR w α' r1.2.2 (xS x) T'.heap := by
      rw [e1]
      exact HR.moved (by rw [← e2]; exact X'.warmed.alike.symm) hhr
    obtain ⟨t2, a1, b1⟩ := kk α' T'.heap (locs ++ L') v r0 hxt (hp.step hxt hh k3 h1 h2) hrv T' rfl X'
    exact ⟨t2, st t2 a1, b1⟩
  · subst hE
    obtain ⟨k1, k2, k3⟩ := vx_keep h0 e1 hp.2.2.1 (fun _ _ h => h) (fun _ h => h) hL hF
    have hh : HR w α' r1.2.2 (xS x) T'.heap := by
      rw [e1]
      exact HR.moved (by rw [← e2]; exact X'.warmed.alike.symm) hhr
    obtain ⟨t2, a1, b1⟩ := kx α' T'.heap (locs ++ L') q ce r0 hxt (hp.step hxt hh k3 h1 h2) (by rw [e1]; exact hce) hcv hcl T' rfl X'
    exact ⟨t2, st.trans a1, b1⟩
/-- behind one that never does -/
theorem nrun_ok {α : Al} {H : Heap} {locs : List Loc} {cells slots mc ms : Nat} {ls : Array Slot} {sk rest : List Value} {md2 : MD} {r1 : Rt} {a : Array Value} (hp : PT x w z t α H locs cells slots) (h1 : mc = ceN r1.2.2.2 - ceN t.2) (h2 : ms = slN r1.2.2.2 - slN t.2)
    (hr : va_Run x.1.1 x.1.2.1 x.1.2.2.1 x.1.2.2.2.1 x.1.2.2.2.2 x.2.1.1 x.2.1.2.1 x.2.1.2.2.1 x.2.1.2.2.2.1 x.2.1.2.2.2.2 H locs cells slots mc ms (F0 (xm x) pc ls sk) rest (Qcc w α t md2 r1 a) (wS w))
    (kk : ∀ α' H1 locs1 v, r1.1 = 0 → XT α α' t.2 r1.2.2.2 → PT x w z r1.2.2 α' H1 locs1 (cells + mc) (slots + ms) → RV w α' r1.2.2.2 (mrt md2) r1.2.1 v → Wx x H1 locs1 (cells + mc) (slots + ms) (F0 (xm x) (pc + 3) ls (v.toList ++ rest))) : Wx x H locs cells slots (F0 (xm x) pc ls sk) := by
  intro T hT X
  obtain ⟨v, st₀, u, T', L', h0, X', hL, e1, e2, ⟨⟨α', v', r0, hxt, hhr, ho, hrv⟩, hF⟩, st⟩ := hr T hT X
  cases ho
  obtain ⟨k1, k2, k3⟩ := vx_keep h0 e1 hp.2.2.1 (fun _ _ h => h) (fun _ h => h) hL hF
  have hh : HR w α' r1.2.2 (xS x) T'.heap := by
    rw [e1]
    exact HR.moved (by rw [← e2]; exact X'.warmed.alike.symm) hhr
  obtain ⟨t2, a1, b1⟩ := kk α' T'.heap (locs ++ L') v r0 hxt (hp.step hxt hh k3 h1 h2) hrv T' rfl X'
  exact ⟨t2, st t2 a1, b1⟩
theorem RV.push {α : Al} {N : Cn} {rt : Nat × Nat} {y : Int} {v : Option Value} {S : List PV} {sk : List Value} (h : RV w α N rt y v) (hs : SR w α N S sk) : SR w α N (res rt y S) (v.toList ++ sk) := by
  obtain ⟨t, q⟩ := rt
  by_cases e : t = 9
  · subst e
    have h' : v = none := h
    rw [h']; exact hs
  · have h' : ∃ u, v = some u ∧ cR w α N (t, q, y) u := by
      unfold RV at h
      split at h
      · next a b e9 => cases e9; exact absurd rfl e
      · next a b hne e9 => cases e9; exact h
    have e2 : res (t, q) y S = (t, q, y) :: S := by
      unfold res
      split
      · next e9 => cases e9; exact absurd rfl e
      · next e9 => cases e9; rfl
    rw [e2]
    obtain ⟨u, rfl, hu⟩ := h'
    exact ⟨hu, hs⟩
end CALLS
