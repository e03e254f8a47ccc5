/-! Constructors: the object and what it makes, one cell behind the other. -/
def CI (w : Wd) (s : State) (a sz k : Nat) (fs : List Value) (rest : List va_E) (H : Heap) (locs : List Loc) : Prop :=
  va_at w.1 vwCl (a, .inr (k, fs)) H ∧ (∀ (i : Nat) (e : va_E), rest[i]? = some e → va_at w.1 vwCl (sz + i, e) H) ∧ H.size = sz + rest.length ∧ a < sz ∧ s.heap.size = sz ∧ (∀ q : Nat, q < sz → q ≠ a → H[q]? = s.heap[q]?) ∧ ∀ z ∈ locs, z.base = a ∨ sz ≤ z.base
theorem CI.push {w : Wd} {s : State} {a sz k : Nat} {fs : List Value} {rest : List va_E} {H H1 : Heap} {locs : List Loc} (h : CI w s a sz k fs rest H locs) {e : va_E} (e1 : va_at w.1 vwCl (H.size, e) H1) (z1 : H1.size = H.size + 1) (o1 : ∀ q : Nat, q < H.size → H1[q]? = H[q]?) : CI w s a sz k fs (rest ++ [e]) H1 locs := by
  obtain ⟨h1, h2, h3, h4, h5, h6, h7⟩ := h
  refine ⟨h1.kept (o1 _ (by omega)), fun i e9 he => ?_, by rw [z1, h3]; simp; omega, h4, h5, fun q hq hn => (o1 q (by omega)).trans (h6 q hq hn), h7⟩
  by_cases hi : i < rest.length
  · rw [List.getElem?_append_left hi] at he
    exact (h2 i e9 he).kept (o1 _ (by omega))
  · rw [List.getElem?_append_right (by omega)] at he
    have hz : i - rest.length < 1 := (List.getElem?_eq_some_iff.mp he).1
    rw [show i - rest.length = 0 by omega] at he
    cases he
    rw [show sz + i = H.size by omega]
    exact e1
/-- what a constructor's body stands on -/
def KX (p : Program) (s : State) (m : MethodId) (meth : Method) (c : Code) (w : Wd) (own : String) (cc : ByteArray) (nL : Nat) : Prop :=
  p.tables.exec = Jvm.exec ∧ c.code = cc ∧ c.maxLocals = nL ∧ s.vm.findClass own = some m.cls ∧ KW w s ∧ meth.name = "<init>"
/-- the default fields; a new row -/
def dfs (k : Nat) : List Value := (List.range (nfl k)).map (fun j => defaultValue (cTy k j))
def dar (w : Wd) (k : Nat) : va_E := .inl (w.2.1 (aty k).1, ((aty k).2, match (aty k).1 with
  | 0 => .inl (fun _ => 0)
  | 1 => .inl (fun _ => 0)
  | 2 => .inr (.inl (fun _ => 0))
  | _ => .inr (.inr (.inr (.inr (fun _ => none))))))
abbrev Tr := List Value × List va_E
def Pk (w : Wd) (sz a k : Nat) (xs : List Int) (aos : List String) : Array Value → State → Prop := fun args U =>
  args = (Value.ref a :: xs.map (fun v => Value.int (i32 v))).toArray ∧ va_at w.1 vwCl (a, .inr (k, dfs k)) U.heap ∧ U.heap.size = sz ∧ a < sz ∧ KW w U ∧ ∀ C ∈ aos, va_AO C U
def Qk (w : Wd) (sz a k : Nat) (T : Tr) : Array Value → State → Outcome → State → Prop := fun _ st o u =>
  o = .returned none ∧ va_at w.1 vwCl (a, .inr (k, T.1)) u.heap ∧ (∀ (i : Nat) (e : va_E), T.2[i]? = some e → va_at w.1 vwCl (sz + i, e) u.heap) ∧ u.heap.size = sz + T.2.length ∧ ∀ q : Nat, q < sz → q ≠ a → u.heap[q]? = st.heap[q]?
abbrev fK (sz a : Nat) : Addr → Prop := fun q => q = a ∨ sz ≤ q
/-- a constructor's contract -/
def CT (k : Nat) (y : MethodName) (cc : ByteArray) (nL np fr lo ms : Nat) (aos : List String) (tr : Wd → Nat → List Int → Tr) : Prop :=
  ∀ (l : Launch) (w : Wd) (sz a : Nat) (xs : List Int), xs.length = np →
    Met l y [.code y cc nL none] { frames := fr, cells := (tr w sz xs).2.length, slots := ms, locals := lo } (Pk w sz a k xs aos) (Qk w sz a k (tr w sz xs)) (tr w sz xs).2.length ms (fK sz a)
theorem Pk.blind (w : Wd) (sz a k : Nat) (xs : List Int) (aos : List String) : FrameBlind (Pk w sz a k xs aos) := by
  intro a9 U g mk h
  obtain ⟨h1, h2, h3, h4, h5, h6⟩ := h
  exact ⟨h1, h2, h3, h4, KW.warm (s := U) (U := U.calling g mk a9) h5 (State.WarmedH.refl U), fun C hC => va_AO.moved (u := U) (U := U.calling g mk a9) (Vm.Alike.refl U.vm) (h6 C hC)⟩
section CTOR
variable {p : Program} {l : Launch} {e : Env} {R : Room} {s : State} {m : MethodId} {args : Array Value} {below : List Frame} {meth : Method} {c : Code} {H : Heap} {locs : List Loc} {cells slots : Nat} {Q : State → Prop}
variable {w : Wd} {own : String} {cc : ByteArray} {nL a sz k pc i : Nat} {fs : List Value} {rest : List va_E} {ls : Array Slot} {sk : List Value}
theorem ct_put (hk : KX p s m meth c w own cc nL) {j : Nat} {v : Value} {ty : FieldType} (hI : CI w s a sz k fs rest H locs) (hdg : decode cc pc = .ok (.putfield i, 3)) (hq : k ≤ 12) (hj : j < nfl k) (hl : Cond.fieldLink own i (cT k j).1 (cT k j).2.1 (cT k j).2.2.1 ∈ TW)
    (hd : parseFieldDescriptor (cT k j).2.2.1 = some ty) (hn : narrow ty v = v) (hfit : fits ty v = true) (hfs : j < fs.length) (hdecl : (cT k j).1 = own)
    (kk : ∀ (H1 : Heap) (locs1 : List Loc), CI w s a sz k (fs.set j v) rest H1 locs1 → W p l e R s m args below meth c H1 locs1 cells slots Q (F0 m (pc + 3) ls sk)) : W p l e R s m args below meth c H locs cells slots Q (F0 m pc ls (v :: .ref a :: sk)) := by
  obtain ⟨hx, hb, hml, hown, hkw, hin⟩ := hk
  obtain ⟨ha, h2, h3, h4, h5, h6, h7⟩ := hI
  have hts : ∀ w' ∈ TW, w'.before args s = true := fun w' h => hkw.2.1.at h _
  have hap := va_apart (own := own) hts (cl_words hq) (cTy k) (cl_ty hq) (cl_nm hq) hkw.1 (cl_at hq)
  obtain ⟨r9, h1, cell, q1, q2, q3, q4⟩ := ha
  have hr : r9 = (cNm k, cT k, nfl k) := Option.some.inj (h1.symm.trans (cl_at hq))
  subst hr
  obtain ⟨hS, hfc, kC, hkC, hkind⟩ := hkw.1.1 k _ (cl_at hq)
  obtain ⟨cf, kf, fi, f, hi, hsl⟩ := hS j hj
  have hlay := hts _ (cl_words hq _ (u_in_lay hj))
  have hst := (u_facts hfc hkC (u_lays hts (cl_words hq) hj) hi).1
  have fin : ∀ H' : Heap, H'[a]? = some (cell.setSlot f.slot v) → H'.size = H.size → (∀ q', q' ≠ a → H'[q']? = H[q']?) → W p l e R s m args below meth c H' (locs ++ [⟨a, f.slot⟩]) cells slots Q (F0 m (pc + 3) ls sk) := fun H' e1 e2 e3 => by
    rw [hsl] at e1
    refine kk H' _ ⟨⟨_, cl_at hq, t_OB.to (V := updV (vp_V fs) j v) ⟨_, e1, q2, q3, t_set q4 hap hj v⟩ (fun j9 _ => vp_updV_set hfs v j9)⟩, fun i9 e9 he => (h2 i9 e9 he).kept (e3 _ (by show sz + i9 ≠ a; omega)), by omega, h4, h5, fun q hq9 hn9 => (e3 q hn9).trans (h6 q hq9 hn9), fun z hz => ?_⟩
    rcases List.mem_append.mp hz with hz | hz
    · exact h7 z hz
    · rw [List.mem_singleton.mp hz]; exact Or.inl rfl
  cases hfin : (cT k j).2.2.2 with
  | true =>
    unfold u_lay at hlay
    rw [if_pos hfin] at hlay
    have hcf : m.cls = cf := by
      obtain ⟨_, _, c', _, _, _, -, -, hf', -, -, -, hown2, -⟩ := Cond.laysFinal_spec hlay
      have e1 : c' = cf := by have := hi.symm.trans hf'; simp at this; exact this.1.symm
      rw [hdecl] at hown2
      rw [← e1]; exact Option.some.inj (hown.symm.trans hown2)
    have h6 := u_fits hfc hkC hkind (Or.inr hlay) hi hd hn hfit
    exact W.putFinK hx hb hown (hts _ hl) hi hst hcf hin (by rw [q2]; exact h6) q1 q3 (by rw [hsl]; exact k2_hasslot (q4 j hj)) rfl rfl hdg fin
  | false =>
    unfold u_lay at hlay
    rw [if_neg (by rw [hfin]; decide)] at hlay
    have h6 := u_store hfc hkC hkind hlay hi hd hn hfit
    exact W.putK hx hb (f := f) ⟨hown, hts _ hl, ⟨_, _, _, hi⟩, hst⟩ (by rw [q2]; exact h6) q1 q3 (by rw [hsl]; exact k2_hasslot (q4 j hj)) rfl rfl hdg fin
/-- an array of numbers is made -/
theorem ct_newa (hk : KX p s m meth c w own cc nL) {atype : ArrayType} {ty : FieldType} {k2 t N' : Nat} {n : Int32} (hI : CI w s a sz k fs rest H locs) (hdg : decode cc pc = .ok (.newarray atype, 2)) (hty : newarray.typeOf atype = ty) (harr : Cond.arrayClass ty ∈ TW)
    (hy : aty k2 = (t, N')) (ht : (tyl w)[t]? = some (w.2.1 t, ty)) (hra : ∀ U cA, va_RA U cA ty ↔ U.vm.findClass ("[" ++ ty.toString) = some cA) (hda : ∀ cA : ClassId, (match dar w k2 with
      | .inl x => vp_cell cA x.2
      | .inr _ => vp_cell cA (0, .inl (fun _ => 0))) = arrV cA N' (fun _ => defaultValue ty)) (hn : ¬ n < 0) (hN : n.toNatClampNeg = N') (hbytes : N' * componentBytes ty ≤ 536870912) (hcells : cells + 1 ≤ R.cells) (hslots : slots + N' ≤ R.slots)
    (kk : ∀ H1, CI w s a sz k fs (rest ++ [dar w k2]) H1 locs → W p l e R s m args below meth c H1 locs (cells + 1) (slots + N') Q (F0 m (pc + 2) ls (.ref (sz + rest.length) :: sk))) : W p l e R s m args below meth c H locs cells slots Q (F0 m pc ls (.int n :: sk)) := by
  subst hty
  obtain ⟨hx, hb, hml, hown, hkw, hin⟩ := hk
  have h3 := hI.2.2.1
  refine va_newaK hx hb (hkw.2.1.at harr _) rfl hdg rfl hn hN hbytes hcells hslots rfl fun H1 cA e1 z1 o1 hAr hNm => ?_
  have hcA : cA = w.2.1 t := by
    have h9 := (hra s (w.2.1 t)).mp ((hkw.1.2 t _ ht).2)
    exact Option.some.inj (hNm.symm.trans h9)
  rw [show (Value.ref H.size : Value) = .ref (sz + rest.length) by rw [h3]]
  refine kk H1 (hI.push ?_ z1 o1)
  have h9 := hda cA
  have e9 : dar w k2 = .inl (w.2.1 t, (N', match (aty k2).1 with
    | 0 => .inl (fun _ => 0)
    | 1 => .inl (fun _ => 0)
    | 2 => .inr (.inl (fun _ => 0))
    | _ => .inr (.inr (.inr (.inr (fun _ => none)))))) := by unfold dar; rw [hy]
  rw [e9] at h9 ⊢
  show H1[H.size]? = some (vp_cell _ _)
  rw [← hcA]
  rw [show vp_cell cA (N', _) = arrV cA N' (fun _ => defaultValue (newarray.typeOf atype)) from h9]
  exact e1
/-- an array of references is made -/
theorem ct_newr (hk : KX p s m meth c w own cc nL) {C : String} {k2 t N' : Nat} {n : Int32} (hI : CI w s a sz k fs rest H locs) (hdg : decode cc pc = .ok (.anewarray i, 3)) (hcl : Cond.classLink own i C ∈ TW) (hao : va_AO C s) (hy : aty k2 = (t, N')) (ht7 : 3 ≤ t ∧ t ≤ 7) (hC : ecl t = C)
    (hn : ¬ n < 0) (hN : n.toNatClampNeg = N') (hbytes : N' * 4 ≤ 536870912) (hcells : cells + 1 ≤ R.cells) (hslots : slots + N' ≤ R.slots)
    (kk : ∀ H1, CI w s a sz k fs (rest ++ [dar w k2]) H1 locs → W p l e R s m args below meth c H1 locs (cells + 1) (slots + N') Q (F0 m (pc + 3) ls (.ref (sz + rest.length) :: sk))) : W p l e R s m args below meth c H locs cells slots Q (F0 m pc ls (.int n :: sk)) := by
  subst hN
  subst hC
  obtain ⟨hx, hb, hml, hown, hkw, hin⟩ := hk
  have h3 := hI.2.2.1
  refine W.anew hx hb hown (hkw.2.1.at hcl _) (va_AO.use hao) rfl hdg rfl hn hbytes hcells hslots fun cA kA comp f1 f2 f3 f4 => ?_
  have hcA : cA = w.2.1 t := by
    obtain ⟨-, kA9, comp9, -, -, -, h9⟩ := hkw.1.2 t _ (tyl_at w ht7)
    exact Option.some.inj (f1.symm.trans h9)
  rw [show (Value.ref H.size : Value) = .ref (sz + rest.length) by rw [h3]]
  refine kk _ (hI.push ?_ (Array.size_push ..) (fun q hq => by rw [Array.getElem?_push, if_neg (Nat.ne_of_lt hq)]))
  have e9 : dar w k2 = .inl (w.2.1 t, (n.toNatClampNeg, .inr (.inr (.inr (.inr (fun _ => none)))))) := by
    unfold dar
    rw [hy]
    have : t = 3 ∨ t = 4 ∨ t = 5 ∨ t = 6 ∨ t = 7 := by omega
    rcases this with rfl | rfl | rfl | rfl | rfl <;> rfl
  rw [e9]
  show _ = some (vp_cell _ _)
  rw [Array.getElem?_push_size, vp_cell_q, ← arrV_new, hcA]
  rfl
/-- an object is made -/
theorem ct_new (hk : KX p s m meth c w own cc nL) {k2 : Nat} (hI : CI w s a sz k fs rest H locs) (hdg : decode cc pc = .ok (.new i, 3)) (hq : k2 ≤ 12) (hcl : Cond.classLink own i (cNm k2) ∈ TW) (hins : Cond.instantiable (cNm k2) (nfl k2) ∈ TW) (hini : Cond.initialized (cNm k2) ∈ TW) (hcells : cells + 1 ≤ R.cells) (hslots : slots + nfl k2 ≤ R.slots)
    (kk : ∀ H1, CI w s a sz k fs (rest ++ [.inr (k2, dfs k2)]) H1 locs → W p l e R s m args below meth c H1 locs (cells + 1) (slots + nfl k2) Q (F0 m (pc + 3) ls (.ref (sz + rest.length) :: sk))) : W p l e R s m args below meth c H locs cells slots Q (F0 m pc ls sk) := by
  obtain ⟨hx, hb, hml, hown, hkw, hin⟩ := hk
  have h3 := hI.2.2.1
  have hts : ∀ w' ∈ TW, w'.before args s = true := fun w' h => hkw.2.1.at h _
  have hKn := hkw.1.1 k2 _ (cl_at hq)
  refine W.newcK hx hb hown (hts _ hcl) (hts _ hins) (hts _ hini) rfl hdg hcells hslots hKn.2.1 rfl fun H1 kC hkC e1 z1 o1 => ?_
  rw [show (Value.ref H.size : Value) = .ref (sz + rest.length) by rw [h3]]
  refine kk H1 (hI.push ?_ z1 o1)
  refine ⟨_, cl_at hq, (u_born (cTy k2) hts (cl_words hq) hKn hkC e1 (cl_ty hq)).to (fun j hj => ?_)⟩
  have hj : j < nfl k2 := hj
  simp [vp_V, dfs, List.getD, hj]
/-- .. and its constructor runs -/
theorem ct_call (hk : KX p s m meth c w own cc nL) {k2 np nL2 fr lo ms : Nat} {y2 : MethodName} {cc2 : ByteArray} {aos : List String} {tr : Wd → Nat → List Int → Tr} {xs : List Int} {vs : List Value} (hT : CT k2 y2 cc2 nL2 np fr lo ms aos tr) (hI : CI w s a sz k fs (rest ++ [.inr (k2, dfs k2)]) H locs) (hdg : decode cc pc = .ok (.invokespecial i, 3))
    (hsz : ls.size = nL) (hxs : xs.length = np) (hvs : vs = (xs.map (fun v => Value.int (i32 v))).reverse) (hao : ∀ C ∈ aos, va_AO C s) (hm : Cond.methodLink own i y2 ∈ TW) (hcode : Cond.code y2 cc2 nL2 none ∈ TW) (hini : Cond.initialized y2.cls ∈ TW) (hinst : Cond.instanceMethod y2 ∈ TW) (hyn : y2.name = "<init>")
    (hy : y2.cls ≠ "java/lang/invoke/MethodHandle" ∧ y2.cls ≠ "java/lang/invoke/VarHandle") (hsig : ∀ sig, parseMethodDescriptor y2.desc = some sig → np = sig.parameters.length) (hcat : (sk.map fun v => v.category).sum ≤ 8) (hfr : fr + 1 ≤ R.frames) (hlo : 8 + (nL2 + 11) + lo ≤ R.locals)
    (hc9 : cells + (tr w (sz + rest.length + 1) xs).2.length ≤ R.cells) (hs9 : slots + ms ≤ R.slots)
    (kk : ∀ H1 locs1, CI w s a sz k fs (rest ++ .inr (k2, (tr w (sz + rest.length + 1) xs).1) :: (tr w (sz + rest.length + 1) xs).2) H1 locs1 → W p l e R s m args below meth c H1 locs1 (cells + (tr w (sz + rest.length + 1) xs).2.length) (slots + ms) Q (F0 m (pc + 3) ls sk)) : W p l e R s m args below meth c H locs cells slots Q (F0 m pc ls (vs ++ .ref (sz + rest.length) :: sk)) := by
  obtain ⟨hx, hb, hml, hown, hkw, hin⟩ := hk
  have hts : ∀ w' ∈ TW, w'.before args s = true := fun w' h => hkw.2.1.at h _
  have hM := hT l w (sz + rest.length + 1) (sz + rest.length) xs hxs
  have hCF : CallFix p m c cc nL s args [] own := ⟨hx, hb, hml, hown, fun _ h => nomatch h⟩
  have hI' := hI
  obtain ⟨g1, g2, g3, g4, g5, g6, g7⟩ := hI
  have gb : va_at w.1 vwCl (sz + rest.length, .inr (k2, dfs k2)) H := g2 rest.length _ (by simp)
  have hPS : PreS s H (Pk w (sz + rest.length + 1) (sz + rest.length) k2 xs aos) (.ref (sz + rest.length) :: xs.map (fun v => Value.int (i32 v))) :=
    ⟨Pk.blind _ _ _ _ _ _, fun U hU hW => ⟨rfl, by rw [hU]; exact gb, by rw [hU, g3]; simp; omega, Nat.lt_succ_self _, hkw.warm hW, fun C hC => va_AO.moved hW.alike (hao C hC)⟩⟩
  have hstk : (F0 m pc ls (vs ++ .ref (sz + rest.length) :: sk)).stack = (xs.map (fun v => Value.int (i32 v))).reverse ++ .ref (sz + rest.length) :: sk := by rw [hvs]
  have hrun := va_runI (e := e) (R := R) (below := below) (meth := meth) (locs := locs) (cells := cells) (slots := slots) (n := np) (own := own) (index := i) hCF hM ⟨⟨rfl, rfl, hfr, hlo, fun w9 hw a' U hW => by rw [List.mem_singleton.mp hw]; exact (hkw.2.1.warm hW).at hcode a', List.mem_singleton_self _, hts _ hcode, hts _ hini, hy, hsig, hts _ hm⟩, hyn, hts _ hinst⟩ hPS rfl (by simp [hxs]) hsz hstk (lv_room hcat) hdg ⟨hc9, hs9⟩
  intro T hT9 X
  obtain ⟨v, st₀, u, T', L', h0, X', hL, e1, e2, ⟨ho, f1, f2, f3, f4⟩, st⟩ := hrun T hT9 X
  cases ho
  have hH : T'.heap = u.heap := e1
  have hCI : CI w s a sz k fs (rest ++ .inr (k2, (tr w (sz + rest.length + 1) xs).1) :: (tr w (sz + rest.length + 1) xs).2) T'.heap (locs ++ L') := by
    rw [hH]
    refine ⟨g1.kept ?_, fun i9 e9 he => ?_, by rw [f3]; simp; omega, g4, g5, fun q hq hn => ?_, fun z hz => ?_⟩
    · rw [f4 a (by omega) (by omega), h0]
    · by_cases hi : i9 < rest.length
      · rw [List.getElem?_append_left hi] at he
        have h9 := g2 i9 e9 (by rw [List.getElem?_append_left hi]; exact he)
        refine h9.kept ?_
        show u.heap[sz + i9]? = H[sz + i9]?
        rw [f4 (sz + i9) (by omega) (by omega), h0]
      · rw [List.getElem?_append_right (by omega)] at he
        by_cases hi2 : i9 = rest.length
        · subst hi2
          rw [Nat.sub_self] at he
          cases he
          exact f1
        · obtain ⟨j9, hj9⟩ : ∃ j9, i9 - rest.length = j9 + 1 := ⟨i9 - rest.length - 1, by omega⟩
          rw [hj9] at he
          have h9 := f2 j9 e9 he
          rw [show sz + i9 = sz + rest.length + 1 + j9 by omega]
          exact h9
    · rw [f4 q (by omega) (by omega), h0]; exact g6 q hq hn
    · rcases List.mem_append.mp hz with hz | hz
      · exact g7 z hz
      · rcases hL z hz with h9 | h9
        · right; rw [h9]; omega
        · right; have h9 : sz + rest.length + 1 ≤ z.base := h9; omega
  obtain ⟨t2, a1, b1⟩ := kk T'.heap (locs ++ L') hCI T' rfl X'
  exact ⟨t2, st t2 a1, b1⟩
theorem CI.set {rest : List va_E} {H H1 : Heap} {locs : List Loc} {i9 n9 : Nat} {e : va_E} (h : CI w s a sz k fs rest H locs) (hi : i9 < rest.length) (he : va_at w.1 vwCl (sz + i9, e) H1) (z1 : H1.size = H.size) (o1 : ∀ q : Nat, q ≠ sz + i9 → H1[q]? = H[q]?) : CI w s a sz k fs (rest.set i9 e) H1 (locs ++ [⟨sz + i9, n9⟩]) := by
  obtain ⟨h1, h2, h3, h4, h5, h6, h7⟩ := h
  refine ⟨h1.kept (o1 _ (by show a ≠ _; omega)), fun i e9 he9 => ?_, by rw [z1, h3]; simp, h4, h5, fun q hq hn => (o1 q (by omega)).trans (h6 q hq hn), fun z hz => ?_⟩
  · by_cases e8 : i = i9
    · subst e8
      rw [List.getElem?_set_self hi] at he9
      cases he9
      exact he
    · rw [List.getElem?_set_ne (fun z => e8 z.symm)] at he9
      exact (h2 i e9 he9).kept (o1 _ (by show sz + i ≠ _; omega))
  · rcases List.mem_append.mp hz with hz | hz
    · exact h7 z hz
    · rw [List.mem_singleton.mp hz]; exact Or.inr (by show sz ≤ sz + i9; omega)
theorem ct_get (hk : KX p s m meth c w own cc nL) {j : Nat} {v : Value} (hI : CI w s a sz k fs rest H locs) (hdg : decode cc pc = .ok (.getfield i, 3)) (hq : k ≤ 12) (hj : j < nfl k) (hl : Cond.fieldLink own i (cT k j).1 (cT k j).2.1 (cT k j).2.2.1 ∈ TW) (hv : fs[j]? = some v)
    (kk : W p l e R s m args below meth c H locs cells slots Q (F0 m (pc + 3) ls (v :: sk))) : W p l e R s m args below meth c H locs cells slots Q (F0 m pc ls (.ref a :: sk)) := by
  obtain ⟨hx, hb, hml, hown, hkw, hin⟩ := hk
  exact va_get (ws := [(a, .inr (k, fs))]) hx hb (fun w' h => hkw.2.1.at h _) (cl_words hq) hown hkw.1 (va_P1 hI.1) 0 rfl (cl_at hq) j hj (hkw.2.1.at hl _) (fun _ h => h) hv hdg kk
theorem ct_alen (hk : KX p s m meth c w own cc nL) {i9 t : Nat} {x : vp_A} {ty : FieldType} {v : Int32} (hI : CI w s a sz k fs rest H locs) (hdg : decode cc pc = .ok (.arraylength, 1)) (h1 : rest[i9]? = some (.inl (w.2.1 t, x))) (ht : (tyl w)[t]? = some (w.2.1 t, ty)) (hv : Int32.ofNat x.1 = v)
    (kk : W p l e R s m args below meth c H locs cells slots Q (F0 m (pc + 1) ls (.int v :: sk))) : W p l e R s m args below meth c H locs cells slots Q (F0 m pc ls (.ref (sz + i9) :: sk)) := by
  obtain ⟨hx, hb, hml, hown, hkw, hin⟩ := hk
  exact va_alen (ws := [(sz + i9, .inl (w.2.1 t, x))]) hx hb hkw.1 (va_P1 (hI.2.1 i9 _ h1)) 0 t rfl ht hv hdg kk
theorem ct_aast (hk : KX p s m meth c w own cc nL) {i9 j9 t n : Nat} {f : Nat → Option Nat} {fs2 : List Value} {v : Int32} (hI : CI w s a sz k fs rest H locs) (hdg : decode cc pc = .ok (.aastore, 1)) (he : 3 ≤ t ∧ t ≤ 7) (h1 : rest[i9]? = some (.inl (w.2.1 t, n, .inr (.inr (.inr (.inr f)))))) (h2 : rest[j9]? = some (.inr (elk t, fs2))) (hin : vp_in v n)
    (kk : ∀ H1 locs1, CI w s a sz k fs (rest.set i9 (.inl (w.2.1 t, n, .inr (.inr (.inr (.inr (va_up f v.toNatClampNeg (some (sz + j9))))))))) H1 locs1 → W p l e R s m args below meth c H1 locs1 cells slots Q (F0 m (pc + 1) ls sk)) : W p l e R s m args below meth c H locs cells slots Q (F0 m pc ls (.ref (sz + j9) :: .int v :: .ref (sz + i9) :: sk)) := by
  obtain ⟨hx, hb, hml, hown, hkw, hin9⟩ := hk
  have hat := hI.2.1 i9 _ h1
  have hty := hkw.1.2 t _ (tyl_at w he)
  have hi : i9 < rest.length := (List.getElem?_eq_some_iff.mp h1).1
  obtain ⟨hk12, hcn⟩ := ecl_cl he
  obtain ⟨r', hr', cellV, v1, v2, v3, -⟩ := hI.2.1 j9 _ h2
  have hcls := (hkw.1.1 (elk t) _ (cl_at hk12)).2
  obtain ⟨kA, comp, k1, k2, k3, -⟩ := hty.2
  rw [hcn] at k3
  have hcomp : comp = w.1.1 (elk t) := Option.some.inj (k3.symm.trans hcls.1)
  subst hcomp
  obtain ⟨kC, hkC, -⟩ := hcls.2
  refine W.aast hx hb hat (fun q h => by cases h) (fun h => by cases h) k1 k2 rfl hkC ⟨fun q => hin (Or.inl q), by show _ < (arrV _ _ _).slots.size; rw [arrV_size]; exact Nat.not_le.mp fun q => hin (Or.inr q)⟩ v1 (fun q h => by rw [v3] at h; cases h) (by rw [v2]; exact hkC) (by rw [v2]; exact va_assign hcls) rfl rfl hdg fun H1 e9 z9 oq => ?_
  refine kk H1 _ (hI.set (n9 := v.toNatClampNeg) hi ?_ z9 oq)
  show H1[sz + i9]? = some (vp_cell _ _)
  rw [e9, vp_cell_q, vp_cell_q, arrV_store]
  congr 2
  funext j
  show (if j = v.toNatClampNeg then _ else _) = _
  by_cases hj : j = v.toNatClampNeg
  · rw [if_pos hj, hj, va_up_self]; rfl
  · rw [if_neg hj, va_up_ne _ _ hj]
theorem ct_iast (hk : KX p s m meth c w own cc nL) {i9 n : Nat} {f : Nat → Int32} {v x : Int32} (hI : CI w s a sz k fs rest H locs) (hdg : decode cc pc = .ok (.iastore, 1)) (h1 : rest[i9]? = some (.inl (w.2.1 0, n, .inl f))) (hin : vp_in v n)
    (kk : ∀ H1 locs1, CI w s a sz k fs (rest.set i9 (.inl (w.2.1 0, n, .inl (va_up f v.toNatClampNeg x)))) H1 locs1 → W p l e R s m args below meth c H1 locs1 cells slots Q (F0 m (pc + 1) ls sk)) : W p l e R s m args below meth c H locs cells slots Q (F0 m pc ls (.int x :: .int v :: .ref (sz + i9) :: sk)) := by
  obtain ⟨hx, hb, hml, hown, hkw, hin9⟩ := hk
  have hat := hI.2.1 i9 _ h1
  have hi : i9 < rest.length := (List.getElem?_eq_some_iff.mp h1).1
  refine W.iast hx hb hat ((hkw.1.2 0 _ rfl).1 n (fun j : Nat => .int (f j))) (fun q => by cases q) (by show ¬ (_ ∨ (arrV _ _ _).slots.size ≤ _); rw [arrV_size]; exact hin) rfl rfl hdg fun H1 e9 z9 oq => ?_
  refine kk H1 _ (hI.set (n9 := v.toNatClampNeg) hi ?_ z9 oq)
  show H1[sz + i9]? = some (vp_cell _ _)
  rw [e9, vp_cell_i, vp_cell_i, arrV_store]
  congr 2
  funext j
  show (if j = v.toNatClampNeg then _ else _) = _
  by_cases hj : j = v.toNatClampNeg
  · rw [if_pos hj, hj, va_up_self]
  · rw [if_neg hj, va_up_ne _ _ hj]
/-- a constructor's end -/
theorem ct_end (hk : KX p s m meth c w own cc nL) (hr : meth.sig.returnType = none) (hlocks : meth.locks = false) {T : Tr} {mc ms : Nat} (hI : CI w s a sz k T.1 T.2 H locs) (hdg : decode cc pc = .ok (.return_, 1)) (h1 : cells ≤ mc) (h2 : slots ≤ ms) :
    W p l e R s m args below meth c H locs cells slots (MQ below (Qk w sz a k T) args s mc ms (fK sz a)) (F0 m pc ls []) := by
  obtain ⟨hx, hb, hml, hown, hkw, hin⟩ := hk
  obtain ⟨g1, g2, g3, g4, g5, g6, g7⟩ := hI
  refine W.widen h1 h2 (W.vret hx hb hr (fun t ht hW => ⟨rfl, by rw [ht]; exact g1, fun i e he => by rw [ht]; exact g2 i e he, by rw [ht]; exact g3, fun q hq hn => by rw [ht]; exact g6 q hq hn⟩) g7 hdg hlocks)
/-- the start of a constructor -/
theorem ct_of {y : MethodName} {np fr lo ms : Nat} {aos : List String} {tr : Wd → Nat → List Int → Tr} (hy : plainName y.cls = true) (hn : y.name = "<init>") (hcls : y.cls = own)
    (body : ∀ (l : Launch) (w : Wd) (sz a : Nat) (xs : List Int), xs.length = np → ∀ p e s m below meth c, KX p s m meth c w own cc nL → meth.sig.returnType = none → meth.locks = false → (∀ C ∈ aos, va_AO C s) → CI w s a sz k (dfs k) [] s.heap [] →
      W p l e { frames := fr, cells := (tr w sz xs).2.length, slots := ms, locals := lo } s m (Value.ref a :: xs.map (fun v => Value.int (i32 v))).toArray below meth c s.heap [] 0 0 (MQ below (Qk w sz a k (tr w sz xs)) (Value.ref a :: xs.map (fun v => Value.int (i32 v))).toArray s (tr w sz xs).2.length ms (fK sz a)) (entryFrame m (Value.ref a :: xs.map (fun v => Value.int (i32 v))).toArray nL)) : CT k y cc nL np fr lo ms aos tr := by
  intro l w sz a xs hxs
  refine Met.ofW (cc := cc) (maxL := nL) (ret := none) (ws' := []) hy rfl ?_
  intro p e s m args below meth c s₁ B hml hv
  obtain ⟨rfl, hat, hsz, ha, hkw, hao⟩ := hv
  refine body l w sz a xs hxs p e s m below meth c ⟨B.exec, B.bytes, hml, by rw [← hcls]; exact findClass_of_methodNamed B.named, hkw, ?_⟩ B.returns B.notSynchronized hao ⟨hat, fun i e he => by simp at he, by simp [hsz], ha, hsz, fun q _ _ => rfl, fun z hz => by cases hz⟩
  have h9 := (name_of_methodNamed B.named B.method).1
  rw [h9, hn]
end CTOR
