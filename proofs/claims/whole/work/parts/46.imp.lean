/-! A method's contract out of its blocks. -/
theorem ofWH9 {l : Launch} {y : MethodName} {ws ws' : List Cond} {rm : Room} {Pc : Array Value → State → Prop} {Qc : Array Value → State → Outcome → State → Prop} {mc ms : Nat} {free : Addr → Prop} {cc : ByteArray} {maxL : Nat} {ret : Option FieldType} {hh : List (Nat × Nat × Nat × Nat)}
    (hy : plainName y.cls = true) (hw : ws = Cond.codeWith y cc maxL ret hh :: ws')
    (body : ∀ p e s m args below meth c s₁, BodyLoose p l y (headSpec ws rm) cc maxL ret e s m args below meth c s₁ → c.maxLocals = maxL → Pc args s →
      W p l e (headSpec ws rm).room s m args below meth c s.heap [] 0 0 (MQ below Qc args s mc ms free) (entryFrame m args maxL)) : Met l y ws rm Pc Qc mc ms free := by
  refine MetFree.of_bodyS (code := cc) (maxLocals := maxL) (ret := ret) hy ?_ ?_
  · intro args s m h hn
    obtain ⟨m9, meth, c, hn9, h1, h2, h3, h4, -, h5, h6, -⟩ := Cond.codeWith_spec (atoms_spec (ws := ws) h _ (by rw [hw]; exact List.mem_cons_self))
    cases hn.symm.trans hn9
    exact ⟨meth, c, h1, h2, h3, h4, h5, h6⟩
  · intro p e s m args below meth c s₁ B hml hP _
    have hh0 : s₁.heap = s.heap := by rw [B.state]; rfl
    obtain ⟨t, a1, o, b1, b2, b3⟩ := body p e s m args below meth c s₁ B hml hP s₁ hh0 (Stand.of_body B)
    exact ⟨t, o, a1, b1, b2, ⟨b3.1, b3.2⟩⟩
theorem mkG_pad (ty : Sh) (k : Nat) (xs : List Int) : mkG (ty ++ List.replicate k (7, 0)) xs 0 = mkG ty xs 0 ++ List.replicate k (7, 0, 0) := mkG_app ty k xs 0
theorem all_1 {ty : Sh} (h : ty.all (fun p => !Nat.beq p.1 1) = true) : ∀ p ∈ ty, p.1 ≠ 1 := fun p hp e => by
  have h9 := List.all_eq_true.mp h p hp
  rw [e] at h9
  exact absurd h9 (by decide)
/-- the list of the locals as a method begins -/
abbrev enL (md : MD) (xs : List Int) : List PV := mkG (mps md ++ List.replicate (mnl md - (mps md).length) (7, 0)) xs 0
theorem imp_0 {md : MD} {f : Fn} (hh : mhh md = []) (hent : entb md = true) (hM : ∀ r xs t, f xs t = some r → le9 t r)
    (hW : ∀ r x w z, MC x w md z r → ∀ xs t, f xs t = some r → WA x w z r (mnl md) 0 (enL md xs) [] t) : Impl md f := by
  intro l hl w α t xs r hf
  refine ⟨hM _ _ _ hf, ?_⟩
  split
  · simp only [entb, Bool.and_eq_true] at hent
    obtain ⟨⟨h1, h2⟩, h3, h4⟩ := hent
    have h3 := all_1 h3
    have h4 := Nat.le_of_ble_eq_true h4
    refine vx_ofW (ws' := []) (cc := mby md) (maxL := mnl md) (ret := mret md) h1 (by rw [cwd_nil hh]) ?_
    intro p e s m args below meth c s₁ B hml ht hP
    obtain ⟨⟨vs, rfl, hs⟩, hHR, hKW, hZQ, hwS⟩ := hP
    have hR : (headSpec [cwd md] (rmd md t r)).room = rmd md t r := rfl
    rw [hR]
    have htl : c.exceptionTable.toList = tableOf (mhh md) := by
      rw [hh]
      show _ = []
      cases h9 : c.exceptionTable.toList with
      | nil => rfl
      | cons a b => exact absurd (ht a (by rw [h9]; exact List.mem_cons_self)) (fun h => h)
    have hCX : CX (Cxv p l e (rmd md t r) s m vs.toArray below meth c (vx_MQ below (Qcc w α t md r) (Xcc w α t r) vs.toArray s (ceN r.2.2.2 - ceN t.2) (slN r.2.2.2 - slN t.2) (wS w))) w md (α, t.2, 0, 0) r :=
      ⟨B.exec, B.bytes, hml, findClass_of_methodNamed B.named, hKW, hZQ, ⟨Nat.le_refl _, Nat.le_refl _, by show 0 + _ ≤ _; rw [Nat.zero_add]; exact Nat.le_refl _, by show 0 + _ ≤ _; rw [Nat.zero_add]; exact Nat.le_refl _⟩, B.notSynchronized, hl, hwS, htl⟩
    have hr3 := ret_MQ (p := p) (l := l) (e := e) (s := s) (m := m) (args := vs.toArray) (below := below) (meth := meth) (c := c) (w := w) (md := md) (α := α) (t := t) (r := r) (R := rmd md t r) (Q := vx_MQ below (Qcc w α t md r) (Xcc w α t r) vs.toArray s (ceN r.2.2.2 - ceN t.2) (slN r.2.2.2 - slN t.2) (wS w)) B.exec B.bytes B.returns B.notSynchronized h2
    have hEE : EE (Cxv p l e (rmd md t r) s m vs.toArray below meth c (vx_MQ below (Qcc w α t md r) (Xcc w α t r) vs.toArray s (ceN r.2.2.2 - ceN t.2) (slN r.2.2.2 - slN t.2) (wS w))) w md (α, t.2, 0, 0) r := by
      refine ⟨fun pc α1 H locs cells slots ls hp hd a b c9 d => vx_ret (hr3.1 pc α1 H locs cells slots ls hp hd a b c9 d), fun pc α1 H locs cells slots ls hp hd a b c9 d => vx_ret (hr3.2.1 pc α1 H locs cells slots ls hp hd a b c9 d),
        fun pc α1 H locs cells slots ls hp hd a b => vx_ret (hr3.2.2 pc α1 H locs cells slots ls hp hd a b), ?_, fun h => absurd hh h⟩
      intro pc α1 H locs cells slots ls rest q ce hp _ h0 hce hcv hcl
      obtain ⟨g1, g2, g3, g4, g5⟩ := hp
      refine vx_out (E := exn r.1) (ce := ce) (fun x hx => by rw [htl, hh] at hx; cases hx) B.notSynchronized hce hcv hcl (fun u hu hvm => ⟨⟨α1, h0, rfl, g2, ?_⟩, va_S.F g3 hu⟩) g3.2.2 ?_ ?_
      · rw [hu]; exact HR.moved hvm g1
      · have g4 : cells ≤ 0 + (ceN r.2.2.2 - ceN t.2) := g4
        omega
      · have g5 : slots ≤ 0 + (slN r.2.2.2 - slN t.2) := g5
        omega
    obtain ⟨-, hw⟩ := hW r _ w (α, t.2, 0, 0) ⟨hCX, hl, hEE, thr_ok hl hCX⟩ xs t hf
    rw [lg_entry_eq]
    refine hw α s.heap [] 0 0 _ [] ⟨hHR, XT.same α t.2, va_S.rf, Nat.zero_le _, Nat.zero_le _⟩ ?_ trivial
    rw [enL, mkG_pad]
    have h5 := ent_LR (nL := mnl md) hs (mkG_tag h3) (by rw [mkG_len]; exact h4)
    rw [mkG_len] at h5
    exact h5
  · next h => exact absurd hh h
theorem imp_1 {md : MD} {f : Fn} (hh : mhh md ≠ []) (hent : entb md = true) (hM : ∀ r xs t, f xs t = some r → le9 t r)
    (hW : ∀ r x w z, MC x w md z r → ∀ xs t, f xs t = some r → WA x w z r (mnl md) 0 (enL md xs) [] t) : Impl md f := by
  intro l hl w α t xs r hf
  refine ⟨hM _ _ _ hf, ?_⟩
  split
  · next h => exact absurd h hh
  · intro h0
    simp only [entb, Bool.and_eq_true] at hent
    obtain ⟨⟨h1, h2⟩, h3, h4⟩ := hent
    have h3 := all_1 h3
    have h4 := Nat.le_of_ble_eq_true h4
    refine ofWH9 (ws' := []) (cc := mby md) (maxL := mnl md) (ret := mret md) (hh := mhh md) h1 (by rw [cwd_cons hh]) ?_
    intro p e s m args below meth c s₁ B hml hP
    obtain ⟨⟨vs, rfl, hs⟩, hHR, hKW, hZQ, hwS⟩ := hP
    have hR : (headSpec [cwd md] (rmd md t r)).room = rmd md t r := rfl
    rw [hR]
    have htl : c.exceptionTable.toList = tableOf (mhh md) := by
      have h9 : (cwd md).before vs.toArray s = true := atoms_spec (ws := [cwd md]) B.pre _ (List.mem_singleton_self _)
      rw [cwd_cons hh] at h9
      exact vx_table (x := my md) B h9
    have hCX : CX (Cxv p l e (rmd md t r) s m vs.toArray below meth c (MQ below (Qcc w α t md r) vs.toArray s (ceN r.2.2.2 - ceN t.2) (slN r.2.2.2 - slN t.2) (wS w))) w md (α, t.2, 0, 0) r :=
      ⟨B.exec, B.bytes, hml, findClass_of_methodNamed B.named, hKW, hZQ, ⟨Nat.le_refl _, Nat.le_refl _, by show 0 + _ ≤ _; rw [Nat.zero_add]; exact Nat.le_refl _, by show 0 + _ ≤ _; rw [Nat.zero_add]; exact Nat.le_refl _⟩, B.notSynchronized, hl, hwS, htl⟩
    have hr3 := ret_MQ (p := p) (l := l) (e := e) (s := s) (m := m) (args := vs.toArray) (below := below) (meth := meth) (c := c) (w := w) (md := md) (α := α) (t := t) (r := r) (R := rmd md t r) (Q := MQ below (Qcc w α t md r) vs.toArray s (ceN r.2.2.2 - ceN t.2) (slN r.2.2.2 - slN t.2) (wS w)) B.exec B.bytes B.returns B.notSynchronized h2
    have hEE : EE (Cxv p l e (rmd md t r) s m vs.toArray below meth c (MQ below (Qcc w α t md r) vs.toArray s (ceN r.2.2.2 - ceN t.2) (slN r.2.2.2 - slN t.2) (wS w))) w md (α, t.2, 0, 0) r :=
      ⟨hr3.1, hr3.2.1, hr3.2.2, fun _ _ _ _ _ _ _ _ _ _ _ h9 => absurd h9 hh, fun _ => h0⟩
    have hTT : TT (Cxv p l e (rmd md t r) s m vs.toArray below meth c (MQ below (Qcc w α t md r) vs.toArray s (ceN r.2.2.2 - ceN t.2) (slN r.2.2.2 - slN t.2) (wS w))) w md (α, t.2, 0, 0) r := by
      intro pc i n e9 α1 H locs cells slots ls t hp hd hb hr hsz
      simp only [thb, Bool.and_eq_true] at hb
      exact absurd (List.isEmpty_iff.mp hb.1.1.1.1.1.2) hh
    obtain ⟨-, hw⟩ := hW r _ w (α, t.2, 0, 0) ⟨hCX, hl, hEE, hTT⟩ xs t hf
    rw [lg_entry_eq]
    refine hw α s.heap [] 0 0 _ [] ⟨hHR, XT.same α t.2, va_S.rf, Nat.zero_le _, Nat.zero_le _⟩ ?_ trivial
    rw [enL, mkG_pad]
    have h5 := ent_LR (nL := mnl md) hs (mkG_tag h3) (by rw [mkG_len]; exact h4)
    rw [mkG_len] at h5
    exact h5
theorem ent_B {md : MD} {g : Fn} {kk : Nat → Co} {rr : Co → List Rw} {lt : Sh} {f : Co → List Int → List Int → St → Res} (hent : entb md = true) (h0 : kk 0 = nk) (h1 : ∀ n, kk (n + 1) = fam (rr (kk n)) nk)
    (hp : ∀ r kb, RsB md r kb (rr kb)) (hr : ∀ kb, ∃ rows, rr kb = (0, lt, [], f kb) :: rows) (n : Nat) (xs9 : List Int → List Int) (hg : ∀ xs s, g xs s = f (kk n) (xs9 xs) [] s) (hw : ∀ xs, wkl (enL md xs) (mkG lt (xs9 xs) 0)) : Impl md g := by
  have a1 : ∀ r xs t, g xs t = some r → le9 t r := fun r xs t h => by
    obtain ⟨k1, -⟩ := fuel_B h0 h1 (fun kb => hp r kb) n
    obtain ⟨rows, e⟩ := hr (kk n)
    have h2 := (hp r (kk n)).1 k1
    rw [e] at h2
    exact h2 _ List.mem_cons_self (xs9 xs) [] t ((hg xs t).symm.trans h)
  have a2 : ∀ r x w z, MC x w md z r → ∀ xs t, g xs t = some r → WA x w z r (mnl md) 0 (enL md xs) [] t := fun r x w z hM xs t h => by
    obtain ⟨-, k2⟩ := fuel_B h0 h1 (fun kb => hp r kb) n
    obtain ⟨rows, e⟩ := hr (kk n)
    have h2 := (hp r (kk n)).2 x w z hM (k2 x w z hM)
    rw [e] at h2
    obtain ⟨-, h3⟩ := h2 _ List.mem_cons_self
    obtain ⟨hm, hw9⟩ := h3 (xs9 xs) [] t ((hg xs t).symm.trans h)
    exact ⟨hm, fun α H locs cells slots ls sk hp9 hl hs => hw9 α H locs cells slots ls sk hp9 (hl.weak (hw xs)) hs⟩
  by_cases hh : mhh md = []
  · exact imp_0 hh hent a1 a2
  · exact imp_1 hh hent a1 a2
