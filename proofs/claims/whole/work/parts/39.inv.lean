/-! a call's row -/
theorem wt_cat {w : Wd} {α : Al} {N : Cn} : ∀ {S : List PV} {sk : List Value}, SR w α N S sk → (sk.map fun v => v.category).sum ≤ wt S
  | [], sk, h => by rw [h.nil]; exact Nat.zero_le _
  | (a, q, y) :: S, sk, h => by
    obtain ⟨v, sk', rfl, hv, hs⟩ := h.cons
    have ih := wt_cat hs
    simp only [List.map_cons, List.sum_cons]
    by_cases e : a = 1
    · subst e
      have e2 : wt ((1, q, y) :: S) = wt S + 2 := rfl
      have e3 := cat_le v
      omega
    · have e2 : wt ((a, q, y) :: S) = wt S + 1 := by
        match a, e with
        | 0, _ => rfl
        | 1, e => exact absurd rfl e
        | _ + 2, _ => rfl
      have e3 := hv.cat e
      omega
theorem bnd_some {a : Res} {k : Int → St → Res} {r : Rt} (h : bnd a k = some r) : ∃ o y s, a = some (o, y, s) ∧ (o = 0 ∧ k y s = some r ∨ o ≠ 0 ∧ r = (o, y, s)) := by
  unfold bnd at h
  split at h
  · cases h
  · next o y s =>
    by_cases e : o = 0
    · rw [if_pos e] at h
      exact ⟨o, y, s, rfl, Or.inl ⟨e, h⟩⟩
    · rw [if_neg e] at h
      cases h
      exact ⟨o, y, s, rfl, Or.inr ⟨e, rfl⟩⟩
theorem bn0_some {a : Res} {k : Int → St → Res} {r : Rt} (h : bn0 a k = some r) : ∃ y s, a = some (0, y, s) ∧ k y s = some r := by
  unfold bn0 at h
  split at h
  · cases h
  · next o y s =>
    by_cases e : o = 0
    · rw [if_pos e] at h
      subst e
      exact ⟨y, s, rfl, h⟩
    · rw [if_neg e] at h
      cases h
theorem bnh_some {a : Res} {k : Int → St → Res} {g : Nat → St → Res} {r : Rt} (h : bnh a k g = some r) : ∃ o y s, a = some (o, y, s) ∧ (o = 0 ∧ k y s = some r ∨ o ≠ 0 ∧ g o s = some r) := by
  unfold bnh at h
  split at h
  · cases h
  · next o y s =>
    by_cases e : o = 0
    · rw [if_pos e] at h
      exact ⟨o, y, s, rfl, Or.inl ⟨e, h⟩⟩
    · rw [if_neg e] at h
      exact ⟨o, y, s, rfl, Or.inr ⟨e, h⟩⟩
/-- the arguments, off the stack -/
def ARG (b : Bool) (c a : List PV) : Prop := match b with
  | false => a = c.reverse
  | true => ∃ k q y l, (k = 2 ∧ 0 ≤ y ∨ k = 3) ∧ c.reverse = (k, q, y) :: l ∧ a = (3, q, y) :: l
theorem rcv_some {b : Bool} {c : List PV} {k : List PV → Res} {r : Rt} (h : rcv b c.reverse k = some r) : ∃ a, ARG b c a ∧ k a = some r := by
  unfold rcv at h
  split at h
  · exact ⟨_, rfl, h⟩
  · split at h
    · next q y l e =>
      split at h
      · next h0 => exact ⟨_, ⟨2, q, y, l, Or.inl ⟨rfl, h0⟩, e, rfl⟩, h⟩
      · cases h
    · next q y l e => exact ⟨_, ⟨3, q, y, l, Or.inr rfl, e, rfl⟩, h⟩
    · cases h
theorem inv_some {b : Bool} {ns : List Nat} {f : Fn} {md2 : MD} {L S : List PV} {t : St} {K : Co} {N : Nx} {r : Rt} (h : inv b ns f md2 L S t K N = some r) :
    ∃ c S' a xs o y s', S = c ++ S' ∧ wt S' ≤ 8 ∧ c.length = (mps md2).length ∧ ARG b c a ∧ shpH (mps md2) a = some xs ∧ f xs t = some (o, y, s') ∧
      (o = 0 ∧ N L (res (mrt md2) y S') s' = some r ∨ o ≠ 0 ∧ ns = [] ∧ mhh md2 = [] ∧ r = (o, y, s') ∨ o ≠ 0 ∧ ns ≠ [] ∧ hdl o L s' K ns = some r) := by
  unfold inv at h
  split at h
  · cases h
  · next a0 S' e =>
    obtain ⟨c, e1, e2, e3⟩ := spl_some e
    rw [List.append_nil] at e3
    subst e3
    split at h
    · cases h
    · next e4 =>
      have e4 := Nat.le_of_ble_eq_true e4
      obtain ⟨a, ha, h5⟩ := rcv_some h
      split at h5
      · cases h5
      · next xs e6 =>
        split at h5
        · split at h5
          · next e7 =>
            obtain ⟨o, y, s', hf, hc⟩ := bnd_some h5
            refine ⟨c, S', a, xs, o, y, s', e1, e4, e2, ha, e6, hf, ?_⟩
            rcases hc with ⟨e8, hc⟩ | ⟨e8, hc⟩
            · exact Or.inl ⟨e8, hc⟩
            · exact Or.inr (Or.inl ⟨e8, rfl, e7, hc⟩)
          · obtain ⟨y, s', hf, hc⟩ := bn0_some h5
            exact ⟨c, S', a, xs, 0, y, s', e1, e4, e2, ha, e6, hf, Or.inl ⟨rfl, hc⟩⟩
        · next hne =>
          obtain ⟨o, y, s', hf, hc⟩ := bnh_some h5
          refine ⟨c, S', a, xs, o, y, s', e1, e4, e2, ha, e6, hf, ?_⟩
          rcases hc with ⟨e8, hc⟩ | ⟨e8, hc⟩
          · exact Or.inl ⟨e8, hc⟩
          · exact Or.inr (Or.inr ⟨e8, fun e => hne e, hc⟩)
theorem hdl_some {own : String} {pc o : Nat} {L : List PV} {s : St} {K : Co} {r : Rt} : ∀ {ns : List Nat} {hh : List (Nat × Nat × Nat × Nat)}, HDL own pc ns hh → hdl o L s K ns = some r →
    ∃ pre a b g ct suf, hh = pre ++ (a, b, g, ct) :: suf ∧ (a ≤ pc ∧ pc < b) ∧ ct ≠ 0 ∧ (1 ≤ o ∧ o ≤ 3) ∧ Cond.classLink own ct (exn o) ∈ TW ∧ Cond.castable (exn o) (exn o) ∈ TW ∧ K g L [(8, 0, 0)] s = some r ∧
      ∀ q ∈ pre, q.2.2.2 ≠ 0 ∧ ∃ e, 1 ≤ e ∧ e ≤ 3 ∧ e ≠ o ∧ Cond.classLink own q.2.2.2 (exn e) ∈ TW
  | [], _, _, h => by cases h
  | [_], _, _, h => by cases h
  | e :: g :: ns, [], hd, _ => absurd hd (fun h => h)
  | e :: g :: ns, (a, b, h9, ct) :: hh, hd, h => by
    obtain ⟨h1, h2, h3, h4, h5, h6, h7⟩ := hd
    subst h2
    have h10 : (if o = e then K h9 L [(8, 0, 0)] s else hdl o L s K ns) = some r := h
    by_cases e9 : o = e
    · rw [if_pos e9] at h10
      subst e9
      exact ⟨[], a, b, h9, ct, hh, rfl, h1, h3, h4, h5, h6, h10, fun _ hq => nomatch hq⟩
    · rw [if_neg e9] at h10
      obtain ⟨pre, a2, b2, g2, ct2, suf, i1, i2, i3, i4, i5, i6, i7, i8⟩ := hdl_some h7 h10
      refine ⟨(a, b, h9, ct) :: pre, a2, b2, g2, ct2, suf, by rw [i1]; rfl, i2, i3, i4, i5, i6, i7, fun q hq => ?_⟩
      rcases List.mem_cons.mp hq with hq | hq
      · subst hq
        exact ⟨h3, e, h4.1, h4.2, fun z => e9 z.symm, h5⟩
      · exact i8 q hq
section CALLS2
variable {x : Cx} {w : Wd} {md : MD} {z : Bg} {r : Rt} {pc : Nat} {L S : List PV} {t : St} {K : Co} {N : Nx}
variable {H : Heap} {locs : List Loc} {cells slots : Nat} {ls : Array Slot} {sk : List Value} {α : Al}
theorem PT.pre {md2 : MD} {xs : List Int} {vs : List Value} (hc : CX x w md z r) (hp : PT x w z t α H locs cells slots) (hv : SR w α t.2 (mkG (mps md2) xs 0) vs) : ∀ U : State, U.heap = H → (xS x).WarmedH U.vm → Pcc w α t md2 xs vs.toArray U := by
  obtain ⟨-, -, -, -, hK, hZ, -, -, -, hq, -⟩ := hc
  obtain ⟨g1, g2, g3, -, -⟩ := hp
  intro U hU hW
  refine ⟨⟨vs, rfl, hv⟩, ?_, hK.warm hW, ?_, fun q hq2 => ?_⟩
  · rw [hU]; exact HR.moved hW.alike g1
  · rw [hU]
    exact ZQ.kept (H := (xS x).heap) hZ hW.alike g3.2.1
  · rw [hU] at hq2
    exact hq q (Nat.le_trans g3.1 hq2)
/-- the words of a call -/
theorem IVK.codes {i : Nat} {md2 : MD} {b : Bool} {ns : List Nat} (hv : IVK md i md2 b ns) (hc : CX x w md z r) : (∀ w9 ∈ [cwd md2], ∀ (a' : Array Value) (U : State), (xS x).WarmedH U.vm → w9.before a' U = true) ∧ (∀ A : Array Value, (cwd md2).before A (xS x) = true) := by
  obtain ⟨-, -, h, -⟩ := hv
  obtain ⟨-, -, -, -, ⟨-, hT, -⟩, -⟩ := hc
  exact ⟨fun w9 hw a' U hW => by rw [List.mem_singleton.mp hw]; exact (hT.warm hW).at h a', fun A => hT.at h A⟩
theorem IVK.sig {i : Nat} {md2 : MD} {b : Bool} {ns : List Nat} (hv : IVK md i md2 b ns) : ((my md2).cls ≠ "java/lang/invoke/MethodHandle" ∧ (my md2).cls ≠ "java/lang/invoke/VarHandle") ∧ ∀ sig, parseMethodDescriptor (my md2).desc = some sig → (mps md2).length - (if b = true then 1 else 0) = sig.parameters.length := by
  obtain ⟨⟨h1, h2, h3⟩, -⟩ := hv
  refine ⟨⟨h1, h2⟩, fun sig h => ?_⟩
  rw [h] at h3
  exact (Option.some.inj h3).symm
theorem cwd_nil {md2 : MD} (h : mhh md2 = []) : cwd md2 = Cond.code (my md2) (mby md2) (mnl md2) (mret md2) := by unfold cwd; rw [h]
theorem cwd_cons {md2 : MD} (h : mhh md2 ≠ []) : cwd md2 = Cond.codeWith (my md2) (mby md2) (mnl md2) (mret md2) (mhh md2) := by
  unfold cwd
  split
  · next e => exact absurd e h
  · rfl
/-- an object's cell, for a call on it -/
theorem HR.recv (hc : CX x w md z r) (hr : HR w α t (xS x) H) {q : Nat} {y : Int} (hq : q ≤ 12) (hl : lv t.2 q y) : ∃ cellB : Cell, H[α q y]? = some cellB ∧ cellB.vm.isStatics = false ∧ (xS x).vm.findClass (cNm q) = some cellB.cls := by
  obtain ⟨-, -, -, -, ⟨hK, -⟩, -⟩ := hc
  have h := hr.1 q y hl
  have e : ent w α t q y = .inr (q, (List.range (nfl q)).map (fvl α t q y)) := by
    unfold ent
    rw [Nat.ble_eq.mpr hq]
  rw [e] at h
  obtain ⟨c, h1, cell, h2, h3, h4, -⟩ := h
  have e2 := cl_at hq
  have h1 : vwCl[q]? = some c := h1
  rw [e2] at h1
  cases h1
  have h5 := hK.1 q _ e2
  exact ⟨cell, h2, by rw [h4]; rfl, by rw [h3]; exact h5.2.1⟩
/-- a call of what may throw -/
theorem vcall {b : Bool} {ns : List Nat} {i : Nat} {md2 : MD} {xs : List Int} {r1 : Rt} {vs rest : List Value} (hc : CX x w md z r) (hv : IVK md i md2 b ns) (hh : mhh md2 = []) (hdg : decode (mby md) pc = .ok ((if b = true then .invokevirtual i else .invokestatic i), 3))
    (hM : vx_Met x.1.2.1 (my md2) [cwd md2] (rmd md2 t r1) (Pcc w α t md2 xs) (Qcc w α t md2 r1) (Xcc w α t r1) (ceN r1.2.2.2 - ceN t.2) (slN r1.2.2.2 - slN t.2) (wS w))
    (hp : PT x w z t α H locs cells slots) (hs : SR w α t.2 (mkG (mps md2) xs 0) vs) (hlen : vs.length = (mps md2).length) (hsz : ls.size = mnl md) (hcat : (rest.map fun v => v.category).sum ≤ 8) (hm1 : ∀ k, t.2 k ≤ r1.2.2.2 k) (hm2 : ∀ k, r1.2.2.2 k ≤ r.2.2.2 k)
    (hb : b = true → ∃ q y As, vs = .ref (α q y) :: As ∧ lv t.2 q y ∧ q ≤ 12 ∧ cNm q = (my md2).cls) :
    vx_Run x.1.1 x.1.2.1 x.1.2.2.1 x.1.2.2.2.1 x.1.2.2.2.2 x.2.1.1 x.2.1.2.1 x.2.1.2.2.1 x.2.1.2.2.2.1 x.2.1.2.2.2.2 H locs cells slots (ceN r1.2.2.2 - ceN t.2) (slN r1.2.2.2 - slN t.2) (F0 (xm x) pc ls (vs.reverse ++ rest)) rest (Qcc w α t md2 r1 vs.toArray) (Xcc w α t r1) (wS w) := by
  have hpre := PT.pre (md2 := md2) hc hp hs
  obtain ⟨hws, hcode⟩ := hv.codes hc
  obtain ⟨hy, hsig⟩ := hv.sig
  have hcc := hc
  obtain ⟨hx, hby, hnl, hcl, ⟨hK, hT, -⟩, hZ, ⟨hR1, hR2, hR3, hR4⟩, -⟩ := hc
  obtain ⟨-, ⟨hF1, hF2⟩, hcw, hini, -, hvb, hst, -, hlk⟩ := hv
  have hfit : cells + (ceN r1.2.2.2 - ceN t.2) ≤ (xR x).cells ∧ slots + (slN r1.2.2.2 - slN t.2) ≤ (xR x).slots := by
    obtain ⟨-, g2, -, g4, g5⟩ := hp
    have a1 := ceN_mono g2.1; have a2 := ceN_mono hm1; have a3 := ceN_mono hm2
    have b1 := slN_mono g2.1; have b2 := slN_mono hm1; have b3 := slN_mono hm2
    omega
  have hCF : CallFix x.1.1 (xm x) (xC x) (mby md) (mnl md) (xS x) x.2.1.2.1 [] (my md).cls := ⟨hx, hby, hnl, hcl, fun _ h => nomatch h⟩
  have hcd : Cond.code (my md2) (mby md2) (mnl md2) (mret md2) ∈ [cwd md2] := by rw [cwd_nil hh]; exact List.mem_singleton_self _
  have hcb := hcode x.2.1.2.1
  rw [cwd_nil hh] at hcb
  have hrun : (rmd md2 t r1).frames + 1 ≤ (xR x).frames ∧ 8 + (mnl md2 + 11) + (rmd md2 t r1).locals ≤ (xR x).locals := ⟨Nat.le_trans hF1 hR1, Nat.le_trans hF2 hR2⟩
  cases b with
  | true =>
    obtain ⟨q, y, As, rfl, hl, hq, hnm⟩ := hb rfl
    obtain ⟨-, -, him, hse⟩ := hvb rfl
    have hPV : PreV (xS x) H (my md2).cls (α q y) (Pcc w α t md2 xs) As := ⟨Pcc.blind _ _ _ _ _, by rw [← hnm]; exact HR.recv hcc hp.1 hq hl, hpre⟩
    have hstk : (F0 (xm x) pc ls ((Value.ref (α q y) :: As).reverse ++ rest)).stack = As.reverse ++ .ref (α q y) :: rest := by simp
    have hn : As.length = (mps md2).length - 1 := by simp at hlen; omega
    rcases hlk with hlk | ⟨-, hlk⟩
    · exact vx_runV (C := (my md2).cls) (bytes := mby md2) (maxL := mnl md2) (ret := mret md2) hCF hM ⟨⟨rfl, rfl, hrun.1, hrun.2, hws, hcd, hcb, hT.at hini _, hy, hsig, hT.at hlk _⟩, hT.at him _, hT.at hse _⟩ hPV rfl hn hsz hstk (lv_room hcat) hdg hfit
    · exact vx_runVN (C := (my md2).cls) (host := "Floatparade") (bytes := mby md2) (maxL := mnl md2) (ret := mret md2) hCF hM ⟨⟨⟨rfl, rfl, hrun.1, hrun.2, hws, hcd⟩, hcb, hT.at hini _, hy, hsig, hT.at hlk _⟩, hT.at him _, hT.at hse _⟩ hPV rfl hn hsz hstk (lv_room hcat) hdg hfit
  | false =>
    have hst := hst rfl
    have hPS : PreS (xS x) H (Pcc w α t md2 xs) vs := ⟨Pcc.blind _ _ _ _ _, hpre⟩
    have hn : vs.length = (mps md2).length - 0 := hlen
    rcases hlk with hlk | ⟨-, hlk⟩
    · exact vx_runS (bytes := mby md2) (maxL := mnl md2) (ret := mret md2) hCF hM ⟨⟨rfl, rfl, hrun.1, hrun.2, hws, hcd, hcb, hT.at hini _, hy, hsig, hT.at hlk _⟩, hT.at hst _⟩ hPS rfl hn hsz rfl (lv_room hcat) hdg hfit
    · exact vx_runSN (host := "Floatparade") (bytes := mby md2) (maxL := mnl md2) (ret := mret md2) hCF hM ⟨⟨⟨rfl, rfl, hrun.1, hrun.2, hws, hcd⟩, hcb, hT.at hini _, hy, hsig, hT.at hlk _⟩, hT.at hst _, trivial⟩ hPS rfl hn hsz rfl (lv_room hcat) hdg hfit
/-- .. of what has handlers, and never throws -/
theorem ncall {ns : List Nat} {i : Nat} {md2 : MD} {xs : List Int} {r1 : Rt} {vs rest : List Value} (hc : CX x w md z r) (hv : IVK md i md2 false ns) (hh : mhh md2 ≠ []) (hdg : decode (mby md) pc = .ok (.invokestatic i, 3))
    (hM : Met x.1.2.1 (my md2) [cwd md2] (rmd md2 t r1) (Pcc w α t md2 xs) (Qcc w α t md2 r1) (ceN r1.2.2.2 - ceN t.2) (slN r1.2.2.2 - slN t.2) (wS w))
    (hp : PT x w z t α H locs cells slots) (hs : SR w α t.2 (mkG (mps md2) xs 0) vs) (hlen : vs.length = (mps md2).length) (hsz : ls.size = mnl md) (hcat : (rest.map fun v => v.category).sum ≤ 8) (hm1 : ∀ k, t.2 k ≤ r1.2.2.2 k) (hm2 : ∀ k, r1.2.2.2 k ≤ r.2.2.2 k) :
    va_Run x.1.1 x.1.2.1 x.1.2.2.1 x.1.2.2.2.1 x.1.2.2.2.2 x.2.1.1 x.2.1.2.1 x.2.1.2.2.1 x.2.1.2.2.2.1 x.2.1.2.2.2.2 H locs cells slots (ceN r1.2.2.2 - ceN t.2) (slN r1.2.2.2 - slN t.2) (F0 (xm x) pc ls (vs.reverse ++ rest)) rest (Qcc w α t md2 r1 vs.toArray) (wS w) := by
  have hpre := PT.pre (md2 := md2) hc hp hs
  obtain ⟨hws, hcode⟩ := hv.codes hc
  obtain ⟨hy, hsig⟩ := hv.sig
  obtain ⟨hx, hby, hnl, hcl, ⟨hK, hT, -⟩, hZ, ⟨hR1, hR2, hR3, hR4⟩, -⟩ := hc
  obtain ⟨-, ⟨hF1, hF2⟩, hcw, hini, -, hvb, hst, -, hlk⟩ := hv
  have hfit : cells + (ceN r1.2.2.2 - ceN t.2) ≤ (xR x).cells ∧ slots + (slN r1.2.2.2 - slN t.2) ≤ (xR x).slots := by
    obtain ⟨-, g2, -, g4, g5⟩ := hp
    have a1 := ceN_mono g2.1; have a2 := ceN_mono hm1; have a3 := ceN_mono hm2
    have b1 := slN_mono g2.1; have b2 := slN_mono hm1; have b3 := slN_mono hm2
    omega
  have hCF : CallFix x.1.1 (xm x) (xC x) (mby md) (mnl md) (xS x) x.2.1.2.1 [] (my md).cls := ⟨hx, hby, hnl, hcl, fun _ h => nomatch h⟩
  have hcd : Cond.codeWith (my md2) (mby md2) (mnl md2) (mret md2) (mhh md2) ∈ [cwd md2] := by rw [cwd_cons hh]; exact List.mem_singleton_self _
  have hcb := hcode x.2.1.2.1
  rw [cwd_cons hh] at hcb
  have hrun : (rmd md2 t r1).frames + 1 ≤ (xR x).frames ∧ 8 + (mnl md2 + 11) + (rmd md2 t r1).locals ≤ (xR x).locals := ⟨Nat.le_trans hF1 hR1, Nat.le_trans hF2 hR2⟩
  have hst := hst rfl
  have hPS : PreS (xS x) H (Pcc w α t md2 xs) vs := ⟨Pcc.blind _ _ _ _ _, hpre⟩
  have hn : vs.length = (mps md2).length - 0 := hlen
  rcases hlk with hlk | ⟨e, -⟩
  · exact vx_runSW (bytes := mby md2) (maxL := mnl md2) (ret := mret md2) (hh := mhh md2) hCF hM ⟨⟨rfl, rfl, hrun.1, hrun.2, hws, hcd⟩, hcb, hT.at hini _, hy, hsig, hT.at hlk _, hT.at hst _⟩ hPS rfl hn hsz rfl (lv_room hcat) hdg hfit
  · exact absurd e hh
theorem nrm0 {ns : List Nat} (e : ns ≠ []) : ns = [] → False := fun h => e h
/-- where an exception goes from a call -/
theorem thrown_ok {ns : List Nat} {o : Nat} {y : Int} {s' : St} {q : Nat} {ce : Cell} {rest : List Value} (hc : CX x w md z r) (hk : Kon x w z r (mnl md) K) (he : EE x w md z r) (hd : ns ≠ [] → HDL (my md).cls pc ns (mhh md))
    (h : ns = [] ∧ r = (o, y, s') ∧ mhh md = [] ∨ ns ≠ [] ∧ hdl o L s' K ns = some r) (h0 : o ≠ 0) (hp : PT x w z s' α H locs cells slots) (hl : LR w α s'.2 (mnl md) L ls) (hce : H[q]? = some ce) (hcv : ce.vm = .none) (hcl : (xS x).vm.findClass (exn o) = some ce.cls) :
    vx_W x.1.1 x.1.2.1 x.1.2.2.1 x.1.2.2.2.1 x.1.2.2.2.2 x.2.1.1 x.2.1.2.1 x.2.1.2.2.1 x.2.1.2.2.2.1 x.2.1.2.2.2.2 H locs cells slots x.2.2 (F0 (xm x) pc ls rest) q := by
  rcases h with ⟨e1, e2, e3⟩ | ⟨e1, e2⟩
  · subst e2
    exact he.2.2.2.1 pc α H locs cells slots ls rest q ce hp e3 h0 hce hcv hcl
  · obtain ⟨pre, a, b, g, ct, suf, i1, i2, i3, i4, i5, i6, i7, i8⟩ := hdl_some (hd e1) e2
    obtain ⟨-, -, -, hcls, ⟨-, hT, -, -, hN⟩, -, -, -, -, -, htab⟩ := hc
    have hspl : (xC x).exceptionTable.toList = pre.map (fun q => ⟨q.1, q.2.1, q.2.2.1, q.2.2.2⟩) ++ ⟨a, b, g, ct⟩ :: suf.map (fun q => ⟨q.1, q.2.1, q.2.2.1, q.2.2.2⟩) := by
      rw [htab, i1]
      simp [tableOf]
    refine vx_catch (name := exn o) hcls _ _ _ hspl (fun z9 hz => Or.inr ?_) (by simp [covers, i2.1, i2.2]) i3 (hT.at i5 _) (hT.at i6 _) hce hcv hcl ((hk _ _ _ _ i7).2 α H locs cells slots ls _ hp hl ⟨⟨q, rfl⟩, trivial⟩)
    obtain ⟨p9, hp9, rfl⟩ := List.mem_map.mp hz
    obtain ⟨j1, e, j2, j3, j4, j5⟩ := i8 p9 hp9
    exact ⟨j1, exn e, hT.at j5 _, hN o e i4.1 i4.2 j2 j3 (fun z => j4 z.symm)⟩
theorem ARG.sr {b : Bool} {c a : List PV} {s1 : List Value} {w : Wd} {α : Al} {N : Cn} (h : ARG b c a) (hs : SR w α N c s1) : SR w α N a s1.reverse ∧ a.length = c.length ∧ (b = true → ∃ q y l, a = (3, q, y) :: l ∧ lv N q y ∧ ∃ As, s1.reverse = .ref (α q y) :: As) := by
  have hr := hs.rev
  cases b with
  | false =>
    have h : a = c.reverse := h
    subst h
    exact ⟨hr, by simp, fun h => by cases h⟩
  | true =>
    obtain ⟨k, q, y, l, hk, e1, rfl⟩ := h
    rw [e1] at hr
    obtain ⟨As, e2, hl, hA⟩ := hr.obj hk
    have hlen : ((k, q, y) :: l).length = c.length := by rw [← e1]; simp
    rw [e2]
    exact ⟨⟨⟨hl.1, hl.2, rfl⟩, hA⟩, hlen, fun _ => ⟨q, y, l, rfl, hl, As, rfl⟩⟩
theorem shp_hd {ty : Sh} {q q2 : Nat} {y : Int} {l : List PV} {xs : List Int} (h : shpH ((3, q2) :: ty) ((3, q, y) :: l) = some xs) : q = q2 := by
  rcases shp_cons h with ⟨e, -⟩ | ⟨-, hc, -⟩
  · cases e
  · rcases hc with hc | ⟨-, hc⟩
    · cases hc; rfl
    · cases hc
/-- a call -/
theorem inv_ok {b : Bool} {ns : List Nat} {i : Nat} {f : Fn} {md2 : MD} (hc : CX x w md z r) (hl0 : x.1.2.1.flags = flags0) (hI : Impl md2 f) (hv : IVK md i md2 b ns) (hd : ns ≠ [] → HDL (my md).cls pc ns (mhh md)) (he : EE x w md z r) (hdg : decode (mby md) pc = .ok ((if b = true then .invokevirtual i else .invokestatic i), 3))
    (hk : Kon x w z r (mnl md) K) (hn : Nxt x w z r (mnl md) (pc + 3) N) (h : inv b ns f md2 L S t K N = some r) : WA x w z r (mnl md) pc L S t := by
  replace h := inv_some h
  obtain ⟨c, S', a, xs, o, y, s', rfl, hwt, hcl, ha, hsh, hf, hcase⟩ := h
  have hm1 : ∀ k, t.2 k ≤ s'.2 k := (hI x.1.2.1 hl0 w (fun _ _ => 0) t xs (o, y, s') hf).1
  have hm2 : ∀ k, s'.2 k ≤ r.2.2.2 k := by
    rcases hcase with ⟨-, h9⟩ | ⟨-, -, -, h9⟩ | ⟨-, h7, h9⟩
    · exact (hn _ _ _ h9).1
    · rw [h9]; exact fun _ => Int.le_refl _
    · obtain ⟨pre, a, b, g, ct, suf, i1, i2, i3, i4, i5, i6, i7, i8⟩ := hdl_some (hd h7) h9
      exact (hk _ _ _ _ i7).1
  refine ⟨fun k => Int.le_trans (hm1 k) (hm2 k), fun α H locs cells slots ls sk hp hL hs => ?_⟩
  obtain ⟨s1, rest, rfl, hs1, hsr⟩ := hs.split
  obtain ⟨hsa, hlen, hbb⟩ := ha.sr hs1
  have hM := (hI x.1.2.1 hl0 w α t xs (o, y, s') hf).2
  have h7 := hv.2.2.2.2.1
  have hargs := shp_SR hsh h7 hsa []
  rw [List.nil_append] at hargs
  have hargs : SR w α t.2 (mkG (mps md2) xs 0) s1.reverse := hargs
  have hlv : s1.reverse.length = (mps md2).length := by rw [List.length_reverse, hs1.len]; exact hcl
  have hsz : ls.size = mnl md := by obtain ⟨-, l, h9, -⟩ := hL; exact h9.1
  have hcat := Nat.le_trans (wt_cat hsr) hwt
  have e1 : s1 ++ rest = s1.reverse.reverse ++ rest := by rw [List.reverse_reverse]
  rw [e1]
  have kk : ∀ α' H1 locs1 v, o = 0 → XT α α' t.2 s'.2 → PT x w z s' α' H1 locs1 (cells + (ceN s'.2 - ceN t.2)) (slots + (slN s'.2 - slN t.2)) → RV w α' s'.2 (mrt md2) y v → Wx x H1 locs1 (cells + (ceN s'.2 - ceN t.2)) (slots + (slN s'.2 - slN t.2)) (F0 (xm x) (pc + 3) ls (v.toList ++ rest)) := by
    intro α' H1 locs1 v h0 hxt hp1 hrv
    rcases hcase with ⟨-, h9⟩ | ⟨h9, -⟩ | ⟨h9, -⟩
    · exact (hn _ _ _ h9).2 α' H1 locs1 _ _ ls _ hp1 (hL.ext hxt) (hrv.push (hsr.ext hxt))
    · exact absurd h0 h9
    · exact absurd h0 h9
  by_cases hh : mhh md2 = []
  · rw [hh] at hM
    refine vrun_ok hp rfl rfl (vcall hc hv hh hdg hM hp hargs hlv hsz hcat hm1 hm2 (fun hb => ?_)) kk ?_
    · obtain ⟨q, y9, l, rfl, hlv, As, e2⟩ := hbb hb
      obtain ⟨-, ⟨q2, ty, e3, e4, e5⟩, -⟩ := hv.2.2.2.2.2.1 hb
      rw [e3] at hsh
      have e6 := shp_hd hsh
      subst e6
      exact ⟨q, y9, As, e2, hlv, e4, e5⟩
    · intro α' H1 locs1 q ce h0 hxt hp1 hce hcv hcl
      refine thrown_ok (o := o) (y := y) (s' := s') hc hk he hd ?_ h0 hp1 (hL.ext hxt) hce hcv hcl
      rcases hcase with ⟨h9, -⟩ | ⟨-, h8, -, h9⟩ | ⟨-, h8, h9⟩
      · exact absurd h9 h0
      · refine Or.inl ⟨h8, h9, ?_⟩
        by_cases hm : mhh md = []
        · exact hm
        · have := he.2.2.2.2 hm
          rw [h9] at this
          exact absurd this h0
      · exact Or.inr ⟨h8, h9⟩
  · have hb : b = false := by
      cases b with
      | false => rfl
      | true => exact absurd (hv.2.2.2.2.2.1 rfl).1 hh
    subst hb
    have ho : o = 0 := by
      rcases hcase with ⟨h9, -⟩ | ⟨-, -, h9, -⟩ | ⟨-, h9, -⟩
      · exact h9
      · exact absurd h9 hh
      · exact absurd (hv.2.2.2.2.2.2.2.1 h9) hh
    have hM2 : Met x.1.2.1 (my md2) [cwd md2] (rmd md2 t (o, y, s')) (Pcc w α t md2 xs) (Qcc w α t md2 (o, y, s')) (ceN s'.2 - ceN t.2) (slN s'.2 - slN t.2) (wS w) := by
      split at hM
      · next e => exact absurd e hh
      · exact hM ho
    exact nrun_ok hp rfl rfl (ncall hc hv hh hdg hM2 hp hargs hlv hsz hcat hm1 hm2) kk
end CALLS2
