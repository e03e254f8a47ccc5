/-! Where a method begins, and its ends. -/
def ncb : List En → Bool
  | [] => true
  | e :: l => (match e.1.1 with
    | .invokevirtual _ => false
    | .invokestatic _ => false
    | _ => true) && ncb l
theorem iv_n {e : E0} (h : (match e.1 with
    | .invokevirtual _ => false
    | .invokestatic _ => false
    | _ => true) = true) : iv9 e := by
  obtain ⟨i, n, ⟨ns, is⟩, ⟨f, md2⟩, op⟩ := e
  cases i
  case invokevirtual j => cases h
  case invokestatic j => cases h
  all_goals exact trivial
theorem ck_n : ∀ {l : List En}, ncb l = true → CK l
  | [], _ => trivial
  | e :: l, h => by
    obtain ⟨h1, h2⟩ := and2 h
    exact ⟨iv_n h1, ck_n h2⟩
theorem wkl_rf : ∀ l : List PV, wkl l l
  | [] => trivial
  | _ :: l => ⟨Or.inr (Or.inl rfl), wkl_rf l⟩
theorem nth_app (L M : List PV) (i : Nat) : nth (L ++ M) i = if i < L.length then nth L i else nth M (i - L.length) := by
  induction L generalizing i with
  | nil => simp
  | cons a l ih =>
    cases i with
    | zero => simp [nth]
    | succ i => simp [nth, ih i]
theorem nth_rep (k i : Nat) : nth (List.replicate k (7, 0, 0)) i = (7, 0, 0) := by
  induction k generalizing i with
  | zero => cases i <;> rfl
  | succ k ih =>
    cases i with
    | zero => rfl
    | succ i => simp [List.replicate_succ, nth, ih i]
theorem mkG_app (ty : Sh) (k : Nat) (xs : List Int) (j : Nat) : mkG (ty ++ List.replicate k (7, 0)) xs j = mkG ty xs j ++ List.replicate k (7, 0, 0) := by
  induction ty generalizing j with
  | nil =>
    induction k with
    | zero => rfl
    | succ k ih =>
      rw [List.replicate_succ, List.replicate_succ]
      simp only [List.nil_append] at ih ⊢
      show (7, 0, 0) :: mkG (List.replicate k (7, 0)) xs j = _
      rw [ih]
      rfl
  | cons a l ih =>
    obtain ⟨t, q⟩ := a
    simp only [List.cons_append, mkG]
    split <;> rw [ih] <;> rfl
theorem mkG_tag {ty : Sh} {xs : List Int} : ∀ {j : Nat}, (∀ p ∈ ty, p.1 ≠ 1) → ∀ p ∈ mkG ty xs j, p.1 ≠ 1 := by
  induction ty with
  | nil => intro j _ p hp; cases hp
  | cons a l ih =>
    intro j h p hp
    obtain ⟨t, q⟩ := a
    simp only [mkG] at hp
    split at hp
    · rcases List.mem_cons.mp hp with e | hp
      · subst e; simp
      · exact ih (fun p hp => h p (List.mem_cons_of_mem _ hp)) p hp
    · rcases List.mem_cons.mp hp with e | hp
      · subst e; exact h (t, q) List.mem_cons_self
      · exact ih (fun p hp => h p (List.mem_cons_of_mem _ hp)) p hp
theorem mkG_len (ty : Sh) (xs : List Int) (j : Nat) : (mkG ty xs j).length = ty.length := by
  induction ty generalizing j with
  | nil => rfl
  | cons a l ih =>
    obtain ⟨t, q⟩ := a
    simp only [mkG]
    split <;> simp [ih]
theorem ent_args {w : Wd} {α : Al} {N : Cn} : ∀ {L : List PV} {vs : List Value}, SR w α N L vs → (∀ p ∈ L, p.1 ≠ 1) → ∀ j, (∀ q ∈ lv_args j vs, q.2.category = 1) ∧ (lg_sl vs).length = L.length ∧ ∀ i, i < L.length → ∃ v, (j + i, v) ∈ lv_args j vs ∧ cR w α N (nth L i) v
  | [], vs, hs, _, j => by
    rw [hs.nil]
    exact ⟨fun q hq => (by cases hq), rfl, fun i hi => absurd hi (Nat.not_lt_zero _)⟩
  | a :: L, vs, hs, h1, j => by
    obtain ⟨v, vs', rfl, hv, hs⟩ := hs.cons
    have hc : v.category = 1 := hv.cat (h1 a List.mem_cons_self)
    obtain ⟨g1, g2, g3⟩ := ent_args hs (fun p hp => h1 p (List.mem_cons_of_mem _ hp)) (j + 1)
    have e : lv_args j (v :: vs') = (j, v) :: lv_args (j + 1) vs' := by
      have hc2 : ¬ v.category = 2 := by omega
      show (j, v) :: lv_args (if v.category = 2 then j + 2 else j + 1) vs' = _
      rw [if_neg hc2]
    rw [e]
    refine ⟨fun q hq => ?_, ?_, fun i hi => ?_⟩
    · rcases List.mem_cons.mp hq with e | hq
      · subst e; exact hc
      · exact g1 q hq
    · have hc2 : ¬ v.category = 2 := by omega
      simp only [lg_sl, List.flatMap_cons, if_neg hc2] at g2 ⊢
      simp [g2]
    · cases i with
      | zero => exact ⟨v, List.mem_cons_self, hv⟩
      | succ i =>
        obtain ⟨u, hm, hu⟩ := g3 i (by simpa using hi)
        exact ⟨u, List.mem_cons_of_mem _ (by rw [show j + (i + 1) = j + 1 + i by omega]; exact hm), hu⟩
theorem ent_LR {w : Wd} {α : Al} {N : Cn} {L : List PV} {vs : List Value} {nL : Nat} (hs : SR w α N L vs) (h1 : ∀ p ∈ L, p.1 ≠ 1) (hn : L.length ≤ nL) :
    LR w α N nL (L ++ List.replicate (nL - L.length) (7, 0, 0)) ((lg_sl vs ++ List.replicate (nL - (lg_sl vs).length) Slot.unset).toArray) := by
  obtain ⟨g1, g2, g3⟩ := ent_args hs h1 0
  refine ⟨by simp; omega, _, lv_entry vs (by omega), g1, fun i hi => ?_⟩
  rw [nth_app] at hi ⊢
  by_cases e : i < L.length
  · rw [if_pos e] at hi ⊢
    obtain ⟨v, hm, hv⟩ := g3 i e
    rw [Nat.zero_add] at hm
    exact ⟨v, hm, hv⟩
  · rw [if_neg e, nth_rep] at hi
    exact absurd rfl hi
/-- what is checked of a method as such -/
def rtb (md : MD) : Bool := match (mrt md).1 with
  | 0 => decide (mret md = some .int) || decide (mret md = some .boolean)
  | 2 => (match mret md with
    | some (.object _) => true
    | _ => false)
  | 9 => decide (mret md = none)
  | _ => true
def entb (md : MD) : Bool := (plainName (my md).cls && rtb md) && ((mps md).all (fun p => !Nat.beq p.1 1) && Nat.ble (mps md).length (mnl md))
theorem rtb_0 {md : MD} (h : rtb md = true) (h0 : (mrt md).1 = 0) : mret md = some .int ∨ mret md = some .boolean := by
  unfold rtb at h
  rw [h0] at h
  simpa using h
theorem rtb_2 {md : MD} (h : rtb md = true) (h0 : (mrt md).1 = 2) : ∃ n, mret md = some (.object n) := by
  unfold rtb at h
  rw [h0] at h
  have h : (match mret md with
    | some (.object _) => true
    | _ => false) = true := h
  split at h
  · next n e => exact ⟨n, e⟩
  · cases h
theorem rtb_9 {md : MD} (h : rtb md = true) (h0 : (mrt md).1 = 9) : mret md = none := by
  unfold rtb at h
  rw [h0] at h
  exact of_decide_eq_true h
/-- exceptions make no object of a kind -/
theorem cnt_thw (s : St) (k : Nat) : cnt (thw s).2 k = cnt s.2 k := by
  unfold cnt
  split
  · rfl
  · next h =>
    show (if (cco k).2 = 19 then s.2 19 + 1 else s.2 (cco k).2) = s.2 (cco k).2
    rw [if_neg]
    unfold cco at h ⊢
    split at h <;> simp_all
theorem lv_thw {s : St} {k : Nat} {n : Int} : lv (thw s).2 k n ↔ lv s.2 k n := by unfold lv; rw [cnt_thw]
theorem ent_thw {w : Wd} {α : Al} {t : St} {k : Nat} {n : Int} : ent w α (thw t) k n = ent w α t k n := ent_congr (fun _ => rfl)
theorem SW.thw {t : St} (h : SW t) : SW (thw t) := by
  obtain ⟨h1, h2, h3, h4⟩ := h
  refine ⟨h1, fun k n j hj hl => ?_, fun k n i a b hl hi => ?_, fun k => ?_⟩
  · rw [cnt_thw]; exact h2 k n j hj (lv_thw.mp hl)
  · rw [cnt_thw]; exact h3 k n i a b (lv_thw.mp hl) hi
  · show 0 ≤ if k = 19 then t.2 19 + 1 else t.2 k
    have a := h4 19
    have b := h4 k
    split <;> omega
theorem HR.thw {w : Wd} {α : Al} {t : St} {u U : State} {H H1 : Heap} (h : HR w α t u H) (hvm : u.vm.Alike U.vm) (hq : ∀ q : Nat, q < H.size → H1[q]? = H[q]?) : HR w α (thw t) U H1 := by
  refine HR.moved hvm ?_
  have hlt : ∀ k n, lv t.2 k n → α k n < H.size := fun k n hl => h.lt hl
  obtain ⟨h1, h2, h3, h4, ⟨L, h5, h6⟩, h7⟩ := h
  refine ⟨fun k n hl => ?_, fun k n k' n' hl hl' e => h2 k n k' n' (lv_thw.mp hl) (lv_thw.mp hl') e, fun k n hl => h3 k n (lv_thw.mp hl), h4.thw, ⟨L, h5, ?_⟩, h7⟩
  · rw [ent_thw]
    exact (h1 k n (lv_thw.mp hl)).kept (hq _ (hlt k n (lv_thw.mp hl)))
  · have hb : w.2.2.2 < H.size := by
      obtain ⟨scr, hs, -⟩ := h6
      exact (Array.getElem?_eq_some_iff.mp hs).1
    exact h6.kept (hq _ hb)
theorem XT.thw {α α' : Al} {N : Cn} {t : St} (h : XT α α' N t.2) : XT α α' N (thw t).2 := ⟨fun k => by
    have h9 := h.1 k
    have h8 := h.1 19
    show N k ≤ if k = 19 then t.2 19 + 1 else t.2 k
    split
    · next e => subst e; omega
    · exact h9, h.2⟩
theorem flags_tr {l : Launch} (h : l.flags = flags0) : l.stackTraces = false := by
  unfold Launch.stackTraces
  rw [h]
  decide
/-- the words of throws -/
def tnm : List String := ["java/lang/RuntimeException", "java/lang/Exception"]
theorem tw_1 : (vx_atS "Floatparade" 47 "java/lang/IllegalArgumentException" tnm).all (fun w => decide (w ∈ lw_tbl) && (sw w && vx_ot w)) = true := by decide +kernel
theorem tw_2 : (vx_atS "Floatparade" 57 "java/lang/IllegalStateException" tnm).all (fun w => decide (w ∈ lw_tbl) && (sw w && vx_ot w)) = true := by decide +kernel
theorem tw_3 : (vx_atS "Floatparade" 69 "java/lang/IndexOutOfBoundsException" tnm).all (fun w => decide (w ∈ lw_tbl) && (sw w && vx_ot w)) = true := by decide +kernel
theorem tw_all {e : Nat} (h1 : 1 ≤ e) (h3 : e ≤ 3) : (∀ w ∈ vx_atS "Floatparade" (ecx e) (exn e) tnm, w ∈ TW ∧ vx_ot w = true) ∧ Bundle.fit (exn e) = true ∧ Cond.classLink "Floatparade" (ekx e) (exn e) ∈ TW ∧ Cond.initialized (exn e) ∈ TW := by
  have go : ∀ {l : List Cond}, l.all (fun w => decide (w ∈ lw_tbl) && (sw w && vx_ot w)) = true → ∀ w ∈ l, w ∈ TW ∧ vx_ot w = true := fun h w hw => by
    have h9 := List.all_eq_true.mp h w hw
    obtain ⟨a, b⟩ := and2 h9
    obtain ⟨b, c⟩ := and2 b
    exact ⟨List.mem_filter.mpr ⟨of_decide_eq_true a, b⟩, c⟩
  have he : e = 1 ∨ e = 2 ∨ e = 3 := by omega
  rcases he with rfl | rfl | rfl
  · exact ⟨go tw_1, by decide +kernel, wat_mem (i := 268) (by decide +kernel), wat_mem (i := 80) (by decide +kernel)⟩
  · exact ⟨go tw_2, by decide +kernel, wat_mem (i := 336) (by decide +kernel), wat_mem (i := 81) (by decide +kernel)⟩
  · exact ⟨go tw_3, by decide +kernel, wat_mem (i := 487) (by decide +kernel), wat_mem (i := 85) (by decide +kernel)⟩
theorem tw_ot {e : Nat} (h1 : 1 ≤ e) (h3 : e ≤ 3) : vx_ot (Cond.classLink "Floatparade" (ekx e) (exn e)) = true ∧ vx_ot (Cond.initialized (exn e)) = true := by
  have he : e = 1 ∨ e = 2 ∨ e = 3 := by omega
  rcases he with rfl | rfl | rfl <;> decide +kernel
theorem ceN_thw {t : St} (h : ∀ k, 0 ≤ t.2 k) : ceN (thw t).2 = ceN t.2 + 1 ∧ slN (thw t).2 = slN t.2 + 6 := by
  have a := h 2; have b := h 6; have c := h 8; have d := h 10; have e := h 19
  have e1 : (thw t).2 2 = t.2 2 := rfl
  have e2 : (thw t).2 6 = t.2 6 := rfl
  have e3 : (thw t).2 8 = t.2 8 := rfl
  have e4 : (thw t).2 10 = t.2 10 := rfl
  have e5 : (thw t).2 19 = t.2 19 + 1 := rfl
  unfold ceN slN
  rw [e1, e2, e3, e4, e5]
  omega
abbrev bR (md : MD) (α : Al) (t : St) (r : Rt) : Room := rmd md t r
/-- where a method without handlers stands as it begins -/
abbrev Cxv (p : Program) (l : Launch) (e : Env) (R : Room) (s : State) (m : MethodId) (args : Array Value) (below : List Frame) (meth : Method) (c : Code) (Q : State → Prop) : Cx := ((p, l, e, R, s), (m, args, below, meth, c), Q)
section ENDS
variable {p : Program} {l : Launch} {e : Env} {s : State} {m : MethodId} {args : Array Value} {below : List Frame} {meth : Method} {c : Code} {w : Wd} {md : MD} {α : Al} {t : St} {r : Rt}
theorem PT.va {x : Cx} {z : Bg} {t : St} {α : Al} {H : Heap} {locs : List Loc} {cells slots : Nat} (h : PT x w z t α H locs cells slots) {u : State} (hu : u.heap = H) : va_F (wS w) (xS x) u := va_S.F h.2.2.1 hu
theorem RV_i {α : Al} {N : Cn} {rt : Nat × Nat} {y : Int} (h : rt.1 = 0) (hy : rg y) : RV w α N rt y (some (.int (i32 y))) := by
  obtain ⟨a, b⟩ := rt
  have h : a = 0 := h
  subst h
  exact ⟨_, rfl, hy, rfl⟩
theorem RV_r {α : Al} {N : Cn} {rt : Nat × Nat} {y : Int} (h : rt.1 = 2) (h1 : -1 ≤ y) (h2 : y < cnt N rt.2) : RV w α N rt y (some (rf α rt.2 y)) := by
  obtain ⟨a, b⟩ := rt
  have h : a = 2 := h
  subst h
  exact ⟨_, rfl, h1, h2, rfl⟩
theorem RV_v {α : Al} {N : Cn} {rt : Nat × Nat} {y : Int} (h : rt.1 = 9) : RV w α N rt y none := by
  obtain ⟨a, b⟩ := rt
  have h : a = 9 := h
  subst h
  rfl
theorem rf_or (α : Al) (k : Nat) (y : Int) : rf α k y = .null ∨ ∃ a, rf α k y = .ref a := by
  by_cases h : y < 0
  · exact Or.inl (rf_neg h)
  · exact Or.inr ⟨_, rf_pos (by omega)⟩
theorem ret_MQ (hx : p.tables.exec = Jvm.exec) (hb : c.code = mby md) (hr : meth.sig.returnType = mret md) (hlocks : meth.locks = false) (hrt : rtb md = true) {R : Room} {Q : State → Prop} :
    (∀ pc α1 H locs cells slots ls, PT (Cxv p l e R s m args below meth c Q) w (α, t.2, 0, 0) r.2.2 α1 H locs cells slots → decode (mby md) pc = .ok (.ireturn, 1) → (mrt md).1 = 0 → r.1 = 0 → rg r.2.1 → (mret md = some .boolean → r.2.1 = 0 ∨ r.2.1 = 1) →
      W p l e R s m args below meth c H locs cells slots (MQ below (Qcc w α t md r) args s (ceN r.2.2.2 - ceN t.2) (slN r.2.2.2 - slN t.2) (wS w)) (F0 m pc ls [.int (i32 r.2.1)])) ∧
    (∀ pc α1 H locs cells slots ls, PT (Cxv p l e R s m args below meth c Q) w (α, t.2, 0, 0) r.2.2 α1 H locs cells slots → decode (mby md) pc = .ok (.areturn, 1) → (mrt md).1 = 2 → r.1 = 0 → -1 ≤ r.2.1 → r.2.1 < cnt r.2.2.2 (mrt md).2 →
      W p l e R s m args below meth c H locs cells slots (MQ below (Qcc w α t md r) args s (ceN r.2.2.2 - ceN t.2) (slN r.2.2.2 - slN t.2) (wS w)) (F0 m pc ls [rf α1 (mrt md).2 r.2.1])) ∧
    (∀ pc α1 H locs cells slots ls, PT (Cxv p l e R s m args below meth c Q) w (α, t.2, 0, 0) r.2.2 α1 H locs cells slots → decode (mby md) pc = .ok (.return_, 1) → (mrt md).1 = 9 → r.1 = 0 →
      W p l e R s m args below meth c H locs cells slots (MQ below (Qcc w α t md r) args s (ceN r.2.2.2 - ceN t.2) (slN r.2.2.2 - slN t.2) (wS w)) (F0 m pc ls [])) := by
  have key : ∀ {α1 H locs cells slots}, PT (Cxv p l e R s m args below meth c Q) w (α, t.2, 0, 0) r.2.2 α1 H locs cells slots → ∀ {v : Option Value}, r.1 = 0 → RV w α1 r.2.2.2 (mrt md) r.2.1 v →
      (∀ u : State, u.heap = H → s.WarmedH u.vm → Qcc w α t md r args s (.returned v) u) ∧ (∀ q ∈ locs, wS w q.base) ∧ cells ≤ ceN r.2.2.2 - ceN t.2 ∧ slots ≤ slN r.2.2.2 - slN t.2 := by
    intro α1 H locs cells slots hp v h0 hv
    have hva := fun {u} => hp.va (u := u)
    obtain ⟨g1, g2, g3, g4, g5⟩ := hp
    refine ⟨fun u hu hW => ⟨⟨α1, v, h0, g2, ?_, rfl, hv⟩, hva hu⟩, g3.2.2, ?_, ?_⟩
    · rw [hu]; exact HR.moved hW.alike g1
    · have g4 : cells ≤ 0 + (ceN r.2.2.2 - ceN t.2) := g4
      omega
    · have g5 : slots ≤ 0 + (slN r.2.2.2 - slN t.2) := g5
      omega
  refine ⟨fun pc α1 H locs cells slots ls hp hd hm h0 hy hz => ?_, fun pc α1 H locs cells slots ls hp hd hm h0 h1 h2 => ?_, fun pc α1 H locs cells slots ls hp hd hm h0 => ?_⟩
  · obtain ⟨k1, k2, k3, k4⟩ := key hp h0 (RV_i hm hy)
    refine W.widen k3 k4 ?_
    rcases rtb_0 hrt hm with e9 | e9
    · exact W.zret hx hb (hr.trans e9) (narrow_i _).1 k1 k2 hd hlocks
    · exact W.zret hx hb (hr.trans e9) (narrow_z (hz e9)).1 k1 k2 hd hlocks
  · obtain ⟨k1, k2, k3, k4⟩ := key hp h0 (RV_r hm h1 h2)
    refine W.widen k3 k4 ?_
    obtain ⟨n, e9⟩ := rtb_2 hrt hm
    exact W.aret hx hb (hr.trans e9) (Or.inl ⟨n, rfl⟩) (rf_or _ _ _) k1 k2 hd hlocks
  · obtain ⟨k1, k2, k3, k4⟩ := key hp h0 (RV_v hm)
    refine W.widen k3 k4 ?_
    exact W.vret hx hb (hr.trans (rtb_9 hrt hm)) k1 k2 hd hlocks
end ENDS
/-- a throw in a body -/
theorem thr_ok {p : Program} {l : Launch} {e : Env} {R : Room} {s : State} {m : MethodId} {args : Array Value} {below : List Frame} {meth : Method} {c : Code} {w : Wd} {md : MD} {α : Al} {t0 : St} {r : Rt}
    (hf : l.flags = flags0) (hc : CX (Cxv p l e R s m args below meth c (vx_MQ below (Qcc w α t0 md r) (Xcc w α t0 r) args s (ceN r.2.2.2 - ceN t0.2) (slN r.2.2.2 - slN t0.2) (wS w))) w md (α, t0.2, 0, 0) r) :
    TT (Cxv p l e R s m args below meth c (vx_MQ below (Qcc w α t0 md r) (Xcc w α t0 r) args s (ceN r.2.2.2 - ceN t0.2) (slN r.2.2.2 - slN t0.2) (wS w))) w md (α, t0.2, 0, 0) r := by
  intro pc i n e9 α1 H locs cells slots ls t hp hd hb hr hsz
  obtain ⟨hx, hby, hnl, hcl, ⟨hK, hT, hSO, hAO, hNC⟩, hZ, ⟨hR1, hR2, hR3, hR4⟩, hlk, hfl, hwS, htab⟩ := hc
  simp only [thb, Bool.and_eq_true, decide_eq_true_eq] at hb
  obtain ⟨⟨⟨⟨⟨⟨b1, b2⟩, b3⟩, b4⟩, b5⟩, b6⟩, b7⟩ := hb
  have b3 := Nat.le_of_ble_eq_true b3
  have b4 := Nat.le_of_ble_eq_true b4
  have b5 := Nat.le_of_ble_eq_true b5
  have b6 := Nat.le_of_ble_eq_true b6
  have b7 := beq_1 b7
  subst b7
  obtain ⟨k, tx, hm, d0, d3, dd⟩ := hd
  rw [b1] at hcl hm
  obtain ⟨sa, hsa⟩ := hSO _ _ _ hm
  obtain ⟨t1, t2, t3, t4⟩ := tw_all b5 b6
  obtain ⟨t5, t6⟩ := tw_ot b5 b6
  have htl : c.exceptionTable.toList = [] := by
    rw [htab, List.isEmpty_iff.mp b2]
    rfl
  have hout : ∀ pc9, ∀ x ∈ c.exceptionTable.toList, covers x pc9 = false := fun pc9 x hx => by rw [htl] at hx; cases hx
  obtain ⟨g1, g2, g3, g4, g5⟩ := hp
  have g6 := ceN_thw g1.2.2.2.1.2.2.2
  have g7 := ceN_mono g2.1
  have g8 := slN_mono g2.1
  have hcr : ceN r.2.2.2 = ceN t.2 + 1 := by rw [hr]; exact g6.1
  have hsr : slN r.2.2.2 = slN t.2 + 6 := by rw [hr]; exact g6.2
  have e0 : cells + 1 ≤ ceN r.2.2.2 - ceN t0.2 := by
    have a : cells ≤ 0 + (ceN t.2 - ceN t0.2) := g4
    have b : ceN t0.2 ≤ ceN t.2 := g7
    omega
  have e1 : slots + 6 ≤ slN r.2.2.2 - slN t0.2 := by
    have a : slots ≤ 0 + (slN t.2 - slN t0.2) := g5
    have b : slN t0.2 ≤ slN t.2 := g8
    omega
  have hX : ∀ u : State, s.vm.Alike u.vm → H.size ≤ u.heap.size → (∀ q : Nat, q < H.size → u.heap[q]? = H[q]?) → Xcc w α t0 r (exn e9) s u := fun u hu hs hq => by
    refine ⟨⟨α1, ?_, ?_, ?_, ?_⟩, ?_, fun q h1 h2 => ?_⟩
    · rw [hr]; show e9 ≠ 0; omega
    · rw [hr]
    · rw [hr]; exact XT.thw g2
    · rw [hr]; exact HR.thw g1 hu hq
    · exact Nat.le_trans g3.1 hs
    · rw [hq q (Nat.lt_of_lt_of_le h1 g3.1)]; exact g3.2.1 q h1 h2
  have c0 : cells + 1 ≤ R.cells := by
    have a : 0 + (ceN r.2.2.2 - ceN t0.2) ≤ R.cells := hR3
    omega
  have c1 : slots + 6 ≤ R.slots := by
    have a : 0 + (slN r.2.2.2 - slN t0.2) ≤ R.slots := hR4
    omega
  have hgood : ∀ w ∈ Cond.classLink "Floatparade" (ekx e9) (exn e9) :: Cond.initialized (exn e9) :: vx_atS "Floatparade" (ecx e9) (exn e9) tnm, vx_ot w = true := fun w9 hw => by
    rcases List.mem_cons.mp hw with e | hw
    · rw [e]; exact t5
    · rcases List.mem_cons.mp hw with e | hw
      · rw [e]; exact t6
      · exact (t1 w9 hw).2
  have hat : ∀ w ∈ vx_atS "Floatparade" (ecx e9) (exn e9) tnm, w.before args s = true := fun w9 hw => hT.at (t1 w9 hw).1 _
  have hnm : ∀ n ∈ tnm, Bundle.fit n = true := by decide +kernel
  have hfr : tnm.length + 3 < R.frames := Nat.lt_of_lt_of_le (by decide) (Nat.le_trans b3 hR1)
  have hlo : (([] : List Value).map fun v => v.category).sum + (13 * (tnm.length + 1) + 43) ≤ R.locals := Nat.le_trans (Nat.le_of_ble_eq_true rfl) (Nat.le_trans b4 hR2)
  have hsz9 : ls.size = c.maxLocals := hsz.trans hnl.symm
  rcases dd with ⟨-, d4, d6, d9⟩ | ⟨-, d4, d6, d9⟩
  · exact vx_throwS hx hby (flags_tr hf) hcl t2 hnm (hT.at t3 _) (hT.at t4 _) hsa hat hgood hZ.1 hZ.2 g3 hsz9 d0 d3 d4 d6 d9 (hout _) hfr hlo c0 c1 hlk hX g3.2.2 e0 e1
  · exact vx_throwSW hx hby (flags_tr hf) hcl t2 hnm (hT.at t3 _) (hT.at t4 _) hsa hat hgood hZ.1 hZ.2 g3 hsz9 d0 d3 d4 d6 d9 (hout _) hfr hlo c0 c1 hlk hX g3.2.2 e0 e1
