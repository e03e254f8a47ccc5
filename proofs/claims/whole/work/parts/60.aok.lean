/-! New objects: the place in the code. -/
theorem ctor_run {p : Program} {l : Launch} {e : Env} {R : Room} {s : State} {m : MethodId} {args : Array Value} {below : List Frame} {meth : Method} {c : Code} {H : Heap} {locs : List Loc} {cells slots : Nat} {w : Wd} {own : String} {cc : ByteArray} {nL pc i : Nat} {ls : Array Slot} {sk : List Value}
    (hx : p.tables.exec = Jvm.exec) (hb : c.code = cc) (hml : c.maxLocals = nL) (hown : s.vm.findClass own = some m.cls) (hkw : KW w s) {k2 np nL2 fr lo ms b : Nat} {y2 : MethodName} {cc2 : ByteArray} {aos : List String} {tr : Wd → Nat → List Int → Tr} {xs : List Int} {vs : List Value} (hT : CT k2 y2 cc2 nL2 np fr lo ms aos tr)
    (gb : va_at w.1 vwCl (b, .inr (k2, dfs k2)) H) (hH : H.size = b + 1) (hdg : decode cc pc = .ok (.invokespecial i, 3))
    (hsz : ls.size = nL) (hxs : xs.length = np) (hvs : vs = (xs.map (fun v => Value.int (i32 v))).reverse) (hao : ∀ C ∈ aos, va_AO C s) (hm : Cond.methodLink own i y2 ∈ TW ∨ Cond.methodLinkNest own i y2 "Floatparade" ∈ TW) (hcode : Cond.code y2 cc2 nL2 none ∈ TW) (hini : Cond.initialized y2.cls ∈ TW) (hinst : Cond.instanceMethod y2 ∈ TW) (hyn : y2.name = "<init>")
    (hy : y2.cls ≠ "java/lang/invoke/MethodHandle" ∧ y2.cls ≠ "java/lang/invoke/VarHandle") (hsig : ∀ sig, parseMethodDescriptor y2.desc = some sig → np = sig.parameters.length) (hcat : (sk.map fun v => v.category).sum ≤ 8) (hfr : fr + 1 ≤ R.frames) (hlo : 8 + (nL2 + 11) + lo ≤ R.locals)
    (hc9 : cells + (tr w (b + 1) xs).2.length ≤ R.cells) (hs9 : slots + ms ≤ R.slots)
    {Q : State → Prop} (kk : ∀ (H1 : Heap) (L' : List Loc), (∀ q ∈ L', fK (b + 1) b q.base) → va_at w.1 vwCl (b, .inr (k2, (tr w (b + 1) xs).1)) H1 → (∀ (i : Nat) (e : va_E), (tr w (b + 1) xs).2[i]? = some e → va_at w.1 vwCl (b + 1 + i, e) H1) → H1.size = b + 1 + (tr w (b + 1) xs).2.length → (∀ q : Nat, q < b → H1[q]? = H[q]?) →
      W p l e R s m args below meth c H1 (locs ++ L') (cells + (tr w (b + 1) xs).2.length) (slots + ms) Q (F0 m (pc + 3) ls sk)) : W p l e R s m args below meth c H locs cells slots Q (F0 m pc ls (vs ++ .ref b :: sk)) := by
  have hts : ∀ w' ∈ TW, w'.before args s = true := fun w' h => hkw.2.1.at h _
  have hM := hT l w (b + 1) b xs hxs
  have hCF : CallFix p m c cc nL s args [] own := ⟨hx, hb, hml, hown, fun _ h => nomatch h⟩
  have hPS : PreS s H (Pk w (b + 1) b k2 xs aos) (.ref b :: xs.map (fun v => Value.int (i32 v))) :=
    ⟨Pk.blind _ _ _ _ _ _, fun U hU hW => ⟨rfl, by rw [hU]; exact gb, by rw [hU]; exact hH, Nat.lt_succ_self _, hkw.warm hW, fun C hC => va_AO.moved hW.alike (hao C hC)⟩⟩
  have hstk : (F0 m pc ls (vs ++ .ref b :: sk)).stack = (xs.map (fun v => Value.int (i32 v))).reverse ++ .ref b :: sk := by rw [hvs]
  have hrun : va_Run p l e R s m args below meth c H locs cells slots (tr w (b + 1) xs).2.length ms (F0 m pc ls (vs ++ .ref b :: sk)) sk (Qk w (b + 1) b k2 (tr w (b + 1) xs) (Value.ref b :: xs.map (fun v => Value.int (i32 v))).toArray) (fK (b + 1) b) := by
    rcases hm with hm | hm
    · exact va_runI (e := e) (R := R) (below := below) (meth := meth) (locs := locs) (cells := cells) (slots := slots) (n := np) (own := own) (index := i) hCF hM ⟨⟨rfl, rfl, hfr, hlo, fun w9 hw a' U hW => by rw [List.mem_singleton.mp hw]; exact (hkw.2.1.warm hW).at hcode a', List.mem_singleton_self _, hts _ hcode, hts _ hini, hy, hsig, hts _ hm⟩, hyn, hts _ hinst⟩ hPS rfl (by simp [hxs]) hsz hstk (lv_room hcat) hdg ⟨hc9, hs9⟩
    · exact va_runIN (host := "Floatparade") (e := e) (R := R) (below := below) (meth := meth) (locs := locs) (cells := cells) (slots := slots) (n := np) (own := own) (index := i) hCF hM ⟨⟨⟨rfl, rfl, hfr, hlo, fun w9 hw a' U hW => by rw [List.mem_singleton.mp hw]; exact (hkw.2.1.warm hW).at hcode a', List.mem_singleton_self _⟩, hts _ hcode, hts _ hini, hy, hsig, hts _ hm⟩, hyn, hts _ hinst⟩ hPS rfl (by simp [hxs]) hsz hstk (lv_room hcat) hdg ⟨hc9, hs9⟩
  intro T hT9 X
  obtain ⟨v, st₀, u, T', L', h0, X', hL, e1, e2, ⟨ho, f1, f2, f3, f4⟩, st⟩ := hrun T hT9 X
  cases ho
  obtain ⟨t2, a1, b1⟩ := kk T'.heap L' hL (by rw [e1]; exact f1) (fun i e he => by rw [e1]; exact f2 i e he) (by rw [e1]; exact f3) (fun q hq => by rw [e1, f4 q (by omega) (by omega), h0]) T' rfl X'
  exact ⟨t2, st t2 a1, b1⟩
theorem gts_W {x : Cx} {w : Wd} {md : MD} {z : Bg} {r : Rt} {α : Al} {N9 : Cn} {L : List PV} {ls : Array Slot} {H : Heap} {locs : List Loc} {cells slots : Nat} (hc : CX x w md z r) (hl : LR w α N9 (mnl md) L ls) : ∀ {l : List Nat} {xs : List Int} {pc e : Nat} {sk : List Value}, gts L l = some xs → lds (mby md) pc l e →
    (xs.length = l.length ∧ ∀ i, rg (xs.getD i 0)) ∧ (Wx x H locs cells slots (F0 (xm x) e ls ((xs.map (fun v => Value.int (i32 v))).reverse ++ sk)) → Wx x H locs cells slots (F0 (xm x) pc ls sk))
  | [], xs, pc, e, sk, h, hd => by
    have h : some [] = some xs := h
    cases h
    have hd : pc = e := hd
    subst hd
    exact ⟨⟨rfl, fun i => rg_0⟩, fun h => h⟩
  | i :: is, xs, pc, e, sk, h, hd => by
    unfold gts at h
    split at h
    · next q v hv =>
      split at h
      · next xs' hx' =>
        cases h
        obtain ⟨u, hu, hr, rfl⟩ := hl.get hv (by simp)
        have hx := hc.1
        have hb := hc.2.1
        rcases hd with ⟨n, d1, rfl, d2⟩ | ⟨n, d1, rfl, d2⟩
        · obtain ⟨⟨a1, a2⟩, a3⟩ := gts_W (sk := .int (i32 v) :: sk) hc hl hx' d2
          refine ⟨⟨by simp [a1], fun j => ?_⟩, fun hW => lv_iload hx hb d1 hu (a3 (by simpa using hW))⟩
          cases j with
          | zero => exact hr
          | succ j => simpa using a2 j
        · obtain ⟨⟨a1, a2⟩, a3⟩ := gts_W (sk := .int (i32 v) :: sk) hc hl hx' d2
          refine ⟨⟨by simp [a1], fun j => ?_⟩, fun hW => lv_iload_n hx hb d1 rfl hu (a3 (by simpa using hW))⟩
          cases j with
          | zero => exact hr
          | succ j => simpa using a2 j
      · cases h
    · cases h
/-- what is fixed of each kind of new object -/
def AQ (q : Nat) : Prop := ∃ (y : MethodName) (cc : ByteArray) (nL fr lo ms : Nat) (aos : List String), CT q y cc nL (akx q).2.2.2.2 fr lo ms aos (trq q) ∧
  (Cond.classLink (akx q).1 (akx q).2.1 (cNm q) ∈ TW ∧ Cond.instantiable (cNm q) (nfl q) ∈ TW ∧ Cond.initialized (cNm q) ∈ TW) ∧
  ((Cond.methodLink (akx q).1 (akx q).2.2.1 y ∈ TW ∨ Cond.methodLinkNest (akx q).1 (akx q).2.2.1 y "Floatparade" ∈ TW) ∧ Cond.code y cc nL none ∈ TW ∧ Cond.initialized y.cls ∈ TW ∧ Cond.instanceMethod y ∈ TW) ∧
  (y.name = "<init>" ∧ (y.cls ≠ "java/lang/invoke/MethodHandle" ∧ y.cls ≠ "java/lang/invoke/VarHandle") ∧ (∀ sig, parseMethodDescriptor y.desc = some sig → (akx q).2.2.2.2 = sig.parameters.length)) ∧
  (fr + 1 ≤ 3 ∧ 8 + (nL + 11) + lo ≤ 60 ∧ (∀ C ∈ aos, C = RX10)) ∧ (∀ w b xs, (trq q w b xs).2.length + 1 = (if q = 6 then 10 else 1)) ∧ nfl q + ms = (if q = 6 then 120 else if q = 10 then 4 else 6)
theorem aq_2 : AQ 2 := ⟨yX2_init, cX2_init, 1, 1, 12, 0, [], ctX2_init, ⟨(wat_mem (i := 172) (by decide +kernel)), (wat_mem (i := 936) (by decide +kernel)), (wat_mem (i := 90) (by decide +kernel))⟩, ⟨Or.inr (wat_mem (i := 937) (by decide +kernel)), (wat_mem (i := 939) (by decide +kernel)), (wat_mem (i := 90) (by decide +kernel)), (wat_mem (i := 938) (by decide +kernel))⟩, ⟨rfl, by decide, by decide +kernel⟩, ⟨by decide, by decide, by intro C hC; cases hC⟩, fun _ _ _ => rfl, rfl⟩
theorem aq_6 : AQ 6 := ⟨yX6_init, cX6_init, 4, 2, 32, 104, [RX10], ctX6_init, ⟨(wat_mem (i := 99) (by decide +kernel)), (wat_mem (i := 352) (by decide +kernel)), (wat_mem (i := 82) (by decide +kernel))⟩, ⟨Or.inl (wat_mem (i := 353) (by decide +kernel)), (wat_mem (i := 355) (by decide +kernel)), (wat_mem (i := 82) (by decide +kernel)), (wat_mem (i := 354) (by decide +kernel))⟩, ⟨rfl, by decide, by decide +kernel⟩, ⟨by decide, by decide, by intro C hC; exact List.mem_singleton.mp hC⟩, fun _ _ _ => rfl, rfl⟩
theorem aq_8 : AQ 8 := ⟨yX8_init, cX8_init, 7, 1, 12, 0, [], ctX8_init, ⟨(wat_mem (i := 625) (by decide +kernel)), (wat_mem (i := 626) (by decide +kernel)), (wat_mem (i := 87) (by decide +kernel))⟩, ⟨Or.inl (wat_mem (i := 627) (by decide +kernel)), (wat_mem (i := 629) (by decide +kernel)), (wat_mem (i := 87) (by decide +kernel)), (wat_mem (i := 628) (by decide +kernel))⟩, ⟨rfl, by decide, by decide +kernel⟩, ⟨by decide, by decide, by intro C hC; cases hC⟩, fun _ _ _ => rfl, rfl⟩
theorem aq_10 : AQ 10 := ⟨yX10_init, cX10_init, 5, 1, 12, 0, [], ctX10_init, ⟨(wat_mem (i := 739) (by decide +kernel)), (wat_mem (i := 740) (by decide +kernel)), (wat_mem (i := 88) (by decide +kernel))⟩, ⟨Or.inl (wat_mem (i := 741) (by decide +kernel)), (wat_mem (i := 743) (by decide +kernel)), (wat_mem (i := 88) (by decide +kernel)), (wat_mem (i := 742) (by decide +kernel))⟩, ⟨rfl, by decide, by decide +kernel⟩, ⟨by decide, by decide, by intro C hC; cases hC⟩, fun _ _ _ => rfl, rfl⟩
/-- the entries of a new group, all of them -/
theorem ent_new {q k o b : Nat} {w : Wd} {xs : List Int} {t : St} {α : Al} (hq : q = 2 ∨ q = 6 ∨ q = 8 ∨ q = 10) (ho : off q k = some o) (ha : ∀ k o, off q k = some o → α k (t.2 q) = b + o) {H1 : Heap} (f1 : va_at w.1 vwCl (b, .inr (q, (trq q w (b + 1) xs).1)) H1) (f2 : ∀ (i : Nat) (e : va_E), (trq q w (b + 1) xs).2[i]? = some e → va_at w.1 vwCl (b + 1 + i, e) H1) :
    va_at w.1 vwCl (α k (t.2 q), ent w α (alc q xs t) k (t.2 q)) H1 := by
  rw [ha k o ho]
  rcases hq with rfl | rfl | rfl | rfl
  · have hk : k = 2 := by unfold off at ho; simp only at ho; split at ho <;> simp_all
    subst hk
    cases ho
    rw [en_2_2 w b xs t ha]
    exact f1
  · have hk : k = 6 ∨ k = 7 ∨ k = 16 ∨ k = 17 ∨ k = 5 ∨ k = 18 ∨ k = 19 ∨ k = 20 ∨ k = 21 ∨ k = 15 := by unfold off at ho; simp only at ho; split at ho <;> simp_all
    rcases hk with rfl | rfl | rfl | rfl | rfl | rfl | rfl | rfl | rfl | rfl <;> cases ho
    · rw [en_6_6 w b xs t ha]; exact f1
    · rw [en_6_7 w b xs t ha]; exact f2 0 _ rfl
    · rw [en_6_16 w xs t α]; exact f2 1 _ rfl
    · rw [en_6_17 w xs t α]; exact f2 2 _ rfl
    · rw [en_6_5 w b xs t ha]; exact f2 3 _ rfl
    · rw [en_6_18 w xs t α]; exact f2 4 _ rfl
    · rw [en_6_19 w xs t α]; exact f2 5 _ rfl
    · rw [en_6_20 w xs t α]; exact f2 6 _ rfl
    · rw [en_6_21 w xs t α]; exact f2 7 _ rfl
    · rw [en_6_15 w xs t α]; exact f2 8 _ rfl
  · have hk : k = 8 := by unfold off at ho; simp only at ho; split at ho <;> simp_all
    subst hk
    cases ho
    rw [en_8_8 w b xs t ha]
    exact f1
  · have hk : k = 10 := by unfold off at ho; simp only at ho; split at ho <;> simp_all
    subst hk
    cases ho
    rw [en_10_10 w b xs t ha]
    exact f1
theorem SW_alc {q : Nat} (hq : q = 2 ∨ q = 6 ∨ q = 8 ∨ q = 10) {t : St} (h : SW t) {xs : List Int} (hx : ∀ i, rg (xs.getD i 0)) : SW (alc q xs t) := by
  rcases hq with rfl | rfl | rfl | rfl
  · exact SW_alc2 h hx
  · exact SW_alc6 h hx
  · exact SW_alc8 h hx
  · exact SW_alc10 h hx
def offi (q o : Nat) : Nat := match q with
  | 2 => 2
  | 6 => (match o with | 0 => 6 | 1 => 7 | 2 => 16 | 3 => 17 | 4 => 5 | 5 => 18 | 6 => 19 | 7 => 20 | 8 => 21 | _ => 15)
  | 8 => 8
  | 10 => 10
  | _ => 0
theorem off_i {q k o : Nat} (h : off q k = some o) : k = offi q o := by
  unfold off at h
  split at h
  · split at h
    · cases h; rfl
    · cases h
  · split at h <;> first | (cases h; rfl) | (cases h; done)
  · split at h
    · cases h; rfl
    · cases h
  · split at h
    · cases h; rfl
    · cases h
  · cases h
theorem off_inj {q k k' o : Nat} (h : off q k = some o) (h' : off q k' = some o) : k = k' := (off_i h).trans (off_i h').symm
theorem HR_alc {w : Wd} {α : Al} {t : St} {U : State} {H H1 : Heap} (hr : HR w α t U H) {q b : Nat} (hq : q = 2 ∨ q = 6 ∨ q = 8 ∨ q = 10) {xs : List Int} (hx : ∀ i, rg (xs.getD i 0)) (hb : H.size = b) (hwb : ∀ n : Nat, b ≤ n → wS w n)
    (f1 : va_at w.1 vwCl (b, .inr (q, (trq q w (b + 1) xs).1)) H1) (f2 : ∀ (i : Nat) (e : va_E), (trq q w (b + 1) xs).2[i]? = some e → va_at w.1 vwCl (b + 1 + i, e) H1) (f4 : ∀ n : Nat, n < b → H1[n]? = H[n]?) : HR w (ala q b (t.2 q) α) (alc q xs t) U H1 := by
  have hlt : ∀ k n, lv t.2 k n → α k n < b := fun k n hl => by rw [← hb]; exact hr.lt hl
  have hXT := XT_alc (b := b) hq xs t α
  have hao : ∀ k o, off q k = some o → ala q b (t.2 q) α k (t.2 q) = b + o := fun k o ho => ala_o ho
  obtain ⟨h1, h2, h3, h4, ⟨L, h5, h6⟩, h7⟩ := hr
  refine ⟨fun k n hl => ?_, fun k n k' n' hl hl' e => ?_, fun k n hl => ?_, SW_alc hq h4 hx, ⟨L, ?_, ?_⟩, h7⟩
  · rcases lv_alc hq hl with hl | ⟨e1, rfl⟩
    · have hne : ¬ (cco k = (1, q) ∧ n = t.2 q) := fun ⟨a, b9⟩ => by
        have := hl.2
        rw [cnt_of a] at this
        omega
      rw [hXT.2 k n hl]
      exact at_ext h4 hl (fun j => gm_alc hq xs t hne j) hXT ((h1 k n hl).kept (f4 _ (hlt k n hl)))
    · obtain ⟨o, ho⟩ := cco_off hq e1
      exact ent_new hq ho hao f1 f2
  · rcases lv_alc hq hl with hl | ⟨e1, rfl⟩
    · rw [hXT.2 k n hl] at e
      rcases lv_alc hq hl' with hl' | ⟨e1', rfl⟩
      · rw [hXT.2 k' n' hl'] at e
        exact h2 k n k' n' hl hl' e
      · obtain ⟨o, ho⟩ := cco_off hq e1'
        rw [hao k' o ho] at e
        have h9 := hlt k n hl
        rw [e] at h9
        exact absurd h9 (Nat.not_lt.mpr (Nat.le_add_right _ _))
    · obtain ⟨o, ho⟩ := cco_off hq e1
      rw [hao k o ho] at e
      rcases lv_alc hq hl' with hl' | ⟨e1', rfl⟩
      · rw [hXT.2 k' n' hl'] at e
        have h9 := hlt k' n' hl'
        rw [← e] at h9
        exact absurd h9 (Nat.not_lt.mpr (Nat.le_add_right _ _))
      · obtain ⟨o', ho'⟩ := cco_off hq e1'
        rw [hao k' o' ho'] at e
        have e9 : o = o' := Nat.add_left_cancel e
        subst e9
        exact ⟨off_inj ho ho', rfl⟩
  · rcases lv_alc hq hl with hl | ⟨e1, rfl⟩
    · rw [hXT.2 k n hl]; exact h3 k n hl
    · obtain ⟨o, ho⟩ := cco_off hq e1
      rw [hao k o ho]
      exact hwb _ (by omega)
  · rw [gm_alc hq xs t (fun ⟨a, _⟩ => by cases a)]; exact h5
  · have hb9 : w.2.2.2 < H.size := by
      obtain ⟨scr, hs, -⟩ := h6
      exact (Array.getElem?_eq_some_iff.mp hs).1
    have hxx : (fun j : Nat => i32 (gm (alc q xs t) 61 0 j)) = (fun j : Nat => i32 (gm t 61 0 j)) := funext fun j => by rw [gm_alc hq xs t (fun ⟨a, _⟩ => by cases a)]
    rw [hxx]
    exact h6.kept (f4 _ (by omega))
theorem ceN_alc {q : Nat} (hq : q = 2 ∨ q = 6 ∨ q = 8 ∨ q = 10) (xs : List Int) {t : St} (h : ∀ k, 0 ≤ t.2 k) : ceN (alc q xs t).2 = ceN t.2 + (if q = 6 then 10 else 1) ∧ slN (alc q xs t).2 = slN t.2 + (if q = 6 then 120 else if q = 10 then 4 else 6) := by
  have a := h 2; have b := h 6; have c := h 8; have d := h 10; have e := h 19
  rw [alc_cnt hq]
  unfold ceN slN
  rcases hq with rfl | rfl | rfl | rfl <;> simp <;> omega
theorem aok : AOK := by
  intro x w md z r pc i n q l L S t N hfl hc hAK hak hn h
  simp only [akb, Bool.and_eq_true, decide_eq_true_eq, Bool.or_eq_true] at hak
  obtain ⟨⟨⟨⟨⟨⟨k1, k2⟩, k3⟩, k4⟩, k5⟩, k6⟩, k7⟩ := hak
  have k2 := beq_1 k2
  have k3 := beq_1 k3
  have k4 := beq_1 k4
  have k5 := Nat.le_of_ble_eq_true k5
  have k6 := Nat.le_of_ble_eq_true k6
  have hq : q = 2 ∨ q = 6 ∨ q = 8 ∨ q = 10 := by
    rcases k7 with ((a | a) | a) | a
    · exact Or.inl (beq_1 a)
    · exact Or.inr (Or.inl (beq_1 a))
    · exact Or.inr (Or.inr (Or.inl (beq_1 a)))
    · exact Or.inr (Or.inr (Or.inr (beq_1 a)))
  obtain ⟨y, cc, nL, fr, lo, ms, aos, hT, ⟨w1, w2, w3⟩, ⟨w4, w5, w6, w7⟩, ⟨w8, w9, w10⟩, ⟨r1, r2, r3⟩, r4, r5⟩ : AQ q := by
    rcases hq with rfl | rfl | rfl | rfl
    · exact aq_2
    · exact aq_6
    · exact aq_8
    · exact aq_10
  unfold alo at h
  split at h
  · next hwt =>
    split at h
    · next xs hg =>
      obtain ⟨hm, hw⟩ := hn _ _ _ h
      refine ⟨alc_le hm, fun α H locs cells slots ls sk hp hl hs => ?_⟩
      obtain ⟨d0, d3, e9, d4, d5, d6⟩ := hAK
      have hc' := hc
      obtain ⟨hx, hby, hnl, hcl, hkw, hZ, ⟨hR1, hR2, hR3, hR4⟩, hlk, hfl9, hwS, htab⟩ := hc
      obtain ⟨⟨g1, g2⟩, -⟩ := gts_W (H := H) (locs := locs) (cells := cells) (slots := slots) (sk := sk) hc' hl hg d4
      obtain ⟨p1, p2, p3, p4, p5⟩ := hp
      have hts : ∀ w' ∈ TW, w'.before x.2.1.2.1 (xS x) = true := fun w' h => hkw.2.1.at h _
      have hq12 : q ≤ 12 := by rcases hq with rfl | rfl | rfl | rfl <;> decide
      have hKn := hkw.1.1 q _ (cl_at hq12)
      have cN := ceN_alc hq xs p1.2.2.2.1.2.2.2
      have a1 := ceN_mono p2.1
      have b1 := slN_mono p2.1
      have a2 := ceN_mono hm
      have b2 := slN_mono hm
      have r4 := r4 w (H.size + 1) xs
      rw [k1] at hcl
      have hsz : ls.size = mnl md := by obtain ⟨-, l9, h8, -⟩ := hl; exact h8.1
      have hcat : (sk.map fun v => v.category).sum ≤ 7 := Nat.le_trans (wt_cat hs) (Nat.le_of_ble_eq_true hwt)
      have fitc : cells + 1 + (trq q w (H.size + 1) xs).2.length ≤ z.2.2.1 + (ceN (alc q xs t).2 - ceN z.2.1) := by omega
      have fits9 : slots + nfl q + ms ≤ z.2.2.2 + (slN (alc q xs t).2 - slN z.2.1) := by omega
      have fitR : cells + 1 + (trq q w (H.size + 1) xs).2.length ≤ (xR x).cells := by omega
      have fitS : slots + nfl q + ms ≤ (xR x).slots := by omega
      have hcA : cells + 1 ≤ (xR x).cells := Nat.le_trans (Nat.le_add_right _ _) fitR
      have hcB : slots + nfl q ≤ (xR x).slots := Nat.le_trans (Nat.le_add_right _ _) fitS
      refine W.newcK hx hby hcl (hts _ (by rw [k2]; exact w1)) (hts _ w2) (hts _ w3) rfl d0 hcA hcB hKn.2.1 rfl fun H1 kC hkC e1 z1 o1 => ?_
      have gb : va_at w.1 vwCl (H.size, .inr (q, dfs q)) H1 := ⟨_, cl_at hq12, (u_born (cTy q) hts (cl_words hq12) hKn hkC e1 (cl_ty hq12)).to (fun j hj => by
        have hj : j < nfl q := hj
        simp [vp_V, dfs, List.getD, hj])⟩
      refine lv_dup hx hby d3 rfl ?_
      have hL1 : LR w α t.2 (mnl md) L ls := hl
      refine (gts_W (H := H1) (locs := locs) (cells := cells + 1) (slots := slots + nfl q) (sk := .ref H.size :: .ref H.size :: sk) hc' hl hg d4).2 ?_
      refine ctor_run (b := H.size) (vs := (xs.map (fun v => Value.int (i32 v))).reverse) (sk := .ref H.size :: sk) hx hby hnl hcl hkw hT gb z1 d5 hsz (by rw [g1]; exact k4) rfl (fun C hC => by rw [r3 C hC]; exact hkw.2.2.2.1) w4 w5 w6 w7 w8 w9 w10 (by
        have : (Value.ref H.size).category = 1 := rfl
        simp only [List.map_cons, List.sum_cons, this]
        omega) (Nat.le_trans r1 (Nat.le_trans k5 hR1)) (Nat.le_trans r2 (Nat.le_trans k6 hR2)) fitR fitS fun H2 L' hL f1 f2 f3 f4 => ?_
      have hb : (xS x).heap.size ≤ H.size := p3.1
      have hr2 : HR w (ala q H.size (t.2 q) α) (alc q xs t) (xS x) H2 := HR_alc p1 hq g2 rfl (fun n hn9 => hwS n (by omega)) f1 f2 (fun n hn9 => (f4 n hn9).trans (o1 n hn9))
      have hXT := XT_alc (b := H.size) hq xs t α
      have hlv : 0 ≤ t.2 q ∧ t.2 q < cnt (alc q xs t).2 q := by
        have h9 := p1.2.2.2.1.2.2.2 q
        have e : cco q = (1, q) := by rcases hq with rfl | rfl | rfl | rfl <;> rfl
        rw [cnt_alc hq, if_pos e]
        omega
      have hrr : ala q H.size (t.2 q) α q (t.2 q) = H.size := by
        have e : off q q = some 0 := by rcases hq with rfl | rfl | rfl | rfl <;> rfl
        exact ala_o e
      rw [← d6]
      refine hw _ H2 _ _ _ ls (.ref H.size :: sk) ⟨hr2, p2.trans hXT, ⟨by omega, fun q9 h1 h2 => ?_, fun z9 hz => ?_⟩, fitc, fits9⟩ (hl.ext hXT) ⟨⟨hlv.1, hlv.2, by rw [hrr]⟩, hs.ext hXT⟩
      · rw [f4 q9 (by omega), o1 q9 (by omega)]; exact p3.2.1 q9 h1 h2
      · rcases List.mem_append.mp hz with hz | hz
        · exact p3.2.2 z9 hz
        · rcases hL z9 hz with h9 | h9
          · exact hwS _ (by rw [h9]; exact hb)
          · exact hwS _ (by have h9 : H.size + 1 ≤ z9.base := h9; omega)
    · cases h
  · cases h
