/-! Blocks, and families of blocks. -/
/-- what is known of a called method -/
def iv9 (e : E0) : Prop := match e.1 with
  | .invokevirtual _ => CallOK e.2.2.2.1.2 e.2.2.2.1.1 true
  | .invokestatic _ => CallOK e.2.2.2.1.2 e.2.2.2.1.1 false
  | _ => True
def CK : List En → Prop
  | [] => True
  | e :: l => iv9 e.1 ∧ CK l
def dq (by9 : ByteArray) (pc : Nat) (i : Instr) (n : Nat) : Bool := decide (decode by9 pc = .ok (i, n))
theorem dq_ok {by9 : ByteArray} {pc : Nat} {i : Instr} {n : Nat} (h : dq by9 pc i n = true) : decode by9 pc = .ok (i, n) := of_decide_eq_true h
noncomputable def thkb (md : MD) (pc i n o : Nat) (hs : List Nat) : Bool := match lw_tbl[g0 hs]? with
  | some (.stringRef own k _) => decide (own = (my md).cls) && (dq (mby md) pc (.new i) 3 && (dq (mby md) (pc + 3) .dup 1 &&
      ((Nat.beq n 10 && (dq (mby md) (pc + 4) (.ldc k) 2 && (dq (mby md) (pc + 6) (.invokespecial (ecx o)) 3 && dq (mby md) (pc + 9) .athrow 1))) ||
       (Nat.beq n 11 && (dq (mby md) (pc + 4) (.ldc_w k) 3 && (dq (mby md) (pc + 7) (.invokespecial (ecx o)) 3 && dq (mby md) (pc + 10) .athrow 1))))))
  | _ => false
theorem thkb_ok {md : MD} {pc i n o : Nat} {hs : List Nat} (h : thkb md pc i n o hs = true) : THK md pc i n o := by
  unfold thkb at h
  split at h
  · next own k tx e =>
    obtain ⟨h1, b1⟩ := and2 h
    obtain ⟨h2, b2⟩ := and2 b1
    obtain ⟨h3, b3⟩ := and2 b2
    have h1 := of_decide_eq_true h1
    refine ⟨k, tx, by rw [← h1]; exact List.mem_of_getElem? e, dq_ok h2, dq_ok h3, ?_⟩
    simp only [Bool.or_eq_true] at b3
    rcases b3 with c | c
    · obtain ⟨a1, c2⟩ := and2 c
      obtain ⟨a2, c3⟩ := and2 c2
      obtain ⟨a3, a4⟩ := and2 c3
      exact Or.inl ⟨beq_1 a1, dq_ok a2, dq_ok a3, dq_ok a4⟩
    · obtain ⟨a1, c2⟩ := and2 c
      obtain ⟨a2, c3⟩ := and2 c2
      obtain ⟨a3, a4⟩ := and2 c3
      exact Or.inr ⟨beq_1 a1, dq_ok a2, dq_ok a3, dq_ok a4⟩
  · cases h
def ldb (by9 : ByteArray) : Nat → List Nat → Option Nat
  | pc, [] => some pc
  | pc, k :: ks => if h : k < 4 then (match dq by9 pc (.iload_n ⟨k, h⟩) 1 with
      | true => ldb by9 (pc + 1) ks
      | false => none) else (match dq by9 pc (.iload k) 2 with
      | true => ldb by9 (pc + 2) ks
      | false => none)
theorem ldb_ok {by9 : ByteArray} : ∀ {l : List Nat} {pc e : Nat}, ldb by9 pc l = some e → lds by9 pc l e
  | [], pc, e, h => Option.some.inj h
  | k :: ks, pc, e, h => by
    unfold ldb at h
    split at h
    · next h4 =>
      split at h
      · next e9 => exact Or.inr ⟨⟨k, h4⟩, dq_ok e9, rfl, ldb_ok h⟩
      · cases h
    · split at h
      · next e9 => exact Or.inl ⟨k, dq_ok e9, rfl, ldb_ok h⟩
      · cases h
def akkb (md : MD) (pc i n q : Nat) (l : List Nat) : Bool := match ldb (mby md) (pc + 4) l with
  | some e => dq (mby md) pc (.new i) 3 && (dq (mby md) (pc + 3) .dup 1 && (dq (mby md) e (.invokespecial (akx q).2.2.1) 3 && Nat.beq (pc + n) (e + 3)))
  | none => false
theorem akkb_ok {md : MD} {pc i n q : Nat} {l : List Nat} (h : akkb md pc i n q l = true) : AK md pc i n q l := by
  unfold akkb at h
  split at h
  · next e h9 =>
    obtain ⟨h1, h⟩ := and2 h
    obtain ⟨h2, h⟩ := and2 h
    obtain ⟨h3, h4⟩ := and2 h
    exact ⟨dq_ok h1, dq_ok h2, e, ldb_ok h9, dq_ok h3, beq_1 h4⟩
  · cases h
noncomputable def dkb (md : MD) (pc : Nat) (e : E0) (hs : List Nat) : Bool := match e.1 with
  | .new i => (match e.2.2.1.1 with
    | 99 :: o :: _ => thkb md pc i e.2.1 o hs
    | q :: l => akkb md pc i e.2.1 q l
    | _ => false)
  | i => dq (mby md) pc i e.2.1
theorem dkb_ok {md : MD} {pc : Nat} {e : E0} {hs : List Nat} (hm : iv9 e) (h : dkb md pc e hs = true) : DK md pc e := by
  obtain ⟨i, n, ⟨ns, is⟩, ⟨f, md2⟩, op⟩ := e
  cases i
  case new j =>
    have h : (match (generalizing := false) ns with
      | 99 :: o :: _ => thkb md pc j n o hs
      | q :: l => akkb md pc j n q l
      | _ => false) = true := h
    show (match (generalizing := false) ns with
      | 99 :: o :: _ => THK md pc j n o
      | q :: l => AK md pc j n q l
      | _ => False)
    split at h
    · exact thkb_ok h
    · exact akkb_ok h
    · cases h
  case invokevirtual j => exact ⟨hm, dq_ok h⟩
  case invokestatic j => exact ⟨hm, dq_ok h⟩
  all_goals exact dq_ok h
noncomputable def blkb (md : MD) (ft : Nat) : Nat → List En → List (List Nat) → Bool
  | pc, [], _ => Nat.beq pc ft
  | pc, e :: l, hs => (dkb md pc e.1 (hs.headD []) && sb md pc e.1.1 e.1.2.1 e.1.2.2.1.1 e.1.2.2.1.2 e.1.2.2.2.1.2 (hs.headD [])) && (match tmb e.1.1 e.1.2.2.1.1 with
    | true => l.isEmpty
    | false => blkb md ft (pc + e.1.2.1) l hs.tail)
section BLK
variable {x : Cx} {w : Wd} {md : MD} {z : Bg} {r : Rt} {K : Co}
theorem blk_ok (hA : AOK) (hc : CX x w md z r) (hl : x.1.2.1.flags = flags0) (he : EE x w md z r) (ht : TT x w md z r) (hk : Kon x w z r (mnl md) K) {ft : Nat} :
    ∀ (l : List En) (pc : Nat) (hs : List (List Nat)), CK l → blkb md ft pc l hs = true → Nxt x w z r (mnl md) pc (exb K ft l)
  | [], pc, hs, _, h => fun L S t h1 => by
    have e : pc = ft := beq_1 h
    subst e
    exact hk _ _ _ _ h1
  | e :: l, pc, hs, hck, h => fun L S t h1 => by
    obtain ⟨h2, h3⟩ := and2 h
    obtain ⟨h4, h5⟩ := and2 h2
    have h6 : stp e.1.1 e.1.2.2.1.1 e.1.2.2.1.2 e.1.2.2.2.1.1 e.1.2.2.2.1.2 L S t K (exb K ft l) = some r := (e.2 L S t K (exb K ft l)).symm.trans h1
    refine stp_ok hA (op := e.1.2.2.2.2) hc hl he ht (dkb_ok hck.1 h4) h5 hk (fun e9 => ?_) h6
    rw [e9] at h3
    exact blk_ok hA hc hl he ht hk l _ _ hck.2 h3
theorem iv_le {e : E0} (hm : iv9 e) (h : ∃ j, e.1 = .invokevirtual j ∨ e.1 = .invokestatic j) : ∀ xs t r, e.2.2.2.1.1 xs t = some r → le9 t r := by
  obtain ⟨i, n, ⟨ns, is⟩, ⟨f, md2⟩, op⟩ := e
  obtain ⟨j, h⟩ := h
  rcases h with h | h
  · have h : i = .invokevirtual j := h
    subst h
    exact hm.1
  · have h : i = .invokestatic j := h
    subst h
    exact hm.1
theorem sb_ns {md : MD} {pc n : Nat} {i : Instr} {ns hs : List Nat} {is : List Int} {md2 : MD} (h : sb md pc i n ns is md2 hs = true) (j : Nat) : i ≠ .invokespecial j := fun e => by
  subst e
  exact Bool.false_ne_true h
theorem blk_le (hk : KM r K) {ft : Nat} : ∀ (l : List En) (pc : Nat) (hs : List (List Nat)), CK l → blkb md ft pc l hs = true → NM r (exb K ft l)
  | [], _, _, _, _ => fun L S t h1 => hk _ _ _ _ h1
  | e :: l, pc, hs, hck, h => fun L S t h1 => by
    obtain ⟨h2, h3⟩ := and2 h
    obtain ⟨h4, h5⟩ := and2 h2
    have h6 : stp e.1.1 e.1.2.2.1.1 e.1.2.2.1.2 e.1.2.2.2.1.1 e.1.2.2.2.1.2 L S t K (exb K ft l) = some r := (e.2 L S t K (exb K ft l)).symm.trans h1
    by_cases e9 : tmb e.1.1 e.1.2.2.1.1 = true
    · rw [e9] at h3
      have e8 : l = [] := List.isEmpty_iff.mp h3
      subst e8
      exact stp_le (iv_le hck.1) (sb_ns h5) hk (fun L S t h1 => hk _ _ _ _ h1) h6
    · have e9 := Bool.eq_false_iff.mpr e9
      rw [e9] at h3
      exact stp_le (iv_le hck.1) (sb_ns h5) hk (blk_le hk l _ _ hck.2 h3) h6
end BLK
/-! families -/
def MC (x : Cx) (w : Wd) (md : MD) (z : Bg) (r : Rt) : Prop := CX x w md z r ∧ x.1.2.1.flags = flags0 ∧ EE x w md z r ∧ TT x w md z r
def RsM (r : Rt) (rows : List Rw) : Prop := ∀ q ∈ rows, ∀ xs ys t, q.2.2.2 xs ys t = some r → le9 t r
def RsO (x : Cx) (w : Wd) (md : MD) (z : Bg) (r : Rt) (rows : List Rw) : Prop := ∀ q ∈ rows, (∀ p ∈ q.2.2.1, p.1 ≠ 7) ∧ ∀ xs ys t, q.2.2.2 xs ys t = some r → WA x w z r (mnl md) q.1 (mkG q.2.1 xs 0) (mkG q.2.2.1 ys 0) t
theorem famH_cons {p : Nat} {lt st : Sh} {f : List Int → List Int → St → Res} {rows : List Rw} {kb : Co} {t : Nat} {L S : List PV} {s : St} {r : Rt} (h : famH ((p, lt, st, f) :: rows) kb t L S s = some r) :
    (t = p ∧ ∃ xs ys, shpH lt L = some xs ∧ shpH st S = some ys ∧ f xs ys s = some r) ∨ famH rows kb t L S s = some r := by
  unfold famH at h
  split at h
  · next e =>
    split at h
    · next xs ys e1 e2 => exact Or.inl ⟨beq_1 e, xs, ys, e1, e2, h⟩
    · cases h
  · exact Or.inr h
theorem famH_le {r : Rt} {kb : Co} (hk : KM r kb) : ∀ {rows : List Rw}, RsM r rows → KM r (famH rows kb)
  | [], _ => fun pc L S t h => hk _ _ _ _ h
  | (p, lt, st, f) :: rows, hr => fun pc L S t h => by
    rcases famH_cons h with ⟨-, xs, ys, -, -, h9⟩ | h9
    · exact hr _ List.mem_cons_self xs ys t h9
    · exact famH_le hk (fun q hq => hr q (List.mem_cons_of_mem _ hq)) _ _ _ _ h9
theorem famH_ok {x : Cx} {w : Wd} {md : MD} {z : Bg} {r : Rt} {kb : Co} (hk : Kon x w z r (mnl md) kb) : ∀ {rows : List Rw}, RsO x w md z r rows → Kon x w z r (mnl md) (famH rows kb)
  | [], _ => fun pc L S t h => hk _ _ _ _ h
  | (p, lt, st, f) :: rows, hr => fun pc L S t h => by
    rcases famH_cons h with ⟨rfl, xs, ys, h1, h2, h9⟩ | h9
    · obtain ⟨h7, h8⟩ := hr _ List.mem_cons_self
      obtain ⟨hm, hw⟩ := h8 xs ys t h9
      exact ⟨hm, fun α H locs cells slots ls sk hp hl hs => hw α H locs cells slots ls sk hp (shp_LR h1 hl) (shp_SR h2 h7 hs [])⟩
    · exact famH_ok hk (fun q hq => hr q (List.mem_cons_of_mem _ hq)) _ _ _ _ h9
theorem shp_eq : ∀ (ty : Sh) (l : List PV), shp ty l = shpH ty l
  | [], [] => rfl
  | [], _ :: _ => rfl
  | _ :: _, [] => rfl
  | (t, k) :: ty, (t', k', x) :: l => by
    unfold shp shpH
    rw [shp_eq ty l]
    rfl
theorem fam_eq (kb : Co) : ∀ rows : List Rw, fam rows kb = famH rows kb
  | [] => rfl
  | (p, lt, st, f) :: rows => by
    funext t L S s
    unfold fam famH
    rw [shp_eq, shp_eq, fam_eq kb rows]
    rfl
def RsB (md : MD) (r : Rt) (kb : Co) (rows : List Rw) : Prop := (KM r kb → RsM r rows) ∧ ∀ x w z, MC x w md z r → Kon x w z r (mnl md) kb → RsO x w md z r rows
theorem row_0 {md : MD} {r : Rt} {kb : Co} : RsB md r kb [] := ⟨fun _ q hq => (nomatch hq), fun _ _ _ _ _ q hq => (nomatch hq)⟩
theorem row_B (hA : AOK) {md : MD} {r : Rt} {kb : Co} {b ft : Nat} {l : List En} {hs : List (List Nat)} {lt st : Sh} {f : List Int → List Int → St → Res} {rows : List Rw} (hT : RsB md r kb rows)
    (hq : blkb md ft b l hs = true) (hc : CK l) (h7 : st.all (fun p => !Nat.beq p.1 7) = true) (heq : ∀ xs ys s, exb (famH rows kb) ft l (mkG lt xs 0) (mkG st ys 0) s = f xs ys s) : RsB md r kb ((b, lt, st, f) :: rows) := by
  refine ⟨fun hk q hq9 => ?_, fun x w z hM hk q hq9 => ?_⟩
  · rcases List.mem_cons.mp hq9 with e | hq9
    · subst e
      intro xs ys t h
      exact blk_le (famH_le hk (hT.1 hk)) l b hs hc hq _ _ _ ((heq xs ys t).trans h)
    · exact hT.1 hk q hq9
  · rcases List.mem_cons.mp hq9 with e | hq9
    · subst e
      refine ⟨fun p hp e => ?_, fun xs ys t h => ?_⟩
      · have h8 := List.all_eq_true.mp h7 p hp
        rw [e] at h8
        exact absurd h8 (by decide)
      · obtain ⟨hc9, hl, he, ht⟩ := hM
        exact blk_ok hA hc9 hl he ht (famH_ok hk (hT.2 x w z ⟨hc9, hl, he, ht⟩ hk)) l b hs hc hq _ _ _ ((heq xs ys t).trans h)
    · exact hT.2 x w z hM hk q hq9
/-- by fuel -/
theorem fuel_B {md : MD} {r : Rt} {kk : Nat → Co} {rr : Co → List Rw} (h0 : kk 0 = nk) (h1 : ∀ n, kk (n + 1) = fam (rr (kk n)) nk) (h : ∀ kb, RsB md r kb (rr kb)) :
    ∀ n, KM r (kk n) ∧ ∀ x w z, MC x w md z r → Kon x w z r (mnl md) (kk n)
  | 0 => ⟨fun pc L S t h => (by rw [h0] at h; cases h), fun x w z _ pc L S t h => (by rw [h0] at h; cases h)⟩
  | n + 1 => by
    obtain ⟨a, b⟩ := fuel_B h0 h1 h n
    rw [h1, fam_eq]
    exact ⟨famH_le (fun pc L S t h => (by cases h)) ((h _).1 a), fun x w z hM => famH_ok (fun pc L S t h => (by cases h)) ((h _).2 x w z hM (b x w z hM))⟩
/-- the first locals tell no more -/
def wkl : List PV → List PV → Prop
  | [], [] => True
  | a :: l, b :: m => (b.1 = 7 ∨ coer a b) ∧ wkl l m
  | _, _ => False
theorem wkl_ok : ∀ {l m : List PV}, wkl l m → m.length = l.length ∧ ∀ i, (nth m i).1 = 7 ∨ coer (nth l i) (nth m i)
  | [], [], _ => ⟨rfl, fun _ => Or.inl rfl⟩
  | [], _ :: _, h => absurd h (fun h => h)
  | _ :: _, [], h => absurd h (fun h => h)
  | a :: l, b :: m, h => by
    obtain ⟨h1, h2⟩ := wkl_ok h.2
    refine ⟨by simp [h1], fun i => ?_⟩
    cases i with
    | zero => exact h.1
    | succ i => exact h2 i
theorem LR.weak {w : Wd} {α : Al} {N : Cn} {nL : Nat} {L M : List PV} {ls : Array Slot} (h : wkl L M) (hl : LR w α N nL L ls) : LR w α N nL M ls := by
  obtain ⟨h1, h2⟩ := wkl_ok h
  obtain ⟨g1, l, g2, g3, g4⟩ := hl
  refine ⟨h1.trans g1, l, g2, g3, fun i hi => ?_⟩
  rcases h2 i with e | e
  · exact absurd e hi
  · obtain ⟨v, hm, hv⟩ := g4 i (by
      rcases e with e | ⟨e, -⟩
      · rw [e]; exact hi
      · rw [e]; simp)
    exact ⟨v, hm, hv.coer e⟩
