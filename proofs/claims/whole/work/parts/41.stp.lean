def tmb (i : Instr) (ns : List Nat) : Bool := match i with
  | .goto _ => true
  | .tableswitch .. => true
  | .lookupswitch .. => true
  | .ireturn => true
  | .areturn => true
  | .return_ => true
  | .new _ => (match ns with
    | 99 :: _ => true
    | _ => false)
  | _ => false
theorem and2 {a b : Bool} (h : (a && b) = true) : a = true ∧ b = true := by simpa using h
theorem beq_1 {n k : Nat} (h : Nat.beq n k = true) : n = k := Nat.eq_of_beq_eq_true h
theorem notb {b : Bool} (h : (!b) = true) : b = false := by simpa using h
theorem cnt_nn {t : St} (h : SW t) (k : Nat) : 0 ≤ cnt t.2 k := by
  unfold cnt
  split
  · omega
  · exact h.2.2.2 _
theorem gtb_ok {pc t : Nat} {o : Int} (h : gtb pc o t = true) : (pc : Int) + o = (t : Int) := of_decide_eq_true h
theorem arb_ok {q e : Nat} {l : Int} (h : arb q e l = true) : ∃ n : Nat, l = (n : Int) ∧ Nat.ble q 12 = false ∧ aty q = (e, n) ∧ (n : Int) < 2147483648 := by
  simp only [arb, Bool.and_eq_true, decide_eq_true_eq] at h
  obtain ⟨⟨⟨h1, h2⟩, h3⟩, h4⟩ := h
  refine ⟨l.toNat, by omega, notb h1, h2, by omega⟩
theorem tsw_some {pc : Nat} {K : Nat → Res} {d : Nat} {y : Int} {r : Rt} : ∀ {os is : List Int} {ts : List Nat} {lo : Int}, tsb pc lo os is ts = true → swt y K d is ts = some r →
    (∃ (k : Nat) (off : Int) (g : Nat), y = lo + k ∧ os[k]? = some off ∧ (pc : Int) + off = (g : Int) ∧ K g = some r ∧ k < is.length) ∨ ((y < lo ∨ lo + (is.length : Int) ≤ y) ∧ K d = some r)
  | [], [], [], lo, _, h => by
    have h : K d = some r := h
    refine Or.inr ⟨?_, h⟩
    simp
    omega
  | o :: os, i :: is, t :: ts, lo, hb, h => by
    have hb : (decide (i = lo) && decide ((pc : Int) + o = (t : Int)) && tsb pc (lo + 1) os is ts) = true := hb
    obtain ⟨h1, h2⟩ := and2 hb
    obtain ⟨h3, h4⟩ := and2 h1
    have h3 := of_decide_eq_true h3
    have h4 := of_decide_eq_true h4
    subst h3
    have h9 : (if y = i then K t else swt y K d is ts) = some r := h
    by_cases e : y = i
    · rw [if_pos e] at h9
      exact Or.inl ⟨0, o, t, by simp [e], rfl, h4, h9, by simp⟩
    · rw [if_neg e] at h9
      rcases tsw_some h2 h9 with ⟨k, off, g, a1, a2, a3, a4, a5⟩ | ⟨a1, a2⟩
      · exact Or.inl ⟨k + 1, off, g, by rw [a1]; omega, by simpa using a2, a3, a4, by simpa using a5⟩
      · refine Or.inr ⟨?_, a2⟩
        simp only [List.length_cons]
        omega
  | [], [], _ :: _, _, hb, _ => by cases hb
  | [], _ :: _, _, _, hb, _ => by cases hb
  | _ :: _, [], _, _, hb, _ => by cases hb
  | _ :: _, _ :: _, [], _, hb, _ => by cases hb
theorem lsw_some {pc : Nat} {K : Nat → Res} {d : Nat} {y dd : Int} {r : Rt} (hd : (pc : Int) + dd = (d : Int)) : ∀ {os : List (Int × Int)} {is : List Int} {ts : List Nat}, lsb pc os is ts = true → swt y K d is ts = some r →
    ∃ g : Nat, (pc : Int) + Op.lookupswitch.offset os dd y = (g : Int) ∧ K g = some r
  | [], [], [], _, h => ⟨d, hd, h⟩
  | (k, o) :: os, i :: is, t :: ts, hb, h => by
    have hb : (decide (i = k) && decide ((pc : Int) + o = (t : Int)) && lsb pc os is ts) = true := hb
    obtain ⟨h1, h2⟩ := and2 hb
    obtain ⟨h3, h4⟩ := and2 h1
    have h3 := of_decide_eq_true h3
    have h4 := of_decide_eq_true h4
    subst h3
    have h9 : (if y = i then K t else swt y K d is ts) = some r := h
    rw [Op.lookupswitch.offset_cons]
    by_cases e : y = i
    · rw [if_pos e] at h9
      rw [if_pos e.symm]
      exact ⟨t, h4, h9⟩
    · rw [if_neg e] at h9
      rw [if_neg (fun q => e q.symm)]
      exact lsw_some hd h2 h9
  | [], [], _ :: _, hb, _ => by cases hb
  | [], _ :: _, _, hb, _ => by cases hb
  | _ :: _, [], _, hb, _ => by cases hb
  | _ :: _, _ :: _, [], hb, _ => by cases hb
section STP
variable {x : Cx} {w : Wd} {md : MD} {z : Bg} {r : Rt} {pc : Nat} {L S : List PV} {t : St} {K : Co} {N : Nx}
theorem goto_ok {o : Int} {g n : Nat} (hc : CX x w md z r) (hd : decode (mby md) pc = .ok (.goto o, 3)) (ht : (pc : Int) + o = (g : Int)) (hk : Kon x w z r (mnl md) K) (h : K g L S t = some r) : WA x w z r (mnl md) pc L S t := by
  obtain ⟨hm, hw⟩ := hk _ _ _ _ h
  exact ⟨hm, fun α H locs cells slots ls sk hp hl hs => lv_goto hc.1 hc.2.1 hd ht (hw α H locs cells slots ls sk hp hl hs)⟩
theorem tsw_ok {d lo hi : Int} {offs : Array Int} {g n : Nat} {is : List Int} {ts : List Nat} (hc : CX x w md z r) (hd : decode (mby md) pc = .ok (.tableswitch d lo hi offs, n)) (h1 : gtb pc d g = true) (h2 : tsb pc lo offs.toList is ts = true) (h3 : lo + (is.length : Int) = hi + 1)
    (hk : Kon x w z r (mnl md) K) (h : (pI S fun y S => swt y (fun t9 => K t9 L S t) g is ts) = some r) : WA x w z r (mnl md) pc L S t := by
  replace h := pI_some h
  obtain ⟨q, y, S1, rfl, h⟩ := h
  rcases tsw_some h2 h with ⟨k, off, g9, a1, a2, a3, a4, a5⟩ | ⟨a1, a2⟩
  · obtain ⟨hm, hw⟩ := hk _ _ _ _ a4
    refine ⟨hm, fun α H locs cells slots ls sk hp hl hs => ?_⟩
    obtain ⟨sk1, rfl, hy, hs⟩ := hs.int
    refine lv_tableIn hc.1 hc.2.1 hd ?_ ?_ (off := off) ?_ a3 (hw α H locs cells slots ls _ hp hl hs)
    · rw [i32_toInt hy]; omega
    · rw [i32_toInt hy]; omega
    · rw [i32_toInt hy, a1]
      have e : (lo + (k : Int) - lo).toNat = k := by omega
      rw [e]
      simpa using a2
  · obtain ⟨hm, hw⟩ := hk _ _ _ _ a2
    refine ⟨hm, fun α H locs cells slots ls sk hp hl hs => ?_⟩
    obtain ⟨sk1, rfl, hy, hs⟩ := hs.int
    refine lv_tableOut hc.1 hc.2.1 hd ?_ (gtb_ok h1) (hw α H locs cells slots ls _ hp hl hs)
    rw [i32_toInt hy]; omega
theorem lsw_ok {d : Int} {ps : Array (Int × Int)} {g n : Nat} {is : List Int} {ts : List Nat} (hc : CX x w md z r) (hd : decode (mby md) pc = .ok (.lookupswitch d ps, n)) (h1 : gtb pc d g = true) (h2 : lsb pc ps.toList is ts = true) (h3 : (ps.toList.zip (ps.toList.drop 1)).all (fun (a, next) => a.1 < next.1) = true)
    (hk : Kon x w z r (mnl md) K) (h : (pI S fun y S => swt y (fun t9 => K t9 L S t) g is ts) = some r) : WA x w z r (mnl md) pc L S t := by
  replace h := pI_some h
  obtain ⟨q, y, S1, rfl, h⟩ := h
  obtain ⟨g9, a1, a2⟩ := lsw_some (gtb_ok h1) h2 h
  obtain ⟨hm, hw⟩ := hk _ _ _ _ a2
  refine ⟨hm, fun α H locs cells slots ls sk hp hl hs => ?_⟩
  obtain ⟨sk1, rfl, hy, hs⟩ := hs.int
  exact lv_lookup hc.1 hc.2.1 hd h3 rfl (by rw [i32_toInt hy]; exact a1) (hw α H locs cells slots ls _ hp hl hs)
theorem null_ok {q : Nat} (hc : CX x w md z r) (hd : decode (mby md) pc = .ok (.aconst_null, 1)) (hn : Nxt x w z r (mnl md) (pc + 1) N) (h : N L ((2, q, -1) :: S) t = some r) : WA x w z r (mnl md) pc L S t := by
  obtain ⟨hm, hw⟩ := hn _ _ _ h
  refine ⟨hm, fun α H locs cells slots ls sk hp hl hs => lv_null hc.1 hc.2.1 hd (hw α H locs cells slots ls (.null :: sk) hp hl ⟨⟨by omega, ?_, (rf_neg (by omega)).symm⟩, hs⟩)⟩
  have := cnt_nn hp.1.2.2.2.1 q
  omega
theorem dup_ok (hc : CX x w md z r) (hd : decode (mby md) pc = .ok (.dup, 1)) (hn : Nxt x w z r (mnl md) (pc + 1) N) (h : dp1 L S t N = some r) : WA x w z r (mnl md) pc L S t := by
  replace h : ∃ a S1, a.1 ≠ 1 ∧ S = a :: S1 ∧ N L (a :: a :: S1) t = some r := by
    unfold dp1 at h
    split at h
    · exact ⟨_, _, by simp, rfl, h⟩
    · exact ⟨_, _, by simp, rfl, h⟩
    · exact ⟨_, _, by simp, rfl, h⟩
    · cases h
  obtain ⟨a, S1, h1, rfl, h⟩ := h
  obtain ⟨hm, hw⟩ := hn _ _ _ h
  refine ⟨hm, fun α H locs cells slots ls sk hp hl hs => ?_⟩
  obtain ⟨v, sk1, rfl, hv, hs⟩ := hs.cons
  exact lv_dup hc.1 hc.2.1 hd (hv.cat h1) (hw α H locs cells slots ls _ hp hl ⟨hv, hv, hs⟩)
theorem dup2_ok (hc : CX x w md z r) (hd : decode (mby md) pc = .ok (.dup2, 1)) (hn : Nxt x w z r (mnl md) (pc + 1) N) (h : dp2 L S t N = some r) : WA x w z r (mnl md) pc L S t := by
  replace h : ∃ q0 y q n S1, S = (0, q0, y) :: (3, q, n) :: S1 ∧ N L ((0, 0, y) :: (3, q, n) :: (0, 0, y) :: (3, q, n) :: S1) t = some r := by
    unfold dp2 at h
    replace h := pI_some h
    obtain ⟨q0, y, S1, rfl, h⟩ := h
    split at h
    · exact ⟨_, _, _, _, _, rfl, h⟩
    · cases h
  obtain ⟨q0, y, q, n, S1, rfl, h⟩ := h
  obtain ⟨hm, hw⟩ := hn _ _ _ h
  refine ⟨hm, fun α H locs cells slots ls sk hp hl hs => ?_⟩
  obtain ⟨v, sk1, rfl, hv, hs⟩ := hs.cons
  obtain ⟨u, sk2, rfl, hu, hs⟩ := hs.cons
  exact lv_dup2_11 hc.1 hc.2.1 hd (hv.cat (by simp)) (hu.cat (by simp)) (hw α H locs cells slots ls _ hp hl ⟨hv, hu, hv, hu, hs⟩)
theorem ineg_ok (hc : CX x w md z r) (hd : decode (mby md) pc = .ok (.ineg, 1)) (hn : Nxt x w z r (mnl md) (pc + 1) N) (h : (pI S fun y S => N L ((0, 0, wr (-y)) :: S) t) = some r) : WA x w z r (mnl md) pc L S t := by
  replace h := pI_some h
  obtain ⟨q, y, S1, rfl, h⟩ := h
  obtain ⟨hm, hw⟩ := hn _ _ _ h
  refine ⟨hm, fun α H locs cells slots ls sk hp hl hs => ?_⟩
  obtain ⟨sk1, rfl, hy, hs⟩ := hs.int
  exact lv_ineg hc.1 hc.2.1 hd (by rw [i32_neg]; exact hw α H locs cells slots ls _ hp hl ⟨⟨rg_wr _, rfl⟩, hs⟩)
theorem i2l_ok (hc : CX x w md z r) (hd : decode (mby md) pc = .ok (.i2l, 1)) (hn : Nxt x w z r (mnl md) (pc + 1) N) (h : (pI S fun y S => N L ((1, 0, y) :: S) t) = some r) : WA x w z r (mnl md) pc L S t := by
  replace h := pI_some h
  obtain ⟨q, y, S1, rfl, h⟩ := h
  obtain ⟨hm, hw⟩ := hn _ _ _ h
  refine ⟨hm, fun α H locs cells slots ls sk hp hl hs => ?_⟩
  obtain ⟨sk1, rfl, hy, hs⟩ := hs.int
  exact lv_i2l hc.1 hc.2.1 hd (i32_long hy) (hw α H locs cells slots ls _ hp hl ⟨⟨hy, rfl⟩, hs⟩)
theorem lcmp_ok (hc : CX x w md z r) (hd : decode (mby md) pc = .ok (.lcmp, 1)) (hn : Nxt x w z r (mnl md) (pc + 1) N) (h : (pL S fun b S => pL S fun a S => N L ((0, 0, icp a b) :: S) t) = some r) : WA x w z r (mnl md) pc L S t := by
  replace h := pL_some h
  obtain ⟨q, b, S1, rfl, h⟩ := h
  replace h := pL_some h
  obtain ⟨q2, a, S2, rfl, h⟩ := h
  obtain ⟨hm, hw⟩ := hn _ _ _ h
  refine ⟨hm, fun α H locs cells slots ls sk hp hl hs => ?_⟩
  obtain ⟨sk1, rfl, hb, hs⟩ := hs.long
  obtain ⟨sk2, rfl, ha, hs⟩ := hs.long
  exact W.lcmp hc.1 hc.2.1 hd (by rw [i32_icp ha hb]; exact hw α H locs cells slots ls _ hp hl ⟨⟨rg_icp _ _, rfl⟩, hs⟩)
def fvk (α : Al) (k q2 : Nat) (n g : Int) : Value := match k with
  | 0 => .int (i32 g)
  | 5 => .int (i32 g)
  | 1 => rf α q2 g
  | 2 => .ref (α q2 n)
  | 3 => .ref (α q2 (2 * n))
  | 4 => .ref (α q2 (2 * n + 1))
  | _ => .null
theorem fvl_k {α : Al} {q j k q2 : Nat} {n : Int} (h : ftb q j = (k, q2)) : fvl α t q n j = fvk α k q2 n (gm t q n j) := by
  have e : fvl α t q n j = fvk α (ftb q j).1 (ftb q j).2 n (gm t q n j) := rfl
  rw [e, h]
theorem rg_fld {q j : Nat} {n : Int} (hS : SW t) (hq : q ≤ 12) (h : (ftb q j).1 ≠ 1) : rg (gm t q n j) := by
  refine hS.1 q n j ⟨fun i hi => ?_, aty_obj hq⟩
  have : i = j := by omega
  rw [this]; exact h
theorem getf_ok {i q j k q2 : Nat} (hc : CX x w md z r) (hq : q ≤ 12) (hj : j < nfl q) (hl : FLK (my md).cls i q j) (hdg : decode (mby md) pc = .ok (.getfield i, 3)) (hn : Nxt x w z r (mnl md) (pc + 3) N)
    (hf : k = 0 ∧ ((ftb q j).1 = 0 ∨ (ftb q j).1 = 5) ∨ 1 ≤ k ∧ k ≤ 4 ∧ ftb q j = (k, q2))
    (h : (pO q S fun n S => (match (generalizing := false) k with
      | 0 => N L ((0, 0, gm t q n j) :: S) t
      | 1 => N L ((2, q2, gm t q n j) :: S) t
      | 2 => N L ((3, q2, n) :: S) t
      | 3 => N L ((3, q2, 2 * n) :: S) t
      | 4 => N L ((3, q2, 2 * n + 1) :: S) t
      | _ => none)) = some r) : WA x w z r (mnl md) pc L S t := by
  obtain ⟨c1, c2⟩ := ftb_cnt hq j hj
  rcases hf with ⟨rfl, hf⟩ | ⟨k1, k4, hf⟩
  · refine get_ok (u := (0, 0, 0)) (k := fun n => (0, 0, gm t q n j)) hc hq hj hl hdg hn (fun α n hlv hS => ?_) h
    have h1 : (ftb q j).1 ≠ 1 := by omega
    refine ⟨rg_fld hS hq h1, ?_⟩
    rcases hf with hf | hf
    · exact fvl_k (k := 0) (q2 := (ftb q j).2) (by rw [← hf])
    · exact fvl_k (k := 5) (q2 := (ftb q j).2) (by rw [← hf])
  · rw [hf] at c1 c2
    have hk : k = 1 ∨ k = 2 ∨ k = 3 ∨ k = 4 := by omega
    rcases hk with rfl | rfl | rfl | rfl
    · refine get_ok (u := (0, 0, 0)) (k := fun n => (2, q2, gm t q n j)) hc hq hj hl hdg hn (fun α n hlv hS => ?_) h
      have h2 := hS.2.1 q n j (by rw [hf]) hlv
      rw [hf] at h2
      exact ⟨h2.1, h2.2, fvl_k (k := 1) hf⟩
    · refine get_ok (u := (0, 0, 0)) (k := fun n => (3, q2, n)) hc hq hj hl hdg hn (fun α n hlv hS => ?_) h
      have h2 := lv_of (c1 rfl) hlv
      exact ⟨h2.1, h2.2, fvl_k (k := 2) hf⟩
    · refine get_ok (u := (0, 0, 0)) (k := fun n => (3, q2, 2 * n)) hc hq hj hl hdg hn (fun α n hlv hS => ?_) h
      have h2 := (lv_two (c2 (Or.inl rfl)) hlv).1
      exact ⟨h2.1, h2.2, fvl_k (k := 3) hf⟩
    · refine get_ok (u := (0, 0, 0)) (k := fun n => (3, q2, 2 * n + 1)) hc hq hj hl hdg hn (fun α n hlv hS => ?_) h
      have h2 := (lv_two (c2 (Or.inr rfl)) hlv).2
      exact ⟨h2.1, h2.2, fvl_k (k := 4) hf⟩
theorem iret_ok {g : Nat} (hc : CX x w md z r) (he : EE x w md z r) (hd : decode (mby md) pc = .ok (.ireturn, 1)) (hr : (mrt md).1 = 0) (hg : g = 0 → mret md ≠ some .boolean) (h : (pI S fun y S => pE S (match (generalizing := false) g with
    | 0 => some (0, y, t)
    | _ => if y = 0 ∨ y = 1 then some (0, y, t) else none)) = some r) : WA x w z r (mnl md) pc L S t := by
  replace h := pI_some h
  obtain ⟨q, y, S1, rfl, h⟩ := h
  replace h := pE_some h
  obtain ⟨rfl, h⟩ := h
  have h9 : r = (0, y, t) ∧ (mret md = some .boolean → y = 0 ∨ y = 1) := by
    cases g with
    | zero =>
      have h : some ((0 : Nat), y, t) = some r := h
      cases h
      exact ⟨rfl, fun e => absurd e (hg rfl)⟩
    | succ g =>
      have h : (if y = 0 ∨ y = 1 then some ((0 : Nat), y, t) else none) = some r := h
      split at h
      · next e =>
        cases h
        exact ⟨rfl, fun _ => e⟩
      · cases h
  obtain ⟨rfl, hb⟩ := h9
  refine ⟨fun k => Int.le_refl _, fun α H locs cells slots ls sk hp hl hs => ?_⟩
  obtain ⟨sk1, rfl, hy, hs⟩ := hs.int
  rw [hs.nil]
  exact he.1 pc α H locs cells slots ls hp hd hr rfl hy hb
theorem aret_ok {g : Nat} (hc : CX x w md z r) (he : EE x w md z r) (hd : decode (mby md) pc = .ok (.areturn, 1)) (hr : (mrt md).1 = 2) (hg : g = (mrt md).2) (h : (pR S fun q y S => tst (Nat.beq q g) (pE S (some (0, y, t)))) = some r) : WA x w z r (mnl md) pc L S t := by
  replace h := pR_some h
  obtain ⟨a, q, y, S1, ha, rfl, h⟩ := h
  replace h := tst_some h
  obtain ⟨e, h⟩ := h
  have e2 : q = g := beq_1 e
  subst e2
  replace h := pE_some h
  obtain ⟨rfl, h⟩ := h
  cases h
  refine ⟨fun k => Int.le_refl _, fun α H locs cells slots ls sk hp hl hs => ?_⟩
  obtain ⟨sk1, rfl, hy1, hy2, hs⟩ := hs.ref ha
  rw [hs.nil]
  subst hg
  exact he.2.1 pc α H locs cells slots ls hp hd hr rfl hy1 hy2
theorem vret_ok (hc : CX x w md z r) (he : EE x w md z r) (hd : decode (mby md) pc = .ok (.return_, 1)) (hr : (mrt md).1 = 9) (h : pE S (some (0, 0, t)) = some r) : WA x w z r (mnl md) pc L S t := by
  replace h := pE_some h
  obtain ⟨rfl, h⟩ := h
  cases h
  refine ⟨fun k => Int.le_refl _, fun α H locs cells slots ls sk hp hl hs => ?_⟩
  rw [hs.nil]
  exact he.2.2.1 pc α H locs cells slots ls hp hd hr rfl
theorem thrw_ok {i n e : Nat} (hc : CX x w md z r) (ht : TT x w md z r) (hd : THK md pc i n e) (hb : thb md i e = true) (h : pE S (some (e, 0, thw t)) = some r) : WA x w z r (mnl md) pc L S t := by
  replace h := pE_some h
  obtain ⟨rfl, h⟩ := h
  have h9 : r = (e, 0, thw t) := (Option.some.inj h).symm
  refine ⟨fun k => ?_, fun α H locs cells slots ls sk hp hl hs => ?_⟩
  · rw [h9]
    show t.2 k ≤ if k = 19 then t.2 19 + 1 else t.2 k
    split
    · next e => rw [e]; omega
    · exact Int.le_refl _
  · rw [hs.nil]
    exact ht pc i n e α H locs cells slots ls t hp hd hb h9 (by obtain ⟨-, l, h9, -⟩ := hl; exact h9.1)
end STP
