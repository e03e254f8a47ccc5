/-! The rows of the small machine's instructions over the kit's. -/
def cNm (q : Nat) : String := match q with
  | 0 => RX0 | 1 => RX1 | 2 => RX2 | 3 => RX3 | 4 => RX4 | 5 => RX5 | 6 => RX6 | 7 => RX7 | 8 => RX8 | 9 => RX9 | 10 => RX10 | 11 => RX11 | _ => RX12
def cT (q : Nat) : u_T := match q with
  | 0 => TX0 | 1 => TX1 | 2 => TX2 | 3 => TX3 | 4 => TX4 | 5 => TX5 | 6 => TX6 | 7 => TX7 | 8 => TX8 | 9 => TX9 | 10 => TX10 | 11 => TX11 | _ => TX12
def cTy (q : Nat) : Nat → FieldType := match q with
  | 0 => tyX0 | 1 => tyX1 | 2 => tyX2 | 3 => tyX3 | 4 => tyX4 | 5 => tyX5 | 6 => tyX6 | 7 => tyX7 | 8 => tyX8 | 9 => tyX9 | 10 => tyX10 | 11 => tyX11 | _ => tyX12
theorem by13 {P : Nat → Prop} (h0 : P 0) (h1 : P 1) (h2 : P 2) (h3 : P 3) (h4 : P 4) (h5 : P 5) (h6 : P 6) (h7 : P 7) (h8 : P 8) (h9 : P 9) (h10 : P 10) (h11 : P 11) (h12 : P 12) {q : Nat} (hq : q ≤ 12) : P q := by
  match q, hq with
  | 0, _ => exact h0 | 1, _ => exact h1 | 2, _ => exact h2 | 3, _ => exact h3 | 4, _ => exact h4 | 5, _ => exact h5 | 6, _ => exact h6
  | 7, _ => exact h7 | 8, _ => exact h8 | 9, _ => exact h9 | 10, _ => exact h10 | 11, _ => exact h11 | 12, _ => exact h12
theorem cl_at {q : Nat} (hq : q ≤ 12) : vwCl[q]? = some (cNm q, cT q, nfl q) := by13 (P := fun q => vwCl[q]? = some (cNm q, cT q, nfl q)) rfl rfl rfl rfl rfl rfl rfl rfl rfl rfl rfl rfl rfl hq
set_option maxRecDepth 100000 in
theorem cl_words {q : Nat} (hq : q ≤ 12) : ∀ w ∈ u_ws (cNm q) (cT q) (nfl q), w ∈ TW := by
  refine by13 (P := fun q => ∀ w ∈ u_ws (cNm q) (cT q) (nfl q), w ∈ TW) ?_ ?_ ?_ ?_ ?_ ?_ ?_ ?_ ?_ ?_ ?_ ?_ ?_ hq <;> decide +kernel
theorem cl_ty {q : Nat} (hq : q ≤ 12) : ∀ k, k < nfl q → parseFieldDescriptor (cT q k).2.2.1 = some (cTy q k) :=
  by13 (P := fun q => ∀ k, k < nfl q → parseFieldDescriptor (cT q k).2.2.1 = some (cTy q k)) tyX0_ok tyX1_ok tyX2_ok tyX3_ok tyX4_ok tyX5_ok tyX6_ok tyX7_ok tyX8_ok tyX9_ok tyX10_ok tyX11_ok tyX12_ok hq
theorem cl_nm {q : Nat} (hq : q ≤ 12) : ∀ a, a < nfl q → ∀ b, b < nfl q → a ≠ b → (cT q a).2.1 ≠ (cT q b).2.1 :=
  by13 (P := fun q => ∀ a, a < nfl q → ∀ b, b < nfl q → a ≠ b → (cT q a).2.1 ≠ (cT q b).2.1) nmX0 nmX1 nmX2 nmX3 nmX4 nmX5 nmX6 nmX7 nmX8 nmX9 nmX10 nmX11 nmX12 hq
/-- the constants of references that don't change lead to what there is -/
theorem ftb_cnt {q : Nat} (hq : q ≤ 12) : ∀ j, j < nfl q → ((ftb q j).1 = 2 → cco q = cco (ftb q j).2) ∧ ((ftb q j).1 = 3 ∨ (ftb q j).1 = 4 → (cco q).1 = 0 ∧ cco (ftb q j).2 = (0, 2 * (cco q).2)) := by
  refine by13 (P := fun q => ∀ j, j < nfl q → ((ftb q j).1 = 2 → cco q = cco (ftb q j).2) ∧ ((ftb q j).1 = 3 ∨ (ftb q j).1 = 4 → (cco q).1 = 0 ∧ cco (ftb q j).2 = (0, 2 * (cco q).2))) ?_ ?_ ?_ ?_ ?_ ?_ ?_ ?_ ?_ ?_ ?_ ?_ ?_ hq <;> decide +kernel
theorem aty_obj {q : Nat} (hq : q ≤ 12) : ¬ (3 ≤ (aty q).1 ∧ (aty q).1 ≤ 7) := by
  refine by13 (P := fun q => ¬ (3 ≤ (aty q).1 ∧ (aty q).1 ≤ 7)) ?_ ?_ ?_ ?_ ?_ ?_ ?_ ?_ ?_ ?_ ?_ ?_ ?_ hq <;> decide +kernel
theorem ftb_arr {q : Nat} (hq : Nat.ble q 12 = false) (i : Nat) : (ftb q i).1 ≠ 1 := by
  have h : ¬ q ≤ 12 := fun e => by rw [Nat.ble_eq.mpr e] at hq; cases hq
  unfold ftb
  split <;> first | omega | decide
theorem lv_of {N : Cn} {q q2 : Nat} {n : Int} (h : cco q = cco q2) (hl : lv N q n) : lv N q2 n := by
  unfold lv cnt at hl ⊢
  rw [← h]; exact hl
theorem lv_two {N : Cn} {q q2 : Nat} {n : Int} (h : (cco q).1 = 0 ∧ cco q2 = (0, 2 * (cco q).2)) (hl : lv N q n) : lv N q2 (2 * n) ∧ lv N q2 (2 * n + 1) := by
  unfold lv cnt at hl ⊢
  rw [h.1] at hl
  rw [h.2]
  simp only at hl ⊢
  omega
/-- a field's link, the owner's or a nest mate's -/
def FLK (own : String) (i q j : Nat) : Prop := Cond.fieldLink own i (cT q j).1 (cT q j).2.1 (cT q j).2.2.1 ∈ TW ∨ Cond.fieldLinkNest own i (cT q j).1 (cT q j).2.1 (cT q j).2.2.1 "Floatparade" ∈ TW
section ROWS2
variable {x : Cx} {w : Wd} {md : MD} {z : Bg} {r : Rt} {pc : Nat} {L S : List PV} {t : St} {K : Co} {N : Nx}
variable {H : Heap} {locs : List Loc} {cells slots : Nat} {ls : Array Slot} {sk : List Value} {α : Al}
/-- a branch -/
theorem if_row {c : ClassFile.Cond} {o : Int} {g : Nat} {a : Int32} (hc : CX x w md z r) (hdg : decode (mby md) pc = .ok (.ifCond c o, 3)) (ht : (pc : Int) + o = (g : Int))
    (kt : cP c a 0 → Wx x H locs cells slots (F0 (xm x) g ls sk))
    (kf : ¬ cP c a 0 → Wx x H locs cells slots (F0 (xm x) (pc + 3) ls sk)) : Wx x H locs cells slots (F0 (xm x) pc ls (.int a :: sk)) := by
  obtain ⟨hx, hb, -⟩ := hc
  cases c
  · exact lv_if_eq hx hb hdg ht kt kf
  · exact lv_if_ne hx hb hdg ht kt (fun h => kf (fun q => q h))
  · exact lv_if_lt hx hb hdg ht kt kf
  · exact lv_if_ge hx hb hdg ht kt kf
  · exact lv_if_gt hx hb hdg ht kt kf
  · exact lv_if_le hx hb hdg ht kt kf
theorem icmp_row {c : ClassFile.Cond} {o : Int} {g : Nat} {a b : Int32} (hc : CX x w md z r) (hdg : decode (mby md) pc = .ok (.if_icmp c o, 3)) (ht : (pc : Int) + o = (g : Int))
    (kt : cP c a b → Wx x H locs cells slots (F0 (xm x) g ls sk))
    (kf : ¬ cP c a b → Wx x H locs cells slots (F0 (xm x) (pc + 3) ls sk)) : Wx x H locs cells slots (F0 (xm x) pc ls (.int b :: .int a :: sk)) := by
  obtain ⟨hx, hb, -⟩ := hc
  cases c
  · exact lv_icmp_eq hx hb hdg ht kt kf
  · exact lv_icmp_ne hx hb hdg ht kt (fun h => kf (fun q => q h))
  · exact lv_icmp_lt hx hb hdg ht kt kf
  · exact lv_icmp_ge hx hb hdg ht kt kf
  · exact lv_icmp_gt hx hb hdg ht kt kf
  · exact lv_icmp_le hx hb hdg ht kt kf
theorem if_ok {c : ClassFile.Cond} {o : Int} {g : Nat} (hc : CX x w md z r) (hdg : decode (mby md) pc = .ok (.ifCond c o, 3)) (ht : (pc : Int) + o = (g : Int)) (hk : Kon x w z r (mnl md) K) (hn : Nxt x w z r (mnl md) (pc + 3) N)
    (h : (pI S fun a S => cnd c a 0 (K g L S t) (N L S t)) = some r) : WA x w z r (mnl md) pc L S t := by
  replace h := pI_some h
  obtain ⟨q9, a, S1, rfl, h⟩ := h
  have hm : ∀ k, t.2 k ≤ r.2.2.2 k := by
    cases c <;> simp only [cnd] at h <;> split at h <;> first | exact (hk _ _ _ _ h).1 | exact (hn _ _ _ h).1
  refine ⟨hm, fun α H locs cells slots ls sk hp hl hs => ?_⟩
  obtain ⟨sk1, rfl, ha, hs⟩ := hs.int
  refine cnd_ok ha rg_0 h (fun h c1 => if_row hc hdg ht (fun _ => (hk _ _ _ _ h).2 α H locs cells slots ls _ hp hl hs) (fun c2 => absurd ?_ c2)) (fun h c1 => if_row hc hdg ht (fun c2 => absurd c2 ?_) (fun _ => (hn _ _ _ h).2 α H locs cells slots ls _ hp hl hs))
  · rw [i32_0] at c1; exact c1
  · rw [i32_0] at c1; exact c1
theorem icmp_ok {c : ClassFile.Cond} {o : Int} {g : Nat} (hc : CX x w md z r) (hdg : decode (mby md) pc = .ok (.if_icmp c o, 3)) (ht : (pc : Int) + o = (g : Int)) (hk : Kon x w z r (mnl md) K) (hn : Nxt x w z r (mnl md) (pc + 3) N)
    (h : (pI S fun b S => pI S fun a S => cnd c a b (K g L S t) (N L S t)) = some r) : WA x w z r (mnl md) pc L S t := by
  replace h := pI_some h
  obtain ⟨q9, b, S1, rfl, h1⟩ := h
  replace h1 := pI_some h1
  obtain ⟨q8, a, S2, rfl, h⟩ := h1
  have hm : ∀ k, t.2 k ≤ r.2.2.2 k := by
    cases c <;> simp only [cnd] at h <;> split at h <;> first | exact (hk _ _ _ _ h).1 | exact (hn _ _ _ h).1
  refine ⟨hm, fun α H locs cells slots ls sk hp hl hs => ?_⟩
  obtain ⟨sk1, rfl, hb, hs⟩ := hs.int
  obtain ⟨sk2, rfl, ha, hs⟩ := hs.int
  exact cnd_ok ha hb h (fun h c1 => icmp_row hc hdg ht (fun _ => (hk _ _ _ _ h).2 α H locs cells slots ls _ hp hl hs) (fun c2 => absurd c1 c2)) (fun h c1 => icmp_row hc hdg ht (fun c2 => absurd c2 c1) (fun _ => (hn _ _ _ h).2 α H locs cells slots ls _ hp hl hs))
theorem ifnull_ok {o : Int} {g : Nat} (hc : CX x w md z r) (hdg : decode (mby md) pc = .ok (.ifnull o, 3)) (ht : (pc : Int) + o = (g : Int)) (hk : Kon x w z r (mnl md) K) (hn : Nxt x w z r (mnl md) (pc + 3) N)
    (h : (pR S fun _ a S => if a = -1 then K g L S t else N L S t) = some r) : WA x w z r (mnl md) pc L S t := by
  replace h := pR_some h
  obtain ⟨a, q, y, S1, ha, rfl, h⟩ := h
  obtain ⟨hx, hb, -⟩ := hc
  by_cases e : y = -1
  · rw [if_pos e] at h
    refine ⟨(hk _ _ _ _ h).1, fun α H locs cells slots ls sk hp hl hs => ?_⟩
    obtain ⟨sk1, rfl, h1, h2, hs⟩ := hs.ref ha
    rw [rf_neg (by omega)]
    exact lv_ifnullN hx hb hdg ht ((hk _ _ _ _ h).2 α H locs cells slots ls _ hp hl hs)
  · rw [if_neg e] at h
    refine ⟨(hn _ _ _ h).1, fun α H locs cells slots ls sk hp hl hs => ?_⟩
    obtain ⟨sk1, rfl, h1, h2, hs⟩ := hs.ref ha
    rw [rf_pos (by omega)]
    exact lv_ifnull hx hb hdg ((hn _ _ _ h).2 α H locs cells slots ls _ hp hl hs)
theorem ifnonnull_ok {o : Int} {g : Nat} (hc : CX x w md z r) (hdg : decode (mby md) pc = .ok (.ifnonnull o, 3)) (ht : (pc : Int) + o = (g : Int)) (hk : Kon x w z r (mnl md) K) (hn : Nxt x w z r (mnl md) (pc + 3) N)
    (h : (pR S fun _ a S => if a = -1 then N L S t else K g L S t) = some r) : WA x w z r (mnl md) pc L S t := by
  replace h := pR_some h
  obtain ⟨a, q, y, S1, ha, rfl, h⟩ := h
  obtain ⟨hx, hb, -⟩ := hc
  by_cases e : y = -1
  · rw [if_pos e] at h
    refine ⟨(hn _ _ _ h).1, fun α H locs cells slots ls sk hp hl hs => ?_⟩
    obtain ⟨sk1, rfl, h1, h2, hs⟩ := hs.ref ha
    rw [rf_neg (by omega)]
    exact lv_ifnonnullN hx hb hdg ((hn _ _ _ h).2 α H locs cells slots ls _ hp hl hs)
  · rw [if_neg e] at h
    refine ⟨(hk _ _ _ _ h).1, fun α H locs cells slots ls sk hp hl hs => ?_⟩
    obtain ⟨sk1, rfl, h1, h2, hs⟩ := hs.ref ha
    rw [rf_pos (by omega)]
    exact lv_ifnonnull hx hb hdg ht ((hk _ _ _ _ h).2 α H locs cells slots ls _ hp hl hs)
theorem ro_inj (hr : HR w α t (xS x) H) {q : Nat} {a b : Int} (ha : -1 ≤ a ∧ a < cnt t.2 q) (hb : -1 ≤ b ∧ b < cnt t.2 q) : ro α q a = ro α q b ↔ a = b := by
  constructor
  · intro h
    unfold ro at h
    by_cases h1 : a < 0 <;> by_cases h2 : b < 0 <;> simp [h1, h2] at h
    · omega
    · exact (hr.2.1 q a q b ⟨by omega, ha.2⟩ ⟨by omega, hb.2⟩ h).2
  · intro h; rw [h]
theorem acmpeq_ok {o : Int} {g : Nat} (hc : CX x w md z r) (hdg : decode (mby md) pc = .ok (.if_acmp .eq o, 3)) (ht : (pc : Int) + o = (g : Int)) (hk : Kon x w z r (mnl md) K) (hn : Nxt x w z r (mnl md) (pc + 3) N)
    (h : (pR S fun q b S => pR S fun q' a S => tst (Nat.beq q' q) (if a = b then K g L S t else N L S t)) = some r) : WA x w z r (mnl md) pc L S t := by
  replace h := pR_some h
  obtain ⟨a1, q, b, S1, hb1, rfl, h1⟩ := h
  replace h1 := pR_some h1
  obtain ⟨a2, q', a, S2, ha1, rfl, h2⟩ := h1
  obtain ⟨e, h⟩ := tst_some h2
  have e := Nat.eq_of_beq_eq_true e
  subst e
  obtain ⟨hx, hb, -⟩ := hc
  have hm : ∀ k, t.2 k ≤ r.2.2.2 k := by split at h; exact (hk _ _ _ _ h).1; exact (hn _ _ _ h).1
  refine ⟨hm, fun α H locs cells slots ls sk hp hl hs => ?_⟩
  obtain ⟨sk1, rfl, g1, g2, hs⟩ := hs.ref hb1
  obtain ⟨sk2, rfl, g3, g4, hs⟩ := hs.ref ha1
  have hi := ro_inj hp.1 ⟨g3, g4⟩ ⟨g1, g2⟩
  refine lv_acmp_eq hx hb hdg ht (fun e => ?_) (fun e => ?_)
  · rw [if_pos (hi.mp e)] at h
    exact (hk _ _ _ _ h).2 α H locs cells slots ls _ hp hl hs
  · rw [if_neg (fun q => e (hi.mpr q))] at h
    exact (hn _ _ _ h).2 α H locs cells slots ls _ hp hl hs
theorem acmpne_ok {o : Int} {g : Nat} (hc : CX x w md z r) (hdg : decode (mby md) pc = .ok (.if_acmp .ne o, 3)) (ht : (pc : Int) + o = (g : Int)) (hk : Kon x w z r (mnl md) K) (hn : Nxt x w z r (mnl md) (pc + 3) N)
    (h : (pR S fun q b S => pR S fun q' a S => tst (Nat.beq q' q) (if a = b then N L S t else K g L S t)) = some r) : WA x w z r (mnl md) pc L S t := by
  replace h := pR_some h
  obtain ⟨a1, q, b, S1, hb1, rfl, h1⟩ := h
  replace h1 := pR_some h1
  obtain ⟨a2, q', a, S2, ha1, rfl, h2⟩ := h1
  obtain ⟨e, h⟩ := tst_some h2
  have e := Nat.eq_of_beq_eq_true e
  subst e
  obtain ⟨hx, hb, -⟩ := hc
  have hm : ∀ k, t.2 k ≤ r.2.2.2 k := by split at h; exact (hn _ _ _ h).1; exact (hk _ _ _ _ h).1
  refine ⟨hm, fun α H locs cells slots ls sk hp hl hs => ?_⟩
  obtain ⟨sk1, rfl, g1, g2, hs⟩ := hs.ref hb1
  obtain ⟨sk2, rfl, g3, g4, hs⟩ := hs.ref ha1
  have hi := ro_inj hp.1 ⟨g3, g4⟩ ⟨g1, g2⟩
  refine lv_acmp_ne hx hb hdg ht (fun e => ?_) (fun e => ?_)
  · rw [if_neg (fun q => e (hi.mpr q))] at h
    exact (hk _ _ _ _ h).2 α H locs cells slots ls _ hp hl hs
  · first
      | (have e' := hi.mp e; rw [if_pos e'] at h; exact (hn _ _ _ h).2 α H locs cells slots ls _ hp hl hs)
      | (have e' := hi.mp (Classical.not_not.mp e); rw [if_pos e'] at h; exact (hn _ _ _ h).2 α H locs cells slots ls _ hp hl hs)
/-! locals -/
theorem iload_ok {k ln : Nat} (hn : Nxt x w z r (mnl md) (pc + ln) N) (h : ldv L S k false t N = some r)
    (row : ∀ {H locs cells slots ls sk} {a : Int32}, ls[k]? = some (.val (.int a)) → Wx x H locs cells slots (F0 (xm x) (pc + ln) ls (.int a :: sk)) → Wx x H locs cells slots (F0 (xm x) pc ls sk)) : WA x w z r (mnl md) pc L S t := by
  replace h : ∃ q y, nth L k = (0, q, y) ∧ N L ((0, 0, y) :: S) t = some r := by
    unfold ldv at h
    split at h
    · next e _ => exact ⟨_, _, e, h⟩
    · next e e2 => cases e2
    · next e e2 => cases e2
    · next e e2 => cases e2
    · cases h
  obtain ⟨q, y, e, h⟩ := h
  obtain ⟨hm, hw⟩ := hn _ _ _ h
  refine ⟨hm, fun α H locs cells slots ls sk hp hl hs => ?_⟩
  obtain ⟨v, hv, hg, rfl⟩ := hl.get e (by simp)
  exact row hv (hw α H locs cells slots ls _ hp hl ⟨⟨hg, rfl⟩, hs⟩)
theorem aload_ok {k ln : Nat} (hn : Nxt x w z r (mnl md) (pc + ln) N) (h : ldv L S k true t N = some r)
    (row : ∀ {H locs cells slots ls sk} {a : Nat}, ls[k]? = some (.val (.ref a)) → Wx x H locs cells slots (F0 (xm x) (pc + ln) ls (.ref a :: sk)) → Wx x H locs cells slots (F0 (xm x) pc ls sk))
    (rowN : ∀ {H locs cells slots ls sk}, ls[k]? = some (.val .null) → Wx x H locs cells slots (F0 (xm x) (pc + ln) ls (.null :: sk)) → Wx x H locs cells slots (F0 (xm x) pc ls sk)) : WA x w z r (mnl md) pc L S t := by
  replace h : ∃ a q y, (a = 2 ∨ a = 3 ∨ a = 5) ∧ nth L k = (a, q, y) ∧ N L ((a, q, y) :: S) t = some r := by
    unfold ldv at h
    split at h
    · next e e2 => cases e2
    · next e _ => exact ⟨2, _, _, Or.inl rfl, e, h⟩
    · next e _ => exact ⟨3, _, _, Or.inr (Or.inl rfl), e, h⟩
    · next e _ => exact ⟨5, _, _, Or.inr (Or.inr rfl), e, h⟩
    · cases h
  obtain ⟨a, q, y, ha, e, h⟩ := h
  obtain ⟨hm, hw⟩ := hn _ _ _ h
  refine ⟨hm, fun α H locs cells slots ls sk hp hl hs => ?_⟩
  obtain ⟨v, hv, hg⟩ := hl.get e (by rcases ha with rfl | rfl | rfl <;> simp)
  have hw' := hw α H locs cells slots ls (v :: sk) hp hl ⟨hg, hs⟩
  rcases ha with rfl | rfl | rfl
  · obtain ⟨g1, g2, rfl⟩ := hg
    by_cases h0 : y < 0
    · rw [rf_neg h0] at hv hw'
      exact rowN hv hw'
    · rw [rf_pos (by omega)] at hv hw'
      exact row hv hw'
  · obtain ⟨g1, g2, rfl⟩ := hg
    exact row hv hw'
  · have hg : v = _ := hg
    subst hg
    exact row hv hw'
theorem LR.put {N : Cn} {nL : Nat} {l : List (Nat × Value)} (hL : L.length = nL) (h3 : ∀ q ∈ l, q.2.category = 1) (h4 : ∀ i : Nat, (nth L i).1 ≠ 7 → ∃ v, (i, v) ∈ l ∧ cR w α N (nth L i) v) {i : Nat} (hi : i < nL) {a : PV} {v : Value} (hv : cR w α N a v) (h1 : a.1 ≠ 1) {ls' : Array Slot}
    (h5 : lv_has ls' nL ((i, v) :: l.filter (fun q => !(q.1 == i) && !(q.1 + 1 == i && q.2.category == 2)))) : LR w α N nL (stv L i a) ls' := by
  refine ⟨by rw [len_stv]; exact hL, _, h5, ?_, ?_⟩
  · intro q hq
    rcases List.mem_cons.mp hq with e | e
    · rw [e]; exact hv.cat h1
    · exact h3 q (List.mem_filter.mp e).1
  · intro j hj
    rw [nth_stv L i a (by omega)] at hj ⊢
    by_cases e : j = i
    · rw [if_pos e]; subst e
      exact ⟨v, List.mem_cons_self, hv⟩
    · rw [if_neg e] at hj ⊢
      obtain ⟨u, hm, hu⟩ := h4 j hj
      refine ⟨u, List.mem_cons_of_mem _ (List.mem_filter.mpr ⟨hm, ?_⟩), hu⟩
      have hc := h3 _ hm
      simp [e, hc]
theorem istore_ok {k ln : Nat} (hk : k < mnl md) (hn : Nxt x w z r (mnl md) (pc + ln) N) (h : sti L S k t N = some r)
    (row : ∀ {H locs cells slots ls sk lv lv'} {a : Int32}, lv_has ls (mnl md) lv → k < mnl md → (k, Value.int a) :: lv.filter (fun q => !(q.1 == k) && !(q.1 + 1 == k && q.2.category == 2)) = lv' → (∀ ls', lv_has ls' (mnl md) lv' → Wx x H locs cells slots (F0 (xm x) (pc + ln) ls' sk)) → Wx x H locs cells slots (F0 (xm x) pc ls (.int a :: sk))) : WA x w z r (mnl md) pc L S t := by
  unfold sti at h
  replace h := pI_some h
  obtain ⟨q, y, S1, rfl, h⟩ := h
  obtain ⟨hm, hw⟩ := hn _ _ _ h
  refine ⟨hm, fun α H locs cells slots ls sk hp hl hs => ?_⟩
  obtain ⟨sk1, rfl, hy, hs⟩ := hs.int
  obtain ⟨hL, l, h2, h3, h4⟩ := hl
  exact row h2 hk rfl fun ls' h5 => hw α H locs cells slots ls' sk1 hp (LR.put (a := (0, 0, y)) hL h3 h4 hk ⟨hy, rfl⟩ (by simp) h5) hs
theorem astore_ok {k ln : Nat} (hk : k < mnl md) (hn : Nxt x w z r (mnl md) (pc + ln) N) (h : sta L S k t N = some r)
    (row : ∀ {H locs cells slots ls sk lv lv'} {a : Nat}, lv_has ls (mnl md) lv → k < mnl md → (k, Value.ref a) :: lv.filter (fun q => !(q.1 == k) && !(q.1 + 1 == k && q.2.category == 2)) = lv' → (∀ ls', lv_has ls' (mnl md) lv' → Wx x H locs cells slots (F0 (xm x) (pc + ln) ls' sk)) → Wx x H locs cells slots (F0 (xm x) pc ls (.ref a :: sk)))
    (rowN : ∀ {H locs cells slots ls sk lv lv'}, lv_has ls (mnl md) lv → k < mnl md → (k, Value.null) :: lv.filter (fun q => !(q.1 == k) && !(q.1 + 1 == k && q.2.category == 2)) = lv' → (∀ ls', lv_has ls' (mnl md) lv' → Wx x H locs cells slots (F0 (xm x) (pc + ln) ls' sk)) → Wx x H locs cells slots (F0 (xm x) pc ls (.null :: sk))) : WA x w z r (mnl md) pc L S t := by
  replace h : ∃ a q y S', (a = 2 ∨ a = 3 ∨ a = 8) ∧ S = (a, q, y) :: S' ∧ N (stv L k (a, q, y)) S' t = some r := by
    unfold sta at h
    split at h
    · exact ⟨2, _, _, _, Or.inl rfl, rfl, h⟩
    · exact ⟨3, _, _, _, Or.inr (Or.inl rfl), rfl, h⟩
    · exact ⟨8, _, _, _, Or.inr (Or.inr rfl), rfl, h⟩
    · cases h
  obtain ⟨a, q, y, S1, ha, rfl, h⟩ := h
  obtain ⟨hm, hw⟩ := hn _ _ _ h
  refine ⟨hm, fun α H locs cells slots ls sk hp hl hs => ?_⟩
  obtain ⟨v, sk1, rfl, hv, hs⟩ := hs.cons
  obtain ⟨hL, l, h2, h3, h4⟩ := hl
  have fin : ∀ ls', lv_has ls' (mnl md) ((k, v) :: l.filter (fun q => !(q.1 == k) && !(q.1 + 1 == k && q.2.category == 2))) → Wx x H locs cells slots (F0 (xm x) (pc + ln) ls' sk1) :=
    fun ls' h5 => hw α H locs cells slots ls' sk1 hp (LR.put hL h3 h4 hk hv (by rcases ha with rfl | rfl | rfl <;> simp) h5) hs
  rcases ha with rfl | rfl | rfl
  · obtain ⟨g1, g2, rfl⟩ := hv
    by_cases h0 : y < 0
    · rw [rf_neg h0] at fin ⊢
      exact rowN h2 hk rfl fin
    · rw [rf_pos (by omega)] at fin ⊢
      exact row h2 hk rfl fin
  · obtain ⟨g1, g2, rfl⟩ := hv
    exact row h2 hk rfl fin
  · obtain ⟨b, rfl⟩ := hv
    exact row h2 hk rfl fin
theorem iinc_ok {k : Nat} {n : Int} (hc : CX x w md z r) (hdg : decode (mby md) pc = .ok (.iinc k n, 3)) (hk : k < mnl md) (hn : Nxt x w z r (mnl md) (pc + 3) N) (h : iin L S k n t N = some r) : WA x w z r (mnl md) pc L S t := by
  replace h : ∃ q y, nth L k = (0, q, y) ∧ N (stv L k (0, 0, wr (y + n))) S t = some r := by
    unfold iin at h
    split at h
    · next e => exact ⟨_, _, e, h⟩
    · cases h
  obtain ⟨q, y, e, h⟩ := h
  obtain ⟨hx, hb, -⟩ := hc
  obtain ⟨hm, hw⟩ := hn _ _ _ h
  refine ⟨hm, fun α H locs cells slots ls sk hp hl hs => ?_⟩
  obtain ⟨hL, l, h2, h3, h4⟩ := hl
  obtain ⟨v, hm9, hv⟩ := h4 k (by rw [e]; simp)
  rw [e] at hv
  obtain ⟨hy, rfl⟩ := hv
  obtain ⟨k9, hk9⟩ := List.getElem?_of_mem hm9
  exact lv_iinc (k := k9) (v := i32 (wr (y + n))) hx hb hdg h2 hk9 (i32_add y n) hk rfl fun ls' h5 => hw α H locs cells slots ls' sk hp (LR.put (a := (0, 0, wr (y + n))) hL h3 h4 hk ⟨rg_wr _, rfl⟩ (by simp) h5) hs
end ROWS2
