/-! The order is found. -/
theorem inC.kp {T U : List (Nat × Option Int)} {l : Int} {c c' m m' : St} (h : inC l c m) (hc : Kp T c c') (hm : Kp U m m') (d1 : (frk T 6 && frk T 0 && frk T 13) = true) (d2 : (fre U 12 1 && frk U 125 && frk U 102 && frk U 124 && frk U 129) = true) : inC l c' m' := by
  simp only [Bool.and_eq_true] at d1 d2
  obtain ⟨⟨a1, a2⟩, a3⟩ := d1
  obtain ⟨⟨⟨⟨b1, b2⟩, b3⟩, b4⟩, b5⟩ := d2
  obtain ⟨h1, h2, h3, h4, h5⟩ := h
  refine ⟨by rw [hm.f b1]; exact h1, fun i i0 i1 => ?_, by rw [hc.k a2, hm.k b5]; exact h3, by rw [hc.k a2]; exact h4, fun i i0 i1 => by rw [hc.k a3, hm.f b1]; exact h5 i i0 i1⟩
  rw [hm.f b1] at i1
  rw [hc.k a1, hc.k a1, hc.k a1, hc.k a1, hm.k b2, hm.k b3, hm.k b4]
  exact h2 i i0 i1
/-- the row that is being filled -/
def INS (l i e : Int) (c m : St) : Prop := gm c 4 (2 * l) 1 = e ∧ (0 ≤ e ∧ e ≤ i) ∧ (∀ k : Int, 0 ≤ k → k < e → gm c 27 (2 * l) k = gm m 127 0 (10 * l + k) ∧ (0 ≤ gm m 127 0 (10 * l + k) ∧ gm m 127 0 (10 * l + k) < i) ∧ gm m 102 0 (gm m 127 0 (10 * l + k)) = l ∧ gm m 124 0 (gm m 127 0 (10 * l + k)) = 1) ∧
  (∀ k k' : Int, 0 ≤ k → k < k' → k' < e → rk m l (gm m 127 0 (10 * l + k)) < rk m l (gm m 127 0 (10 * l + k'))) ∧ ∀ j : Int, 0 ≤ j → j < i → gm m 102 0 j = l → gm m 124 0 j = 1 → ∃ k : Int, (0 ≤ k ∧ k < e) ∧ gm m 127 0 (10 * l + k) = j
/-- what else may change by it -/
def FR (l : Int) (c m c' m' : St) : Prop := Kp [(27, none), (4, some 1)] c c' ∧ Kp [(127, none)] m m' ∧ (∀ z i : Int, z ≠ 2 * l → gm c' 27 z i = gm c 27 z i ∧ gm c' 4 z 1 = gm c 4 z 1) ∧ (∀ j : Int, (j < 10 * l ∨ 10 * l + 10 ≤ j) → gm m' 127 0 j = gm m 127 0 j) ∧ c'.2 = c.2 ∧ m'.2 = m.2
theorem FR.rf (l : Int) (c m : St) : FR l c m c m := ⟨Kp.rf _ _, Kp.rf _ _, fun _ _ _ => ⟨rfl, rfl⟩, fun _ _ => rfl, rfl, rfl⟩
theorem FR.tr {l : Int} {c m c' m' c2 m2 : St} (h : FR l c m c' m') (g : FR l c' m' c2 m2) : FR l c m c2 m2 := by
  obtain ⟨h1, h2, h3, h4, h5, h6⟩ := h
  obtain ⟨g1, g2, g3, g4, g5, g6⟩ := g
  exact ⟨h1.tr g1, h2.tr g2, fun z i hz => ⟨(g3 z i hz).1.trans (h3 z i hz).1, (g3 z i hz).2.trans (h3 z i hz).2⟩, fun j hj => (g4 j hj).trans (h4 j hj), g5.trans h5, g6.trans h6⟩
/-- one more comes in -/
theorem ins_step {l i e : Int} (hl : 0 ≤ l ∧ l < 2) {c m : St} (h : inC l c m) (g : INS l i e c m) (h0 : 0 ≤ i) (h1 : i < gm m 12 0 1) (h2 : gm m 102 0 i = l) (h3 : gm m 124 0 i = 1) :
    ∃ p c' m', FX0_orderPlace l i (gm m 12 0 28) c = some (0, p, c) ∧ FX4_insert (2 * l) p i c = some (0, 0, c') ∧ (∃ d : Nat, d ≤ 10 ∧ ∀ n : Nat, fX12_findsOrder_34 (kX12_findsOrder (n + d)) 0 l e i e m = fX12_findsOrder_113 (kX12_findsOrder n) 0 l (e + 1) i m') ∧ FR l c m c' m' ∧ INS l (i + 1) (e + 1) c' m' := by
  obtain ⟨g1, g2, g3, g4, g5⟩ := g
  have hn := h.1
  obtain ⟨-, -, hl1, -, -⟩ := h.2.1 i h0 h1
  have lot : ∀ q : Int, 0 ≤ q → q < gm m 12 0 1 → 0 ≤ gm m 125 0 q ∧ gm m 125 0 q ≤ 99 := fun q q0 q1 => (h.2.1 q q0 q1).2.2.1
  have cmp : ∀ k : Int, 0 ≤ k → k < e → (ky m l i < ky m l (gm m 127 0 (10 * l + k)) ↔ rk m l i < rk m l (gm m 127 0 (10 * l + k))) ∧ rk m l (gm m 127 0 (10 * l + k)) ≠ rk m l i := fun k k0 k1 => by
    obtain ⟨-, x1, -⟩ := g3 k k0 k1
    exact ky_rk x1.1 x1.2 (by omega) (lot _ x1.1 (by omega)) hl1
  obtain ⟨p, p1, p2, p3, p4⟩ := ecOrdPl_lp h g1 (by omega) (fun k k0 k1 => by rw [(g3 k k0 k1).1]; have := (g3 k k0 k1).2.1; omega) ⟨h0, h1⟩ e.toNat 9999 (e - 1) e (by omega) (by omega) (by omega) (by omega) (fun j j0 j1 => by omega) (Or.inl rfl)
  have up : ∀ j : Int, p ≤ j → j < e → rk m l i < rk m l (gm m 127 0 (10 * l + j)) := fun j j0 j1 => by
    rcases p4 with p4 | p4
    · omega
    · rw [(g3 p (by omega) (by omega)).1] at p4
      have a1 := (cmp p (by omega) (by omega)).1.mp p4
      by_cases ej : j = p
      · rw [ej]; exact a1
      · have := g4 p j (by omega) (by omega) j1
        omega
  have dn : ∀ j : Int, 0 ≤ j → j < p → rk m l (gm m 127 0 (10 * l + j)) < rk m l i := fun j j0 j1 => by
    have a1 := p3 j j0 j1
    rw [(g3 j j0 (by omega)).1] at a1
    obtain ⟨a2, a3⟩ := cmp j j0 (by omega)
    have : ¬ rk m l i < rk m l (gm m 127 0 (10 * l + j)) := fun z => a1 (a2.mpr z)
    omega
  obtain ⟨c', i1, i2, i2b, i3, i4, i5⟩ := ecInsert (q := i) g1 (show 0 ≤ e ∧ e < 10 by omega) p2
  obtain ⟨m1, m2, m3, m3b, m4⟩ := emShift_lp (e := e) hl p2.1 (e - p).toNat e m h (by omega) (by omega) ⟨h0, h1, h2⟩ (fun j j0 j1 => ⟨(g3 j j0 j1).2.1.1, by have := (g3 j j0 j1).2.1; omega, (g3 j j0 j1).2.2.1⟩) up (fun z => by have := dn (p - 1) (by omega) (by omega); omega)
  have w2 : wr (wr (10 * l) + p) = 10 * l + p := by
    rw [wq (z := 10 * l) (by omega) (by omega), wq (by omega) (by omega)]
  have row : ∀ j : Int, 0 ≤ j → j < e + 1 → gm (pm m1 127 0 (10 * l + p) i) 127 0 (10 * l + j) = if j = p then i else if p < j then gm m 127 0 (10 * l + (j - 1)) else gm m 127 0 (10 * l + j) := fun j j0 j1 => by
    rw [gm_pm]
    by_cases e1 : j = p
    · rw [if_pos (by omega), if_pos e1]
    · rw [if_neg (by omega), if_neg e1, m4]
      by_cases e2 : p < j
      · rw [if_pos (by omega), if_pos e2]
        congr 1; omega
      · rw [if_neg (by omega), if_neg e2]
  have km : Kp [(127, none)] m (pm m1 127 0 (10 * l + p) i) := Kp.pm m3 (Or.inl (by decide))
  have hr : ∀ z, rk (pm m1 127 0 (10 * l + p) i) l z = rk m l z := rk_kp km (by decide) l
  refine ⟨p, c', pm m1 127 0 (10 * l + p) i, ?_, i1, ⟨(e - p).toNat, by omega, fun n => ?_⟩, ⟨i2, km, i3, fun j hj => ?_, i2b, m3b⟩, i4, by omega, fun k k0 k1 => ?_, fun k k' k0 k1 k2 => ?_, fun j j0 j1 j2 j3 => ?_⟩
  · simp only [FX0_orderPlace, fX0_orderPlace_0, g1]
    rw [wq (by omega) (by omega)]
    exact p1
  · rw [m2 n]
    simp only [fX12_findsOrder_97, w2]
    rw [if_pos (by omega), wq (by omega) (by omega)]
  · rw [gm_pm, if_neg (by omega), m4, if_neg (by omega)]
  · rw [row k k0 k1, i5, km.k (by decide), km.k (by decide)]
    by_cases e1 : k = p
    · rw [if_pos e1, if_pos e1]
      exact ⟨rfl, by omega, h2, h3⟩
    · rw [if_neg e1, if_neg e1]
      by_cases e2 : p < k
      · rw [if_pos e2, if_pos (by omega)]
        have := g3 (k - 1) (by omega) (by omega)
        exact ⟨this.1, by omega, this.2.2⟩
      · rw [if_neg e2, if_neg (by omega)]
        have := g3 k k0 (by omega)
        exact ⟨this.1, by omega, this.2.2⟩
  · rw [hr, hr, row k k0 (by omega), row k' (by omega) k2]
    by_cases e1 : k = p
    · rw [if_pos e1, if_neg (by omega), if_pos (by omega)]
      exact up _ (by omega) (by omega)
    · rw [if_neg e1]
      by_cases e2 : p < k
      · rw [if_pos e2, if_neg (by omega), if_pos (by omega)]
        exact g4 _ _ (by omega) (by omega) (by omega)
      · rw [if_neg e2]
        by_cases e3 : k' = p
        · rw [if_pos e3]
          exact dn _ k0 (by omega)
        · rw [if_neg e3]
          split
          · have a1 := dn k k0 (by omega)
            have a2 := up (k' - 1) (by omega) (by omega)
            omega
          · exact g4 _ _ k0 k1 (by omega)
  · rw [km.k (by decide)] at j2 j3
    by_cases e1 : j = i
    · exact ⟨p, by omega, by rw [row p (by omega) (by omega), if_pos rfl, e1]⟩
    · obtain ⟨k, k1, k2⟩ := g5 j j0 (by omega) j2 j3
      by_cases e2 : k < p
      · exact ⟨k, by omega, by rw [row k (by omega) (by omega), if_neg (by omega), if_neg (by omega), k2]⟩
      · refine ⟨k + 1, by omega, ?_⟩
        rw [row (k + 1) (by omega) (by omega), if_neg (by omega), if_pos (by omega), ← k2]
        congr 1; omega
theorem ecFind_rest {l : Int} {c m : St} (h : inC l c m) : ∀ (d n : Nat) (i : Int), d < n → i + d = 10 → 0 ≤ i → gm m 12 0 1 ≤ i → fX0_findOrder_9 (kX0_findOrder n) l 0 (gm m 12 0 28) i c = bnd (FX4_partFeuds (2 * l) c) fun _ s1 => some (0, 0, s1)
  | 0, n, i, hn, hi, h0, h1 => by
    simp only [fX0_findOrder_9, fX0_findOrder_51]
    rw [if_neg (by omega)]
  | d + 1, n, i, hn, hi, h0, h1 => by
    obtain ⟨n, rfl⟩ : ∃ n', n = n' + 1 := ⟨n - 1, by omega⟩
    have := ecFind_rest h d n (i + 1) (by omega) (by omega) (by omega) (by omega)
    simp only [fX0_findOrder_9, fX0_findOrder_45]
    rw [if_pos (by omega), if_pos (by omega), h.2.2.2.2 i h0 (by omega), if_neg (by omega), ecHasEntrant _ _ _ (by omega), if_neg (by omega)]
    simp only [bnd_ok, uX0_findOrder_9, if_true]
    rw [wq (by omega) (by omega)]
    exact this
theorem find_lp {l : Int} (hl : 0 ≤ l ∧ l < 2) : ∀ (d n n2 : Nat) (i e : Int) (c m : St), inC l c m → INS l i e c m → i + d = 10 → d < n → 11 * d + 100 ≤ n2 → 0 ≤ i → i ≤ gm m 12 0 1 →
    ∃ c' m' e' n3, 20 ≤ n3 ∧ fX0_findOrder_9 (kX0_findOrder n) l 0 (gm m 12 0 28) i c = (bnd (FX4_partFeuds (2 * l) c') fun _ s1 => some (0, 0, s1)) ∧ fX12_findsOrder_4 (kX12_findsOrder n2) 0 l e i m = fX12_findsOrder_119 (kX12_findsOrder n3) 0 l e' m' ∧ FR l c m c' m' ∧ INS l (gm m 12 0 1) e' c' m'
  | 0, n, n2, i, e, c, m, h, g, hi, hn, hn2, h0, h1 => by
    have hN := h.1
    have e9 : i = gm m 12 0 1 := by omega
    refine ⟨c, m, e, n2, by omega, ?_, ?_, FR.rf _ _ _, by rw [← e9]; exact g⟩
    · exact ecFind_rest h 0 n i hn hi h0 (by omega)
    · simp only [fX12_findsOrder_4]
      rw [if_neg (by omega)]
  | d + 1, n, n2, i, e, c, m, h, g, hi, hn, hn2, h0, h1 => by
    have hN := h.1
    by_cases e9 : i = gm m 12 0 1
    · refine ⟨c, m, e, n2, by omega, ?_, ?_, FR.rf _ _ _, by rw [← e9]; exact g⟩
      · exact ecFind_rest h (d + 1) n i hn hi h0 (by omega)
      · simp only [fX12_findsOrder_4]
        rw [if_neg (by omega)]
    · obtain ⟨n, rfl⟩ : ∃ n', n = n' + 1 := ⟨n - 1, by omega⟩
      have w1 : wr (i + 1) = i + 1 := wq (by omega) (by omega)
      have hi2 : i < gm m 12 0 1 := by omega
      obtain ⟨s1, s2, s3, s4, s5, s6⟩ := h.2.1 i h0 hi2
      have t13 : gm c 13 0 i = i := by rw [h.2.2.2.2 i h0 (by omega), if_pos hi2]
      have he := ecHasEntrant l i c (by omega)
      rw [s4, s5, h.2.2.2.1] at he
      by_cases hent : gm m 102 0 i = l ∧ gm m 124 0 i = 1
      · obtain ⟨p, c1, m1, p1, p2, p3, p4, p5⟩ := ins_step hl h g h0 hi2 hent.1 hent.2
        obtain ⟨dd, d1, d2⟩ := p3
        obtain ⟨n4, rfl⟩ : ∃ n4, n2 = n4 + 1 + dd := ⟨n2 - dd - 1, by omega⟩
        have n1 := p4.2.1.f (k := 12) (j := 1) (by decide) 0
        have n28 := p4.2.1.f (k := 12) (j := 28) (by decide) 0
        obtain ⟨c', m', e', n3, q1, q2, q3, q4, q5⟩ := find_lp hl d n n4 (i + 1) (e + 1) c1 m1 (h.kp p4.1 p4.2.1 (by decide) (by decide)) p5 (by omega) (by omega) (by omega) (by omega) (by rw [n1]; omega)
        rw [n28] at q2
        rw [n1] at q5
        refine ⟨c', m', e', n3, q1, ?_, ?_, p4.tr q4, q5⟩
        · rw [if_pos (by omega)] at he
          simp only [fX0_findOrder_9, fX0_findOrder_45, t13, he, bnd_ok]
          rw [if_pos (by omega), if_pos (by omega), if_neg (by omega), p1]
          simp only [bnd_ok]
          rw [p2]
          simp only [bnd_ok, uX0_findOrder_9, w1]
          exact q2
        · have d3 := d2 (n4 + 1)
          simp only [fX12_findsOrder_4]
          rw [if_pos (by omega), if_pos (by omega), if_pos hent.1, if_pos (by omega), if_neg (by omega), d3]
          simp only [fX12_findsOrder_113, w1, uX12_findsOrder_4]
          exact q3
      · have g2 : INS l (i + 1) e c m := by
          obtain ⟨g1, g2, g3, g4, g5⟩ := g
          refine ⟨g1, by omega, fun k k0 k1 => ?_, g4, fun j j0 j1 j2 j3 => ?_⟩
          · have := g3 k k0 k1
            exact ⟨this.1, by omega, this.2.2⟩
          · by_cases ej : j = i
            · exact absurd (ej ▸ ⟨j2, j3⟩) hent
            · exact g5 j j0 (by omega) j2 j3
        obtain ⟨n2, rfl⟩ : ∃ n', n2 = n' + 1 := ⟨n2 - 1, by omega⟩
        obtain ⟨c', m', e', n3, q1, q2, q3, q4, q5⟩ := find_lp hl d n n2 (i + 1) e c m h g2 (by omega) (by omega) (by omega) (by omega) (by omega)
        refine ⟨c', m', e', n3, q1, ?_, ?_, q4, q5⟩
        · rw [if_neg (by omega)] at he
          simp only [fX0_findOrder_9, fX0_findOrder_45, t13, he, bnd_ok]
          rw [if_pos (by omega), if_pos (by omega)]
          simp only [uX0_findOrder_9, w1, if_true]
          exact q2
        · simp only [fX12_findsOrder_4, fX12_findsOrder_113]
          rw [if_pos (by omega), if_pos (by omega)]
          by_cases g1 : gm m 102 0 i = l
          · rw [if_pos g1, if_pos (by omega), if_pos (by omega), uX12_findsOrder_4, w1]; exact q3
          · rw [if_neg g1, uX12_findsOrder_4, w1]; exact q3
/-- the order of one league, found anew by both -/
theorem finds {l : Int} (hl : 0 ≤ l ∧ l < 2) {c m : St} (h : inC l c m) (hF : rlF c m) : ∃ e c' m', FX0_findOrder l 0 (gm m 12 0 28) c = some (0, 0, c') ∧ FX12_findsOrder 0 l m = some (0, 0, m') ∧ Kp [(27, none), (4, some 1)] c c' ∧ Kp [(127, none), (126, none)] m m' ∧
    (∀ z i : Int, z ≠ 2 * l → gm c' 27 z i = gm c 27 z i ∧ gm c' 4 z 1 = gm c 4 z 1) ∧ (∀ j : Int, (j < 10 * l ∨ 10 * l + 10 ≤ j) → gm m' 127 0 j = gm m 127 0 j) ∧ (∀ z : Int, z ≠ l → gm m' 126 0 z = gm m 126 0 z) ∧ gm m' 126 0 l = e ∧ rwc l e c' m' ∧ dis m' l e ∧ (∀ q, mem m' l e q ↔ (0 ≤ q ∧ q < gm m 12 0 1) ∧ gm m 102 0 q = l ∧ gm m 124 0 q = 1) ∧ c'.2 = c.2 ∧ m'.2 = m.2 := by
  have hN := h.1
  have k0 : Kp [(4, some 1)] c (pm c 4 (2 * l) 1 0) := Kp.pm (Kp.rf _ _) (Or.inr (by decide))
  obtain ⟨c1, m1, e, n3, f1, f2, f3, f4, f5⟩ := find_lp hl 10 9999 9999 0 0 (pm c 4 (2 * l) 1 0) m (h.kp k0 (Kp.rf [] m) (by decide) (by decide)) ⟨by simp [gm_pm], by omega, fun k k0 k1 => by omega, fun k k' k0 k1 k2 => by omega, fun j j0 j1 => by omega⟩ (by omega) (by omega) (by omega) (by omega) (by omega)
  obtain ⟨g1, g2, g3, g4, g5⟩ := f5
  obtain ⟨v1, v2, v3, v4, v5, v6⟩ := f4
  have u1 : gm m1 12 0 1 = gm m 12 0 1 := v2.f (by decide) 0
  have kc : Kp [(27, none), (4, some 1)] c c1 := (k0.wk (by decide)).tr v1
  have km2 : Kp [(126, none)] m1 (pm m1 126 0 l e) := Kp.pm (Kp.rf _ _) (Or.inl (by decide))
  have km : Kp [(127, none), (126, none)] m (pm m1 126 0 l e) := (v2.wk (by decide)).tr (km2.wk (by decide))
  have hr : rwc l e c1 (pm m1 126 0 l e) := ⟨g1, by omega, fun k k0 k1 => by
    have := g3 k k0 k1
    rw [km2.k (by decide), km2.f (by decide), u1]
    exact ⟨this.1, this.2.1⟩⟩
  have hf : rwf c1 (pm m1 126 0 l e) := by
    refine ⟨by rw [km.f (by decide)]; exact hN, fun i i0 i1 => ?_, hF.kp kc km (by decide)⟩
    rw [km.f (by decide)] at i1
    rw [kc.k (by decide)]
    exact (h.2.1 i i0 i1).1
  obtain ⟨ff, p1, p2⟩ := emFirst hf hl hr (by simp [gm_pm])
  obtain ⟨c', m', q1, q2, r1, r2, r3, r4, r5, r6, r7, r8, r9⟩ := parts_lp hl 10 9999 n3 0 ff e c1 (pm m1 126 0 l e) hf hr (by simp [gm_pm]) p2 (by omega) (by omega) (by omega) (by omega)
  have at1 : ∀ k : Int, gm (pm m1 126 0 l e) 127 0 k = gm m1 127 0 k := fun k => by rw [km2.k (by decide)]
  have hd : dis (pm m1 126 0 l e) l e := by
    intro k k' a0 a1 a2 a3 a4
    rw [at1, at1] at a4
    by_cases z1 : k < k'
    · have := g4 k k' a0 z1 a3
      rw [a4] at this; omega
    · by_cases z2 : k' < k
      · have := g4 k' k a2 z2 a1
        rw [a4] at this; omega
      · omega
  refine ⟨e, c', m', ?_, ?_, kc.tr (r1.wk (by decide)), km.tr (r2.wk (by decide)), fun z i hz => ?_, fun j hj => ?_, fun z hz => ?_, ?_, r5, r7 hd, fun q => ?_, r8.trans v5, r9.trans v6⟩
  · simp only [FX0_findOrder, fX0_findOrder_0, FX4_clear, fX4_clear_0, bnd_ok]
    rw [f2]
    simp only [FX4_partFeuds, fX4_partFeuds_0]
    rw [q1]
    rfl
  · simp only [FX12_findsOrder, fX12_findsOrder_0]
    rw [f3]
    simp only [fX12_findsOrder_119, if_pos hl]
    rw [p1]
    exact q2
  · rw [r3 z i hz, (v3 z i hz).1, r1.k (by decide), (v3 z i hz).2]
    simp [gm_pm, hz]
  · rw [r4 j hj, at1, v4 j hj]
  · rw [r2.k (by decide), gm_pm, if_neg (fun w => hz w.2.2), v2.k (by decide)]
  · rw [r2.k (by decide)]; simp [gm_pm]
  · rw [r6 q]
    constructor
    · rintro ⟨k, a0, a1, a2⟩
      rw [at1] at a2
      have := g3 k a0 a1
      rw [a2, v2.k (by decide), v2.k (by decide)] at this
      exact ⟨this.2.1, this.2.2⟩
    · rintro ⟨b1, b2, b3⟩
      obtain ⟨k, a0, a1⟩ := g5 q b1.1 b1.2 (by rw [v2.k (by decide)]; exact b2) (by rw [v2.k (by decide)]; exact b3)
      exact ⟨k, a0.1, a0.2, by rw [at1]; exact a1⟩
