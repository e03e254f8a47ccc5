/-! A minute of a march. -/
def mvT : List (Nat × Option Int) := [(1, some 3), (2, some 2), (2, some 4), (2, some 5), (29, none), (6, some 12), (6, some 13), (6, some 14)]
def mvU : List (Nat × Option Int) := [(131, none), (138, none), (139, none), (140, none), (141, none), (143, none), (144, none), (145, none)]
/-- what a minute of a league's march leaves as it was -/
def mvF (l : Int) (c m c' m' : St) : Prop := (Kp mvT c c' ∧ Kp mvU m m' ∧ c'.2 = c.2 ∧ m'.2 = m.2) ∧ (∀ z f : Int, z ≠ l → gm c' 1 z f = gm c 1 z f) ∧ (∀ z k : Int, z ≠ l → gm c' 29 z k = gm c 29 z k) ∧ (∀ z : Int, z ≠ l → gm m' 131 0 z = gm m 131 0 z) ∧
  (∀ i f : Int, (∀ k : Int, 0 ≤ k → k < gm m 134 0 l → i ≠ gm c 28 l k) → gm c' 2 i f = gm c 2 i f) ∧ (∀ j : Int, (j < 60 * l ∨ 60 * l + 60 ≤ j) → gm m' 138 0 j = gm m 138 0 j ∧ gm m' 139 0 j = gm m 139 0 j ∧ gm m' 140 0 j = gm m 140 0 j) ∧
  (∀ j : Int, (j < 12 * l ∨ 12 * l + 12 ≤ j) → gm m' 141 0 j = gm m 141 0 j) ∧ (∀ i, gm m 143 0 i ≠ -1 → gm m' 143 0 i ≠ -1) ∧ ∀ i, gm m 12 0 1 ≤ i → gm m' 145 0 i = gm m 145 0 i
theorem mvF.rf (l : Int) (c m : St) : mvF l c m c m := ⟨⟨Kp.rf _ _, Kp.rf _ _, rfl, rfl⟩, fun _ _ _ => rfl, fun _ _ _ => rfl, fun _ _ => rfl, fun _ _ _ => rfl, fun _ _ => ⟨rfl, rfl, rfl⟩, fun _ _ => rfl, fun _ h => h, fun _ _ => rfl⟩
theorem mvF.tr {l : Int} {c m c' m' c2 m2 : St} (h : mvF l c m c' m') (g : mvF l c' m' c2 m2) : mvF l c m c2 m2 := by
  obtain ⟨⟨h1, h2, h3, h4⟩, a1, a2, a3, a4, a5, a6, a7, a8⟩ := h
  obtain ⟨⟨g1, g2, g3, g4⟩, b1, b2, b3, b4, b5, b6, b7, b8⟩ := g
  refine ⟨⟨h1.tr g1, h2.tr g2, g3.trans h3, g4.trans h4⟩, fun z f hz => (b1 z f hz).trans (a1 z f hz), fun z f hz => (b2 z f hz).trans (a2 z f hz), fun z hz => (b3 z hz).trans (a3 z hz), fun i f hi => ?_, fun j hj => ?_, fun j hj => (b6 j hj).trans (a6 j hj), fun i hi => b7 i (a7 i hi), fun i hi => (b8 i (by rw [h2.k (by decide)]; exact hi)).trans (a8 i hi)⟩
  · refine (b4 i f (fun k k0 k1 => ?_)).trans (a4 i f hi)
    rw [h1.k (by decide)]
    exact hi k k0 (by rw [h2.k (by decide)] at k1; exact k1)
  · obtain ⟨x1, x2, x3⟩ := a5 j hj
    obtain ⟨y1, y2, y3⟩ := b5 j hj
    exact ⟨y1.trans x1, y2.trans x2, y3.trans x3⟩
theorem mvF.ad {l : Int} {c m c' m' : St} (h : adF l c m c' m') : mvF l c m c' m' := by
  obtain ⟨h1, h2, h3, h4, h5, h6⟩ := h
  exact ⟨⟨h1.wk (by decide), h2.wk (by decide), h3, h4⟩, fun z f _ => h1.k (by decide) _ _, fun z k _ => h1.k (by decide) _ _, fun z _ => h2.k (by decide) _ _, h5, fun j hj => ⟨(h6 j hj).1, h2.k (by decide) _ _, (h6 j hj).2⟩, fun j _ => h2.k (by decide) _ _, fun i hi => by rw [h2.k (by decide)]; exact hi, fun i _ => h2.k (by decide) _ _⟩
theorem mvF.cl {l : Int} {c m c' m' : St} (h : clF c m c' m') : mvF l c m c' m' := by
  obtain ⟨h1, h2, h3, h4, h5, h6⟩ := h
  exact ⟨⟨h1.wk (by decide), h2.wk (by decide), h3, h4⟩, fun z f _ => h1.k (by decide) _ _, fun z k _ => h1.k (by decide) _ _, fun z _ => h2.k (by decide) _ _, fun i f _ => h1.k (by decide) _ _, fun j _ => ⟨h2.k (by decide) _ _, h2.k (by decide) _ _, h2.k (by decide) _ _⟩, fun j _ => h2.k (by decide) _ _, h5, h6⟩
theorem lin.hold {t l : Int} {c m c' m' : St} (H : lin t l c m) (hl : 0 ≤ l ∧ l < 2) (hc : Kp [(2, some 4), (29, none)] c c') (hm : Kp [(139, none), (141, none)] m m') (n1 : c'.2 = c.2)
    (x4 : ∀ j : Int, 0 ≤ j → j < gm m 134 0 l → gm c' 2 (gm c 28 l j) 4 = max 0 (gm c 2 (gm c 28 l j) 4 - 1)) (y9 : ∀ j : Int, 0 ≤ j → j < gm m 134 0 l → gm m' 139 0 (60 * l + j) = max 0 (gm m 139 0 (60 * l + j) - 1))
    (x9 : ∀ k : Int, 0 ≤ k → k < 12 → gm c' 29 l k = max 0 (gm c 29 l k - 1)) (y1 : ∀ k : Int, 0 ≤ k → k < 12 → gm m' 141 0 (12 * l + k) = max 0 (gm m 141 0 (12 * l + k) - 1)) : lin t l c' m' := by
  obtain ⟨⟨h1, h2, h3⟩, h4, h5, h6, h7, h8, h9, h10, h11⟩ := H
  obtain ⟨-, -, r5, -⟩ := h2 l hl.1 hl.2
  refine ⟨⟨rlD.kp h1 hc hm (by decide) (by rw [n1]), rlR.kp h2 hc hm (by decide), rlJ.kp h3 hc hm (by decide)⟩, ?_⟩
  simp only [rlP] at h7 ⊢
  simp only [hc.k (show frk _ 1 = true by decide), hc.k (show frk _ 11 = true by decide), hc.k (show frk _ 28 = true by decide), hc.f (show fre _ 2 0 = true by decide), hc.f (show fre _ 2 1 = true by decide), hc.f (show fre _ 2 2 = true by decide), hc.f (show fre _ 2 3 = true by decide), hc.f (show fre _ 2 5 = true by decide),
      hm.k (show frk _ 12 = true by decide), hm.k (show frk _ 134 = true by decide), hm.k (show frk _ 135 = true by decide), hm.k (show frk _ 136 = true by decide), hm.k (show frk _ 137 = true by decide), hm.k (show frk _ 138 = true by decide), hm.k (show frk _ 140 = true by decide), hm.k (show frk _ 121 = true by decide), hm.k (show frk _ 122 = true by decide), hm.k (show frk _ 102 = true by decide), hm.k (show frk _ 124 = true by decide)]
  refine ⟨h4, h5, h6, fun i i0 i1 => ?_, h8, fun k k0 k1 => ?_, fun j j0 j1 => ?_, h11⟩
  · obtain ⟨a0, a1, a2, a3, a4, ⟨a5, a51, a52⟩, a6⟩ := h7 i i0 i1
    rw [x4 i i0 i1, y9 i i0 i1]
    refine ⟨a0, a1, a2, a3, a4, ⟨by rw [a5], by omega, by omega⟩, a6⟩
  · rw [x9 k k0 k1, y1 k k0 k1]
    have := h9 k k0 k1
    omega
  · obtain ⟨-, q2, q3⟩ := r5 j j0 j1
    rw [x9 _ q2 q3, y1 _ q2 q3, h10 j j0 j1]
/-- between two minutes -/
def mvX (t l B G : Int) (c m : St) : Prop := lin t l c m ∧ (∀ i : Int, 0 ≤ i → i < gm m 12 0 1 → (gm c 6 i 12 = gm m 143 0 i ∧ -1 ≤ gm m 143 0 i ∧ gm m 143 0 i ≤ B) ∧ (gm c 6 i 13 = gm m 144 0 i ∧ -1 ≤ gm m 144 0 i ∧ gm m 144 0 i ≤ B) ∧ (gm c 6 i 14 = gm m 145 0 i ∧ 0 ≤ gm m 145 0 i ∧ gm m 145 0 i ≤ G)) ∧
  (gm c 1 l 3 = gm m 131 0 l ∧ 0 ≤ gm m 131 0 l ∧ gm m 131 0 l ≤ B) ∧ ∀ k : Int, 0 ≤ k → k < gm m 134 0 l → 0 ≤ gm m 138 0 (60 * l + k) → gm m 143 0 (gm m 135 0 (60 * l + k)) ≠ -1
theorem min_one {t l B G : Int} {c m : St} (X : mvX t l B G c m) (hl : 0 ≤ l ∧ l < 2) (hn : 0 ≤ gm m 12 0 1 ∧ gm m 12 0 1 ≤ 10) (ht : t ≤ 1000) (hB : B ≤ 1000000) (hG : G ≤ 8000000) :
    ∃ c' m' o, (o = 0 ∨ o = 1) ∧ mvX t l (B + 1) (G + 60) c' m' ∧ mvF l c m c' m' ∧ FX12_goes 0 l m = some (0, o, m') ∧ FX1_passMinute l l 0 (gm c 11 0 6) c = if o = 1 then some (0, 0, c') else bnd (FX1_end l c') fun _ s => some (0, 0, s) := by
  obtain ⟨H, X1, ⟨X2, X21, X22⟩, X3⟩ := X
  obtain ⟨-, -, ⟨e5, e51, e52⟩, -⟩ := id H
  have i1 : ¬ (1 : Int) = 0 := by omega
  -- the minute
  have kA : Kp [(1, some 3)] c (pm c 1 l 3 (gm m 131 0 l + 1)) := Kp.pm (Kp.rf _ _) (Or.inr (by decide))
  have kA' : Kp [(131, none)] m (pm m 131 0 l (gm m 131 0 l + 1)) := Kp.pm (Kp.rf _ _) (Or.inl (by decide))
  have nA : (pm c 1 l 3 (gm m 131 0 l + 1)).2 = c.2 := rfl
  have nA' : (pm m 131 0 l (gm m 131 0 l + 1)).2 = m.2 := rfl
  have xA : ∀ z f, gm (pm c 1 l 3 (gm m 131 0 l + 1)) 1 z f = if z = l ∧ f = 3 then gm m 131 0 l + 1 else gm c 1 z f := fun z f => by simp [gm_pm]
  have yA : ∀ z, gm (pm m 131 0 l (gm m 131 0 l + 1)) 131 0 z = if z = l then gm m 131 0 l + 1 else gm m 131 0 z := fun z => by simp [gm_pm]
  have HA := H.kp kA kA' (by decide) (by rw [nA])
  have EA : FX1_passMinute l l 0 (gm c 11 0 6) c = fX1_passMinute_19 (kX1_passMinute 9999) l l 0 (gm c 11 0 6) (clv c m l) 0 (pm c 1 l 3 (gm m 131 0 l + 1)) := by
    have w1 : wr (gm c 1 l 3 + 1) = gm m 131 0 l + 1 := by rw [X2, wq (by omega) (by omega)]
    have e1 := ecCellsV HA.1.2.1 hl
    have x1 : clv (pm c 1 l 3 (gm m 131 0 l + 1)) (pm m 131 0 l (gm m 131 0 l + 1)) l = clv c m l := rfl
    rw [x1] at e1
    simp only [FX1_passMinute, fX1_passMinute_0, w1, e1, bnd_ok]
  have EA' : FX12_goes 0 l m = fX12_goes_12 (kX12_goes 9999) 0 l 0 (pm m 131 0 l (gm m 131 0 l + 1)) := by
    have w1 : wr (gm m 131 0 l + 1) = gm m 131 0 l + 1 := wq (by omega) (by omega)
    simp only [FX12_goes, fX12_goes_0, w1, if_pos hl]
  have FA : mvF l c m (pm c 1 l 3 (gm m 131 0 l + 1)) (pm m 131 0 l (gm m 131 0 l + 1)) := by
    refine ⟨⟨kA.wk (by decide), kA'.wk (by decide), nA, nA'⟩, fun z f hz => ?_, fun z k _ => kA.k (by decide) _ _, fun z hz => ?_, fun i f _ => kA.k (by decide) _ _, fun j _ => ⟨kA'.k (by decide) _ _, kA'.k (by decide) _ _, kA'.k (by decide) _ _⟩, fun j _ => kA'.k (by decide) _ _, fun i hi => by rw [kA'.k (by decide)]; exact hi, fun i _ => kA'.k (by decide) _ _⟩
    · rw [xA, if_neg (fun y => hz y.1)]
    · rw [yA, if_neg hz]
  rw [EA, EA']
  have xA3 : gm (pm c 1 l 3 (gm m 131 0 l + 1)) 1 l 3 = gm m 131 0 l + 1 := by rw [xA, if_pos ⟨rfl, rfl⟩]
  have yA3 : gm (pm m 131 0 l (gm m 131 0 l + 1)) 131 0 l = gm m 131 0 l + 1 := by rw [yA, if_pos rfl]
  generalize pm c 1 l 3 (gm m 131 0 l + 1) = cA at kA nA xA HA FA xA3 ⊢
  generalize pm m 131 0 l (gm m 131 0 l + 1) = mA at kA' nA' yA HA FA yA3 ⊢
  -- the parts
  have a134 : gm mA 134 0 l = gm m 134 0 l := kA'.k (by decide) _ _
  obtain ⟨cB, mB, b1, b2, HB, fB⟩ := mov_lp (r := gm c 11 0 6) (x := clv c m l) hl (gm m 134 0 l).toNat 9999 9999 0 cA mA HA (kA.k (by decide) _ _) (by omega) (by omega) (by omega) (by rw [a134]; omega)
  obtain ⟨kB, kB', nB, nB', -⟩ := id fB
  rw [b1, b2]
  have FB := FA.tr (mvF.ad fB)
  have b12 : gm mB 12 0 1 = gm m 12 0 1 := by rw [kB'.k (by decide), kA'.k (by decide)]
  have b134 : gm mB 134 0 l = gm m 134 0 l := by rw [kB'.k (by decide), a134]
  have clB : clv cB mB l = clv c m l := by unfold clv; rw [kB.k (by decide), kB'.k (by decide), kA.k (by decide), kA'.k (by decide)]
  have MB : gm cB 1 l 3 = gm mB 131 0 l ∧ 0 ≤ gm mB 131 0 l ∧ gm mB 131 0 l ≤ B + 1 := by
    rw [kB.k (by decide), kB'.k (by decide), xA3, yA3]
    omega
  -- the clocks
  have IB : clkI l (clv c m l) (B + 1) G 0 cB mB := by
    refine ⟨fun i i0 i1 => ?_, fun j j0 j1 => by omega⟩
    rw [b12] at i1
    obtain ⟨z1, z2, z3⟩ := X1 i i0 i1
    rw [kB.k (show frk _ 6 = true by decide), kB.k (show frk _ 6 = true by decide), kB.k (show frk _ 6 = true by decide), kA.k (show frk _ 6 = true by decide), kA.k (show frk _ 6 = true by decide), kA.k (show frk _ 6 = true by decide), kB'.k (show frk _ 143 = true by decide), kB'.k (show frk _ 144 = true by decide), kB'.k (show frk _ 145 = true by decide), kA'.k (show frk _ 143 = true by decide), kA'.k (show frk _ 144 = true by decide), kA'.k (show frk _ 145 = true by decide)]
    rw [if_neg (fun y => by have := y.1.1; omega)]
    omega
  obtain ⟨cC, mC, c1, c2, IC, fC⟩ := clk_lp (t := t) (x := clv c m l) (B := B + 1) (G := G) hl (by omega) (gm m 134 0 l).toNat (9999 - (gm m 134 0 l).toNat) 9999 0 cB mB HB (by rw [b12]; exact hn.2) clB IB MB (by omega) (by omega) (by omega) (by rw [b134]; omega)
  obtain ⟨kC, kC', nC, nC', -⟩ := id fC
  have HC := HB.kp kC kC' (by decide) (by rw [nC])
  have FC := FB.tr (mvF.cl fC)
  have EB : fX1_passMinute_46 (kX1_passMinute (9999 - (gm m 134 0 l).toNat)) l (clv c m l) 0 cB = fX1_passMinute_77 (kX1_passMinute (9999 - (gm m 134 0 l).toNat - (gm m 134 0 l).toNat)) l (clv c m l) cC := c1
  have w60 : wr (60 * l) = 60 * l := wq (by omega) (by omega)
  have EB' : fX12_goes_43 (kX12_goes (9999 - (gm m 134 0 l).toNat)) 0 l mB = fX12_goes_53 (kX12_goes (9999 - (gm m 134 0 l).toNat)) 0 l (60 * l) mC := by
    obtain ⟨cl0, cl1, -⟩ := clv_le HB.1.1 HB.1.2.1 hl
    have e1 := emCellsV HB.1.1 HB.1.2.1 hl
    rw [clB] at e1 cl0 cl1
    have w1 : wr (clv c m l - 1) = clv c m l - 1 := wq (by omega) (by omega)
    have e2 : FX12_looksAtClocks 0 l mB = some (0, 0, mC) := by
      simp only [FX12_looksAtClocks, fX12_looksAtClocks_0, e1, bnd_ok, w1]
      exact c2
    simp only [fX12_goes_43, e2, bnd_ok, w60]
  rw [EB, EB']
  -- stops and holds
  have c134 : gm mC 134 0 l = gm m 134 0 l := by rw [kC'.k (by decide), b134]
  obtain ⟨-, -, ⟨g5, -, -⟩, -, g7, g8, g9, -⟩ := id HC
  rw [c134] at g5 g7 g8
  obtain ⟨cD, d1, d2, d3, d4, d5⟩ := ecStops_lp (l := l) (e := gm m 134 0 l) (gm m 134 0 l).toNat 9999 0 cC g5 e52 (fun j j0 j1 => by
    obtain ⟨p0, -, -, -, -, ⟨p1, p2, p3⟩, -⟩ := g7 j j0 j1
    omega) g8 (by omega) (by omega) (by omega)
  obtain ⟨cE, f1, f2, f3, f4⟩ := ecHolds_lp (l := l) 12 (9999 - (gm m 134 0 l).toNat) 0 cD (fun j j0 j1 => by
    rw [d2.k (by decide)]
    have := g9 j j0 j1
    omega) (by omega) (by omega) (by omega)
  obtain ⟨mD, d1', d2', d3', d4'⟩ := emStops_lp (e := gm m 134 0 l) hl (gm m 134 0 l).toNat (9999 - (gm m 134 0 l).toNat) 0 mC c134 e52 (fun j j0 j1 => by
    obtain ⟨p0, -, -, -, -, ⟨p1, p2, p3⟩, -⟩ := g7 j j0 j1
    omega) (by omega) (by omega) (by omega)
  obtain ⟨mE, f1', f2', f3', f4'⟩ := emHolds_lp hl 12 (9999 - (gm m 134 0 l).toNat - (gm m 134 0 l).toNat) 0 mD (fun j j0 j1 => by
    rw [d2'.k (by decide)]
    have := g9 j j0 j1
    omega) (by omega) (by omega) (by omega)
  have kE : Kp [(2, some 4), (29, none)] cC cE := (d2.wk (by decide)).tr (f2.wk (by decide))
  have kE' : Kp [(139, none), (141, none)] mC mE := (d2'.wk (by decide)).tr (f2'.wk (by decide))
  have nE : cE.2 = cC.2 := f3.trans d3
  have nE' : mE.2 = mC.2 := f3'.trans d3'
  have e134 : gm mE 134 0 l = gm m 134 0 l := by rw [kE'.k (by decide), c134]
  have HE : lin t l cE mE := HC.hold hl kE kE' nE (fun j j0 j1 => by
      rw [c134] at j1
      rw [f2.k (by decide)]; exact d4 j j0 j1) (fun j j0 j1 => by
      rw [c134] at j1
      rw [f2'.k (by decide), d4', if_pos (by omega)]) (fun k k0 k1 => by
      rw [f4, if_pos ⟨rfl, k0, k1⟩, d2.k (by decide)]) (fun k k0 k1 => by
      rw [f4', if_pos (by omega), d2'.k (by decide)])
  have FE : mvF l cC mC cE mE := by
    refine ⟨⟨kE.wk (by decide), kE'.wk (by decide), nE, nE'⟩, fun z f _ => kE.k (by decide) _ _, fun z k hz => ?_, fun z hz => kE'.k (by decide) _ _, fun i f hi => ?_, fun j hj => ⟨kE'.k (by decide) _ _, ?_, kE'.k (by decide) _ _⟩, fun j hj => ?_, fun i hi => by rw [kE'.k (by decide)]; exact hi, fun i _ => kE'.k (by decide) _ _⟩
    · rw [f4, if_neg (fun y => hz y.1), d2.k (by decide)]
    · rw [f2.k (by decide)]
      by_cases ef : f = 4
      · rw [ef]
        exact d5 i (fun j j0 j1 => hi j j0 (by rw [c134]; exact j1))
      · exact d2.f (by simp [fre]; omega) i
    · rw [f2'.k (by decide), d4', if_neg (by omega)]
    · rw [f4', if_neg (by omega), d2'.k (by decide)]
  have FF := FC.tr FE
  have clE : clv cE mE l = clv c m l := by unfold clv; rw [kE.k (by decide), kE'.k (by decide), kC.k (by decide), kC'.k (by decide)]; exact clB
  have ph : FX1_passHolds l cC = some (0, 0, cE) := by
    simp only [FX1_passHolds, fX1_passHolds_0]
    rw [d1, f1]
  rw [Int.add_zero] at d1' f1'
  rw [d1', f1']
  have XE : mvX t l (B + 1) (G + 60) cE mE := by
    refine ⟨HE, fun i i0 i1 => ?_, ?_, fun k k0 k1 k2 => ?_⟩
    · rw [kE'.k (by decide), kC'.k (by decide), b12] at i1
      obtain ⟨z1, z2, z3, z4, z5⟩ := IC.1 i i0 (by rw [kC'.k (by decide), b12]; exact i1)
      rw [kE.k (show frk _ 6 = true by decide), kE.k (show frk _ 6 = true by decide), kE.k (show frk _ 6 = true by decide), kE'.k (show frk _ 143 = true by decide), kE'.k (show frk _ 144 = true by decide), kE'.k (show frk _ 145 = true by decide)]
      rw [if_neg (fun y => by
        have := y.1.2.1
        rw [c134, b134] at this
        omega)] at z3
      rw [b134] at z5
      exact ⟨z1, z2, by omega, z4, by omega⟩
    · rw [kE.k (show frk _ 1 = true by decide), kE'.k (show frk _ 131 = true by decide), kC.k (show frk _ 1 = true by decide), kC'.k (show frk _ 131 = true by decide)]
      exact MB
    · rw [e134] at k1
      rw [kE'.k (by decide)] at k2
      rw [kE'.k (show frk _ 143 = true by decide), kE'.k (show frk _ 135 = true by decide)]
      exact IC.2 k k0 (by rw [b134]; exact k1) k2
  -- who is last
  obtain ⟨o1, o2, o3, o4, o5⟩ := HE.out (k := gm m 134 0 l - 1) hl (by omega) (by rw [e134]; omega)
  rw [clE] at o1 o2
  have w9 : wr (gm m 134 0 l - 1) = gm m 134 0 l - 1 := wq (by omega) (by omega)
  have e2 : gm cE 1 l 2 = gm m 134 0 l := by rw [HE.2.2.1.1, e134]
  obtain ⟨p0, -⟩ := HE.2.2.2.2.1 (gm m 134 0 l - 1) (by omega) (by rw [e134]; omega)
  by_cases z : clv c m l ≤ gm mE 138 0 (60 * l + (gm m 134 0 l - 1)) - gm mE 137 0 (60 * l + (gm m 134 0 l - 1)) + 1
  · rw [if_pos z] at o1 o2
    refine ⟨cE, mE, 0, Or.inl rfl, XE, FF, ?_, ?_⟩
    · simp only [fX12_goes_142, fX12_goes_162, fX12_goes_163, if_pos hl, e134, w9, o2, bnd_ok, if_neg i1, z01, or_true, true_or, if_true]
    · simp only [fX1_passMinute_77, fX1_passMinute_108, fX1_passMinute_112, ph, bnd_ok, e2, w9, o5, if_neg (show ¬ gm cE 28 l (gm m 134 0 l - 1) = -1 by omega), if_pos p0, o1, if_neg i1]
      rw [if_neg (by omega)]
  · rw [if_neg z] at o1 o2
    refine ⟨cE, mE, 1, Or.inr rfl, XE, FF, ?_, ?_⟩
    · simp only [fX12_goes_142, fX12_goes_162, fX12_goes_163, if_pos hl, e134, w9, o2, bnd_ok, o01, or_true, true_or, if_true]
    · simp only [fX1_passMinute_77, fX1_passMinute_108, fX1_passMinute_112, ph, bnd_ok, e2, w9, o5, if_neg (show ¬ gm cE 28 l (gm m 134 0 l - 1) = -1 by omega), if_pos p0, o1, if_true]
