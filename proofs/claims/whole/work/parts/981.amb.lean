/-! An ambulance crosses. -/
def cav (c m : St) (l r : Int) : Int := if r = gm m 121 0 l - 1 then gm c 25 l r - 1 else gm c 25 l r
theorem ecCellAt {c m : St} (hD : rlD c m) (hR : rlR c m) {l r : Int} (hl : 0 ≤ l ∧ l < 2) (h0 : 0 ≤ r) (h1 : r < gm m 121 0 l) : FX3_cellAt l r c = some (0, cav c m l r, c) := by
  obtain ⟨⟨r1, r2, r3⟩, -⟩ := hR l hl.1 hl.2
  have b := rlR.st_le hD hR hl r.toNat r (by omega) (by omega)
  have hr : 0 ≤ r ∧ r < 10 := by omega
  simp only [FX3_cellAt, fX3_cellAt_0, fX3_cellAt_20, fX3_cellAt_25, ecStartAtPlace, bnd_ok, r1, cav, if_pos hr]
  rw [wq (z := gm m 121 0 l - 1) (by omega) (by omega), wq (z := gm c 25 l r - 1) (by omega) (by omega)]
  split
  · rfl
  · rfl
theorem emCellOf_lp {c m : St} (hD : rlD c m) (hR : rlR c m) {l r : Int} (hl : 0 ≤ l ∧ l < 2) (h1 : r < gm m 121 0 l) (h2 : 2 ≤ gm m 121 0 l) : ∀ (d n : Nat) (i : Int), d < n → 0 ≤ i → i + d = r → fX12_cellOf_5 (kX12_cellOf n) 0 l r (gm c 25 l i) i m = some (0, cav c m l r, m)
  | 0, n, i, hn, h0, hi => by
    obtain ⟨⟨r1, r2, r3⟩, r4, -⟩ := hR l hl.1 hl.2
    have e : i = r := by omega
    subst e
    have b := rlR.st_le hD hR hl i.toNat i (by omega) (by omega)
    simp only [fX12_cellOf_5, fX12_cellOf_32, fX12_cellOf_54, fX12_cellOf_55, cav]
    rw [if_neg (by omega), if_pos hl, wq (z := gm m 121 0 l - 1) (by omega) (by omega), wq (z := gm c 25 l i - 1) (by omega) (by omega)]
    by_cases c1 : i = gm m 121 0 l - 1
    · rw [if_pos (by omega), if_pos c1, if_pos c1]
    · rw [if_neg c1, if_neg c1]
      simp
  | d + 1, n, i, hn, h0, hi => by
    obtain ⟨n, rfl⟩ : ∃ n', n = n' + 1 := ⟨n - 1, by omega⟩
    obtain ⟨⟨r1, r2, r3⟩, r4, r5, r6, r7⟩ := hR l hl.1 hl.2
    obtain ⟨e1, e2, e3⟩ := emStreetOf hD hR hl h0 (show i + 1 < gm m 121 0 l by omega)
    obtain ⟨-, -, s4⟩ := r6 (i + 1) (by omega) (by omega)
    rw [show i + 1 - 1 = i by omega] at s4
    have b := rlR.st_le hD hR hl (i + 1).toNat (i + 1) (by omega) (by omega)
    have hd := hD.1
    simp only [fX12_cellOf_5]
    rw [if_pos (by omega), e1]
    simp only [bnd_ok, ← s4]
    rw [if_pos (by omega), wq (by omega) (by omega), wq (z := i + 1) (by omega) (by omega), uX12_cellOf_5]
    exact emCellOf_lp hD hR hl h1 h2 d n (i + 1) (by omega) (by omega) (by omega)
theorem emCellOf {c m : St} (hD : rlD c m) (hR : rlR c m) {l r : Int} (hl : 0 ≤ l ∧ l < 2) (h0 : 0 ≤ r) (h1 : r < gm m 121 0 l) (h2 : 2 ≤ gm m 121 0 l) : FX12_cellOf 0 l r m = some (0, cav c m l r, m) := by
  obtain ⟨⟨r1, r2, r3⟩, r4, -⟩ := hR l hl.1 hl.2
  have := emCellOf_lp hD hR hl h1 h2 r.toNat 9999 0 (by omega) (by omega) (by omega)
  rw [r4] at this
  simp only [FX12_cellOf, fX12_cellOf_0]
  exact this
/-- the parts on a cell are counted -/
theorem on_lp {t : Int} {c m : St} (h : rl t c m) {l x y : Int} (hl : 0 ≤ l ∧ l < 2) (hy : -1 ≤ y ∧ y ≤ 1000) : ∀ (d n : Nat) (i acc tot : Int), d < n → 0 ≤ i → i + d = gm m 134 0 l → 0 ≤ acc → acc ≤ i → 0 ≤ tot ∧ tot + d ≤ 1000 →
    ∃ v : Int, 0 ≤ v ∧ v ≤ d ∧ fX1_partsOn_4 (kX1_partsOn n) l y acc i c = some (0, acc + v, c) ∧ (∀ n2 : Nat, 0 ≤ y → fX12_ambulance_81 (kX12_ambulance (n2 + d)) 0 x tot l y (60 * l + i) m = fX12_ambulance_132 (kX12_ambulance n2) 0 x (tot + v) l m) ∧ (y < 0 → v = 0)
  | 0, n, i, acc, tot, hn, h0, hi, ha, ha2, ht => by
    obtain ⟨L1, ⟨L2, L3, L4⟩, -⟩ := h.hL.1 l hl.1 hl.2
    refine ⟨0, by omega, by omega, ?_, fun n2 _ => ?_, fun _ => rfl⟩
    · simp only [fX1_partsOn_4, fX1_partsOn_59, L2]
      rw [if_neg (by omega), Int.add_zero]
    · simp only [fX12_ambulance_81]
      rw [if_pos hl, wq (z := 60 * l) (by omega) (by omega), wq (by omega) (by omega), if_neg (by omega), Int.add_zero]
      rfl
  | d + 1, n, i, acc, tot, hn, h0, hi, ha, ha2, ht => by
    obtain ⟨n, rfl⟩ : ∃ n', n = n' + 1 := ⟨n - 1, by omega⟩
    obtain ⟨L1, ⟨L2, L3, L4⟩, -⟩ := h.hL.1 l hl.1 hl.2
    obtain ⟨⟨p0, P⟩, -, -⟩ := h.prt hl h0 (show i < gm m 134 0 l by omega)
    obtain ⟨-, -, ⟨p3, p4, p5⟩, ⟨p6, p7, p8⟩, -⟩ := id P
    have p1 : ¬ gm c 28 l i = -1 := by omega
    have ep := ecPartAt (a0 := l) (a1 := i) (s := c) (by omega) (by omega)
    rw [L2, if_pos (by omega)] at ep
    have et := ecTail (a0 := gm c 28 l i) (s := c) (by omega) (by omega) (by omega) (by omega)
    rw [p3, p6] at et
    have mt := emTailOf (a0 := 0) (a1 := 60 * l + i) (s := m) (by omega) (by omega) (by omega) (by omega) (by omega) (by omega)
    have w1 : wr (i + 1) = i + 1 := wq (by omega) (by omega)
    have w2 : wr (wr (60 * l) + gm m 134 0 l) = 60 * l + gm m 134 0 l := by rw [wq (z := 60 * l) (by omega) (by omega), wq (by omega) (by omega)]
    have w3 : wr (60 * l + i + 1) = 60 * l + (i + 1) := by rw [wq (by omega) (by omega)]; omega
    have w4 : wr (acc + 0) = acc := by rw [wq (by omega) (by omega)]; omega
    have w5 : wr (acc + 1) = acc + 1 := wq (by omega) (by omega)
    have w6 : wr (tot + 0) = tot := by rw [wq (by omega) (by omega)]; omega
    have w7 : wr (tot + 1) = tot + 1 := wq (by omega) (by omega)
    by_cases hc : 0 ≤ y ∧ gm m 138 0 (60 * l + i) - gm m 137 0 (60 * l + i) + 1 ≤ y ∧ y ≤ gm m 138 0 (60 * l + i)
    · obtain ⟨v, v1, v2, v3, v4, v5⟩ := on_lp h (x := x) hl hy d n (i + 1) (acc + 1) (tot + 1) (by omega) (by omega) (by omega) (by omega) (by omega) (by omega)
      refine ⟨1 + v, by omega, by omega, ?_, fun n2 hy0 => ?_, fun z => by omega⟩
      · simp only [fX1_partsOn_4, fX1_partsOn_50, fX1_partsOn_51, L2, ep, bnd_ok]
        rw [if_pos (by omega), if_neg p1, if_neg (by omega), if_pos p0, et]
        simp only [bnd_ok, ecWithin, p3]
        rw [if_pos p0, if_pos hc.2, if_neg (by omega), uX1_partsOn_4, w1, w5, v3, show acc + 1 + v = acc + (1 + v) by omega]
      · rw [show n2 + (d + 1) = (n2 + d) + 1 from rfl]
        simp only [fX12_ambulance_81, w2]
        rw [if_pos hl, if_pos (by omega), mt]
        simp only [bnd_ok, emIn]
        rw [if_pos (by omega), if_pos hc.2, if_neg (by omega)]
        simp only [fX12_ambulance_124, w7, w3, uX12_ambulance_81]
        rw [v4 n2 hy0, show tot + 1 + v = tot + (1 + v) by omega]
    · obtain ⟨v, v1, v2, v3, v4, v5⟩ := on_lp h (x := x) hl hy d n (i + 1) acc tot (by omega) (by omega) (by omega) (by omega) (by omega) (by omega)
      refine ⟨v, by omega, by omega, ?_, fun n2 hy0 => ?_, v5⟩
      · simp only [fX1_partsOn_4, fX1_partsOn_50, fX1_partsOn_51, L2, ep, bnd_ok]
        rw [if_pos (by omega), if_neg p1]
        by_cases hy1 : y < 0
        · rw [if_pos hy1, uX1_partsOn_4, w1, w4, v3]
        · rw [if_neg hy1, if_pos p0, et]
          simp only [bnd_ok, ecWithin, p3]
          rw [if_pos p0, if_neg (fun z => hc ⟨by omega, z⟩), if_pos rfl, uX1_partsOn_4, w1, w4, v3]
      · rw [show n2 + (d + 1) = (n2 + d) + 1 from rfl]
        simp only [fX12_ambulance_81, w2]
        rw [if_pos hl, if_pos (by omega), mt]
        simp only [bnd_ok, emIn]
        rw [if_pos (by omega), if_neg (fun z => hc ⟨hy0, z⟩), if_pos rfl]
        simp only [fX12_ambulance_123, fX12_ambulance_124, w6, w3, uX12_ambulance_81]
        exact v4 n2 hy0
