/-! A part moves. -/
/-- the line of a league, as it is within a minute too -/
def lin (t l : Int) (c m : St) : Prop := (rlD c m ∧ rlR c m ∧ rlJ c m) ∧ 2 ≤ gm m 121 0 l ∧ (gm c 1 l 2 = gm m 134 0 l ∧ 0 < gm m 134 0 l ∧ gm m 134 0 l ≤ 60) ∧ gm c 11 0 6 = gm m 12 0 42 ∧
  (∀ k : Int, 0 ≤ k → k < gm m 134 0 l → 0 ≤ gm c 28 l k ∧ rlP t c m (gm c 28 l k) (60 * l + k) l) ∧
  (∀ k k' : Int, 0 ≤ k → k < gm m 134 0 l → 0 ≤ k' → k' < gm m 134 0 l → gm c 28 l k = gm c 28 l k' → k = k') ∧
  (∀ k : Int, 0 ≤ k → k < 12 → (0 ≤ gm c 29 l k ∧ gm c 29 l k ≤ 2) ∧ (0 ≤ gm m 141 0 (12 * l + k) ∧ gm m 141 0 (12 * l + k) ≤ 2)) ∧
  (∀ j : Int, 0 ≤ j → j < gm m 121 0 l → gm c 29 l (gm m 122 0 (10 * l + j)) = gm m 141 0 (12 * l + gm m 122 0 (10 * l + j))) ∧
  (∀ k : Int, 0 ≤ k → k + 1 < gm m 134 0 l → 0 ≤ gm m 138 0 (60 * l + (k + 1)) → 0 ≤ gm m 138 0 (60 * l + k))
def adT : List (Nat × Option Int) := [(2, some 2), (2, some 5)]
def adU : List (Nat × Option Int) := [(138, none), (140, none)]
def adF (l : Int) (c m c' m' : St) : Prop := Kp adT c c' ∧ Kp adU m m' ∧ c'.2 = c.2 ∧ m'.2 = m.2 ∧ (∀ i f : Int, (∀ k : Int, 0 ≤ k → k < gm m 134 0 l → i ≠ gm c 28 l k) → gm c' 2 i f = gm c 2 i f) ∧ ∀ j : Int, (j < 60 * l ∨ 60 * l + 60 ≤ j) → gm m' 138 0 j = gm m 138 0 j ∧ gm m' 140 0 j = gm m 140 0 j
theorem adF.rf (l : Int) (c m : St) : adF l c m c m := ⟨Kp.rf _ _, Kp.rf _ _, rfl, rfl, fun _ _ _ => rfl, fun _ _ => ⟨rfl, rfl⟩⟩
theorem adF.tr {l : Int} {c m c' m' c2 m2 : St} (h : adF l c m c' m') (g : adF l c' m' c2 m2) : adF l c m c2 m2 := by
  obtain ⟨h1, h2, h3, h4, h5, h6⟩ := h
  obtain ⟨g1, g2, g3, g4, g5, g6⟩ := g
  refine ⟨h1.tr g1, h2.tr g2, g3.trans h3, g4.trans h4, fun i f hi => ?_, fun j hj => ⟨(g6 j hj).1.trans (h6 j hj).1, (g6 j hj).2.trans (h6 j hj).2⟩⟩
  refine (g5 i f (fun k k0 k1 => ?_)).trans (h5 i f hi)
  rw [h1.k (by decide)]
  exact hi k k0 (by rw [h2.k (by decide)] at k1; exact k1)
/-- one part's front and wait are changed on both sides -/
theorem lin.st {t l k F w : Int} {c m c' m' : St} (H : lin t l c m) (hl : 0 ≤ l ∧ l < 2) (k0 : 0 ≤ k) (k1 : k < gm m 134 0 l) (hc : Kp adT c c') (hm : Kp adU m m') (n1 : c'.2 = c.2) (n2 : m'.2 = m.2)
    (x2 : ∀ i, gm c' 2 i 2 = if i = gm c 28 l k then F else gm c 2 i 2) (x5 : ∀ i, gm c' 2 i 5 = if i = gm c 28 l k then w else gm c 2 i 5) (y8 : ∀ j, gm m' 138 0 j = if j = 60 * l + k then F else gm m 138 0 j) (y0 : ∀ j, gm m' 140 0 j = if j = 60 * l + k then w else gm m 140 0 j)
    (hF : gm m 138 0 (60 * l + k) ≤ F ∧ F ≤ 1000) (hw : w = 0 ∨ w = 1) (hO : 0 ≤ F → 0 < k → 0 ≤ gm m 138 0 (60 * l + (k - 1))) : lin t l c' m' ∧ adF l c m c' m' := by
  obtain ⟨⟨h1, h2, h3⟩, h4, h5, h6, h7, h8, h9, h10, h11⟩ := H
  refine ⟨⟨⟨rlD.kp h1 hc hm (by decide) (by rw [n1]), rlR.kp h2 hc hm (by decide), rlJ.kp h3 hc hm (by decide)⟩, ?_⟩, hc, hm, n1, n2, fun i f hi => ?_, fun j hj => ?_⟩
  · simp only [rlP, hc.k (show frk _ 1 = true by decide), hc.k (show frk _ 11 = true by decide), hc.k (show frk _ 28 = true by decide), hc.k (show frk _ 29 = true by decide), hc.f (show fre _ 2 0 = true by decide), hc.f (show fre _ 2 1 = true by decide), hc.f (show fre _ 2 3 = true by decide), hc.f (show fre _ 2 4 = true by decide), x2, x5, y8, y0,
      hm.k (show frk _ 12 = true by decide), hm.k (show frk _ 134 = true by decide), hm.k (show frk _ 135 = true by decide), hm.k (show frk _ 136 = true by decide), hm.k (show frk _ 137 = true by decide), hm.k (show frk _ 139 = true by decide), hm.k (show frk _ 141 = true by decide), hm.k (show frk _ 121 = true by decide), hm.k (show frk _ 122 = true by decide), hm.k (show frk _ 102 = true by decide), hm.k (show frk _ 124 = true by decide)]
    have p0 := (h7 k k0 k1).2.2.2.1
    refine ⟨h4, h5, h6, fun i i0 i1 => ?_, h8, h9, h10, fun i i0 i1 i2 => ?_⟩
    · obtain ⟨a0, a1, a2, a3, a4, a5, a6⟩ := h7 i i0 i1
      by_cases e : i = k
      · subst e
        rw [if_pos rfl, if_pos rfl, if_pos rfl, if_pos rfl]
        exact ⟨a0, a1, a2, ⟨rfl, by omega, hF.2⟩, a4, a5, rfl, hw⟩
      · have e2 : ¬ gm c 28 l i = gm c 28 l k := fun z => e (h8 i k i0 i1 k0 k1 z)
        rw [if_neg e2, if_neg e2, if_neg (by omega), if_neg (by omega)]
        exact ⟨a0, a1, a2, a3, a4, a5, a6⟩
    · by_cases e : i = k
      · subst e
        rw [if_pos rfl]
        rw [if_neg (by omega)] at i2
        have := h11 i i0 i1 i2
        omega
      · rw [if_neg (by omega)]
        by_cases e2 : i + 1 = k
        · rw [if_pos (by omega)] at i2
          have := hO i2 (by omega)
          rw [show k - 1 = i by omega] at this
          exact this
        · rw [if_neg (by omega)] at i2
          exact h11 i i0 i1 i2
  · by_cases e2 : f = 2
    · rw [e2, x2, if_neg (hi k k0 k1)]
    · by_cases e5 : f = 5
      · rw [e5, x5, if_neg (hi k k0 k1)]
      · exact hc.f (by simp [fre, adT]; omega) i
  · rw [y8, y0, if_neg (by omega), if_neg (by omega)]
    exact ⟨rfl, rfl⟩
theorem lin.out {t l k : Int} {c m : St} (H : lin t l c m) (hl : 0 ≤ l ∧ l < 2) (k0 : 0 ≤ k) (k1 : k < gm m 134 0 l) : FX2_isOut (gm c 28 l k) (clv c m l) c = some (0, if clv c m l ≤ gm m 138 0 (60 * l + k) - gm m 137 0 (60 * l + k) + 1 then 1 else 0, c) ∧ FX12_isOut 0 l k m = some (0, if clv c m l ≤ gm m 138 0 (60 * l + k) - gm m 137 0 (60 * l + k) + 1 then 1 else 0, m) ∧
    FX2_tail (gm c 28 l k) c = some (0, gm m 138 0 (60 * l + k) - gm m 137 0 (60 * l + k) + 1, c) ∧ FX12_tailOf 0 (60 * l + k) m = some (0, gm m 138 0 (60 * l + k) - gm m 137 0 (60 * l + k) + 1, m) ∧ FX1_partAt l k c = some (0, gm c 28 l k, c) := by
  obtain ⟨⟨h1, h2, h3⟩, h4, ⟨h5, h51, h52⟩, h6, h7, -⟩ := H
  obtain ⟨p0, p1, p2, ⟨p3, p4, p5⟩, ⟨p6, p7, p8⟩, -⟩ := h7 k k0 k1
  have et := ecTail (a0 := gm c 28 l k) (s := c) (by omega) (by omega) (by omega) (by omega)
  have mt := emTailOf (a0 := 0) (a1 := 60 * l + k) (s := m) (by omega) (by omega) (by omega) (by omega) (by omega) (by omega)
  have ep := ecPartAt (a0 := l) (a1 := k) (s := c) (by omega) (by omega)
  rw [h5, if_pos ⟨k0, k1⟩] at ep
  rw [p3, p6] at et
  refine ⟨?_, ?_, et, mt, ep⟩
  · rw [ecIsOut (by omega) (by omega) (by omega) (by omega), p3, p6]
  · have w : wr (wr (60 * l) + k) = 60 * l + k := by rw [wq (z := 60 * l) (by omega) (by omega), wq (by omega) (by omega)]
    simp only [FX12_isOut, fX12_isOut_0, fX12_isOut_22, fX12_isOut_23, w, mt, bnd_ok, emCellsV h1 h2 hl, z01, o01, or_true, true_or, if_true]
    by_cases z : clv c m l ≤ gm m 138 0 (60 * l + k) - gm m 137 0 (60 * l + k) + 1
    · have z2 : ¬ gm m 138 0 (60 * l + k) - gm m 137 0 (60 * l + k) + 1 < clv c m l := by omega
      simp only [if_pos z, if_neg z2]
    · have z2 : gm m 138 0 (60 * l + k) - gm m 137 0 (60 * l + k) + 1 < clv c m l := by omega
      simp only [if_neg z, if_pos z2]
theorem ecReady (p : Int) (s : St) : FX2_isReady p s = some (0, if gm s 2 p 5 = 0 ∧ gm s 2 p 4 = 0 then 1 else 0, pm s 2 p 5 0) := by
  simp only [FX2_isReady, fX2_isReady_0, fX2_isReady_18, fX2_isReady_19, z01, o01, or_true, true_or, if_true]
  by_cases h : gm s 2 p 5 = 0
  · by_cases h2 : gm s 2 p 4 = 0
    · simp [h, h2]
    · simp [h, h2]
  · simp [h]
/-- where a part wants to go, with the one ahead -/
def gol (m : St) (l k x : Int) : Int :=
  if 0 < k ∧ ¬ x ≤ gm m 138 0 (60 * l + (k - 1)) - gm m 137 0 (60 * l + (k - 1)) + 1 then min (gm m 138 0 (60 * l + k) + (if gm m 136 0 (60 * l + k) = -1 ∧ gm m 12 0 42 = 0 then 3 else 2)) (gm m 138 0 (60 * l + (k - 1)) - gm m 137 0 (60 * l + (k - 1)) + 1 - 2)
  else gm m 138 0 (60 * l + k) + (if gm m 136 0 (60 * l + k) = -1 ∧ gm m 12 0 42 = 0 then 3 else 2)
theorem mov_go {t l k : Int} {c m : St} (H : lin t l c m) (hl : 0 ≤ l ∧ l < 2) (k0 : 0 ≤ k) (k1 : k < gm m 134 0 l) (ho : ¬ clv c m l ≤ gm m 138 0 (60 * l + k) - gm m 137 0 (60 * l + k) + 1) (h5 : gm m 140 0 (60 * l + k) = 0) :
    ∃ c' m', fX1_advance_37 (kX1_advance 0) l k l 0 (gm c 11 0 6) (gm c 28 l k) (clv c m l) c = some (0, 0, c') ∧ fX12_moves_76 (kX12_moves 9999) 0 l k (60 * l + k) (gm m 138 0 (60 * l + k) + (if gm m 136 0 (60 * l + k) = -1 ∧ gm m 12 0 42 = 0 then 3 else 2)) m = some (0, 0, m') ∧ lin t l c' m' ∧ adF l c m c' m' := by
  obtain ⟨⟨hD, hR, hJ⟩, h4, ⟨e5, e51, e52⟩, e6, h7, h8, h9, h10, h11⟩ := id H
  obtain ⟨p0, p1, p2, ⟨p3, p4, p5⟩, ⟨p6, p7, p8⟩, p9, p10⟩ := h7 k k0 k1
  obtain ⟨cl0, cl1, cl2⟩ := clv_le hD hR hl
  have hq : 0 ≤ 60 * l + k ∧ 60 * l + k < 120 := by omega
  -- the goal with the part ahead
  have sp : 2 ≤ (if gm m 136 0 (60 * l + k) = -1 ∧ gm m 12 0 42 = 0 then (3 : Int) else 2) ∧ (if gm m 136 0 (60 * l + k) = -1 ∧ gm m 12 0 42 = 0 then (3 : Int) else 2) ≤ 3 := by split <;> omega
  have hg : gol m l k (clv c m l) ≤ gm m 138 0 (60 * l + k) + 3 := by
    unfold gol
    split <;> omega
  have EC : fX1_advance_37 (kX1_advance 0) l k l 0 (gm c 11 0 6) (gm c 28 l k) (clv c m l) c = fX1_advance_90 (kX1_advance 0) l l 0 (gm c 28 l k) (gol m l k (clv c m l)) c := by
    have es := ecSpeed (gm c 28 l k) (gm c 11 0 6) c
    rw [p2, e6] at es
    unfold gol
    generalize (if gm m 136 0 (60 * l + k) = -1 ∧ gm m 12 0 42 = 0 then (3 : Int) else 2) = v at es sp ⊢
    have w1 : wr (k - 1) = k - 1 := wq (by omega) (by omega)
    have w2 : wr (gm m 138 0 (60 * l + k) + v) = gm m 138 0 (60 * l + k) + v := wq (by omega) (by omega)
    rw [e6]
    simp only [fX1_advance_37, es, bnd_ok, w1, p3, w2, if_pos p0]
    by_cases hk : 0 < k
    · obtain ⟨o1, -, o3, -, o5⟩ := H.out hl (show 0 ≤ k - 1 by omega) (by omega)
      obtain ⟨r0, -, -, ⟨-, r4, r5⟩, ⟨-, r7, r8⟩, -⟩ := h7 (k - 1) (by omega) (by omega)
      have w3 : wr (gm m 138 0 (60 * l + (k - 1)) - gm m 137 0 (60 * l + (k - 1)) + 1 - 2) = gm m 138 0 (60 * l + (k - 1)) - gm m 137 0 (60 * l + (k - 1)) + 1 - 2 := wq (by omega) (by omega)
      simp only [o5, bnd_ok, o1, o3, ecMin, w3, if_pos r0]
      rw [if_neg (show ¬ gm c 28 l (k - 1) = -1 by omega)]
      by_cases ho2 : clv c m l ≤ gm m 138 0 (60 * l + (k - 1)) - gm m 137 0 (60 * l + (k - 1)) + 1
      · rw [if_pos ho2, if_neg (by omega), if_neg (fun z => z.2 ho2)]
      · rw [if_neg ho2, if_pos rfl, if_pos ⟨hk, ho2⟩]
    · have ep := ecPartAt (a0 := l) (a1 := k - 1) (s := c) (by omega) (by omega)
      rw [if_neg (by omega)] at ep
      simp only [ep, bnd_ok, if_true]
      rw [if_neg (fun z => hk z.1)]
  have EM : fX12_moves_76 (kX12_moves 9999) 0 l k (60 * l + k) (gm m 138 0 (60 * l + k) + (if gm m 136 0 (60 * l + k) = -1 ∧ gm m 12 0 42 = 0 then 3 else 2)) m = fX12_moves_124 (kX12_moves 9999) 0 l (60 * l + k) (gol m l k (clv c m l)) 0 m := by
    unfold gol
    generalize (if gm m 136 0 (60 * l + k) = -1 ∧ gm m 12 0 42 = 0 then (3 : Int) else 2) = v at sp ⊢
    have w1 : wr (k - 1) = k - 1 := wq (by omega) (by omega)
    have w4 : wr (60 * l + k - 1) = 60 * l + (k - 1) := by rw [wq (by omega) (by omega)]; omega
    simp only [fX12_moves_76, fX12_moves_117, fX12_moves_119, fX12_moves_121, w1, w4]
    by_cases hk : 0 < k
    · obtain ⟨-, o2, -, o4, -⟩ := H.out hl (show 0 ≤ k - 1 by omega) (by omega)
      obtain ⟨r0, -, -, ⟨-, r4, r5⟩, ⟨-, r7, r8⟩, -⟩ := h7 (k - 1) (by omega) (by omega)
      have w3 : wr (gm m 138 0 (60 * l + (k - 1)) - gm m 137 0 (60 * l + (k - 1)) + 1 - 2) = gm m 138 0 (60 * l + (k - 1)) - gm m 137 0 (60 * l + (k - 1)) + 1 - 2 := wq (by omega) (by omega)
      simp only [o2, bnd_ok, o4, w3, if_pos hk]
      by_cases ho2 : clv c m l ≤ gm m 138 0 (60 * l + (k - 1)) - gm m 137 0 (60 * l + (k - 1)) + 1
      · rw [if_pos ho2, if_neg (by omega), if_neg (fun z => z.2 ho2)]
      · rw [if_neg ho2, if_pos rfl, if_pos (show 0 < k ∧ ¬ clv c m l ≤ gm m 138 0 (60 * l + (k - 1)) - gm m 137 0 (60 * l + (k - 1)) + 1 from ⟨hk, ho2⟩)]
        by_cases h3 : gm m 138 0 (60 * l + (k - 1)) - gm m 137 0 (60 * l + (k - 1)) + 1 - 2 < gm m 138 0 (60 * l + k) + v
        · rw [if_pos h3, show min (gm m 138 0 (60 * l + k) + v) (gm m 138 0 (60 * l + (k - 1)) - gm m 137 0 (60 * l + (k - 1)) + 1 - 2) = gm m 138 0 (60 * l + (k - 1)) - gm m 137 0 (60 * l + (k - 1)) + 1 - 2 by omega]
        · rw [if_neg h3, show min (gm m 138 0 (60 * l + k) + v) (gm m 138 0 (60 * l + (k - 1)) - gm m 137 0 (60 * l + (k - 1)) + 1 - 2) = gm m 138 0 (60 * l + k) + v by omega]
    · rw [if_neg hk, if_neg (fun z => hk z.1)]
  -- no part comes on the route ahead of the one before it
  have hO : 0 ≤ gol m l k (clv c m l) → 0 < k → 0 ≤ gm m 138 0 (60 * l + (k - 1)) := fun a b => by
    obtain ⟨r0, -, -, ⟨-, r4, r5⟩, ⟨-, r7, r8⟩, -⟩ := h7 (k - 1) (by omega) (by omega)
    by_cases ho2 : clv c m l ≤ gm m 138 0 (60 * l + (k - 1)) - gm m 137 0 (60 * l + (k - 1)) + 1
    · omega
    · unfold gol at a
      rw [if_pos ⟨b, ho2⟩] at a
      omega
  have hk0 : 0 ≤ gm m 138 0 (60 * l + k) → 0 < k → 0 ≤ gm m 138 0 (60 * l + (k - 1)) := fun a b => h11 (k - 1) (by omega) (by omega) (by rw [show k - 1 + 1 = k by omega]; exact a)
  rw [EC, EM]
  generalize gol m l k (clv c m l) = g at hg hO ⊢
  have r1 := (hR l hl.1 hl.2).1
  have L1 := ecHeld_lp (f := gm m 138 0 (60 * l + k)) hD hR hl h10 (gm m 121 0 l).toNat 9999 0 2147483647 (by omega) (by omega) (by omega)
  have L2 := ecJury_lp (f := gm m 138 0 (60 * l + k)) hD hR hJ hl (gm m 121 0 l).toNat 9999 0 2147483647 (by omega) (by omega) (by omega)
  have M1 := emHeld_lp hD hR hl h4 hq (gm m 121 0 l).toNat 9999 0 g (by omega) (by omega) (by omega)
  have A1 := mnq_min (q := hlq c m l (gm m 138 0 (60 * l + k))) (v := hlv c m l) (gm m 121 0 l).toNat 0 g 2147483647
  rw [show min g 2147483647 = g by omega] at A1
  rw [A1] at M1
  have A2 := mnq_ge (q := jrq c m l (gm m 138 0 (60 * l + k))) (v := cav c m l) (b := gm m 138 0 (60 * l + k) + 1) (gm m 121 0 l).toNat 0 2147483647 (fun j j0 j1 hj => by
    unfold jrq at hj
    rw [ite10] at hj
    omega) (by omega)
  have B1 : FX1_cellBeforeHeld l (gm m 138 0 (60 * l + k)) l c = some (0, mnq (hlq c m l (gm m 138 0 (60 * l + k))) (hlv c m l) (gm m 121 0 l).toNat 0 2147483647, c) := by
    simp only [FX1_cellBeforeHeld, fX1_cellBeforeHeld_0]
    exact L1
  have B2 : FX1_nextJuryCell (gm m 138 0 (60 * l + k)) l 0 c = some (0, mnq (jrq c m l (gm m 138 0 (60 * l + k))) (cav c m l) (gm m 121 0 l).toNat 0 2147483647, c) := by
    simp only [FX1_nextJuryCell, fX1_nextJuryCell_0]
    exact L2
  have M2 := fun a ha => emJury_lp hD hR hl h4 hq (gm m 121 0 l).toNat (9999 - (gm m 121 0 l).toNat) 0 a 0 (by omega) (by omega) (by omega) ha
  have es : pm m 140 0 (60 * l + k) 0 = m := by
    have := pm_self m 140 0 (60 * l + k)
    rw [h5] at this
    exact this
  rw [es] at M2
  rw [M1]
  generalize mnq (hlq c m l (gm m 138 0 (60 * l + k))) (hlv c m l) (gm m 121 0 l).toNat 0 2147483647 = X at B1 ⊢
  generalize mnq (jrq c m l (gm m 138 0 (60 * l + k))) (cav c m l) (gm m 121 0 l).toNat 0 2147483647 = J at A2 B2 M2
  have x0 : gm c 2 (gm c 28 l k) 5 = 0 := by omega
  have ex : pm c 2 (gm c 28 l k) 5 0 = c := by
    have := pm_self c 2 (gm c 28 l k) 5
    rw [x0] at this
    exact this
  have fin := fun (F w : Int) (hF : gm m 138 0 (60 * l + k) ≤ F ∧ F ≤ 1000) (hw : w = 0 ∨ w = 1) (hO' : 0 ≤ F → 0 < k → 0 ≤ gm m 138 0 (60 * l + (k - 1))) =>
    H.st (k := k) (F := F) (w := w) (c' := pm (pm c 2 (gm c 28 l k) 5 w) 2 (gm c 28 l k) 2 F) (m' := pm (pm m 140 0 (60 * l + k) w) 138 0 (60 * l + k) F) hl k0 k1
      (Kp.pm (Kp.pm (Kp.rf _ _) (Or.inr (by decide))) (Or.inr (by decide))) (Kp.pm (Kp.pm (Kp.rf _ _) (Or.inl (by decide))) (Or.inl (by decide))) rfl rfl (fun i => by simp [gm_pm]) (fun i => by simp [gm_pm]) (fun i => by simp [gm_pm]) (fun i => by simp [gm_pm]) hF hw hO'
  have m216 : ∀ kb a s, fX12_moves_216 kb 0 l (60 * l + k) a s = fX12_moves_219 kb 0 l (60 * l + k) a 0 s := fun kb a s => by simp only [fX12_moves_216]
  rw [m216, M2 (min g X) (by omega)]
  have e294 : ∀ kb T w, fX12_moves_294 kb 0 (60 * l + k) T (pm m 140 0 (60 * l + k) w) = some (0, 0, pm (pm m 140 0 (60 * l + k) w) 138 0 (60 * l + k) (max (gm m 138 0 (60 * l + k)) T)) := fun kb T w => by
    have x4 : gm (pm m 140 0 (60 * l + k) w) 138 0 (60 * l + k) = gm m 138 0 (60 * l + k) := rfl
    simp only [fX12_moves_294, fX12_moves_315, fX12_moves_321, if_pos hq, x4]
    by_cases z : gm m 138 0 (60 * l + k) < T
    · rw [if_pos z, show max (gm m 138 0 (60 * l + k)) T = T by omega]
    · rw [if_neg z, show max (gm m 138 0 (60 * l + k)) T = gm m 138 0 (60 * l + k) by omega]
  have a136 : ∀ kb T w, fX1_advance_136 kb (gm c 28 l k) T (pm c 2 (gm c 28 l k) 5 w) = some (0, 0, pm (pm c 2 (gm c 28 l k) 5 w) 2 (gm c 28 l k) 2 (max (gm m 138 0 (60 * l + k)) T)) := fun kb T w => by
    have x4 : gm (pm c 2 (gm c 28 l k) 5 w) 2 (gm c 28 l k) 2 = gm c 2 (gm c 28 l k) 2 := by simp [gm_pm]
    simp only [fX1_advance_136, if_pos p0, ecMax, bnd_ok, x4, p3]
  have C1 : fX1_advance_90 (kX1_advance 0) l l 0 (gm c 28 l k) g c = if min g X < J then fX1_advance_136 (kX1_advance 0) (gm c 28 l k) (min g X) (pm c 2 (gm c 28 l k) 5 0) else fX1_advance_136 (kX1_advance 0) (gm c 28 l k) J (pm c 2 (gm c 28 l k) 5 1) := by
    simp only [fX1_advance_90, p3, if_pos p0, B1, bnd_ok, ecMin, B2, o01, or_true, true_or, if_true, ex]
  rw [C1]
  by_cases hJ2 : min g X < J
  · rw [if_pos hJ2, if_pos hJ2, if_pos hJ2, a136, e294]
    obtain ⟨f1, f2⟩ := fin (max (gm m 138 0 (60 * l + k)) (min g X)) 0 (by omega) (Or.inl rfl) (fun a b => by
      by_cases z : 0 ≤ gm m 138 0 (60 * l + k)
      · exact hk0 z b
      · exact hO (by omega) b)
    exact ⟨_, _, rfl, rfl, f1, f2⟩
  · rw [if_neg hJ2, if_neg hJ2, if_neg hJ2, a136, e294]
    obtain ⟨f1, f2⟩ := fin (max (gm m 138 0 (60 * l + k)) J) 1 (by omega) (Or.inr rfl) (fun a b => by
      by_cases z : 0 ≤ gm m 138 0 (60 * l + k)
      · exact hk0 z b
      · exact hO (by omega) b)
    exact ⟨_, _, rfl, rfl, f1, f2⟩
/-- one part in lockstep -/
theorem mov_one {t l k : Int} {c m : St} (H : lin t l c m) (hl : 0 ≤ l ∧ l < 2) (k0 : 0 ≤ k) (k1 : k < gm m 134 0 l) :
    ∃ c' m', FX1_advance l k l 0 (gm c 11 0 6) c = some (0, 0, c') ∧ (∀ n, fX12_goes_12 (kX12_goes (n + 1)) 0 l k m = fX12_goes_12 (kX12_goes n) 0 l (k + 1) m') ∧ lin t l c' m' ∧ adF l c m c' m' := by
  obtain ⟨⟨hD, hR, hJ⟩, h4, ⟨e5, e51, e52⟩, e6, h7, h8, h9, h10, h11⟩ := id H
  obtain ⟨p0, p1, p2, ⟨p3, p4, p5⟩, ⟨p6, p7, p8⟩, ⟨p9, p91, p92⟩, p10, p11⟩ := h7 k k0 k1
  obtain ⟨o1, o2, o3, o4, o5⟩ := H.out hl k0 k1
  have i1 : ¬ (1 : Int) = 0 := by omega
  have hp : ¬ gm c 28 l k = -1 := by omega
  have hq : 0 ≤ 60 * l + k ∧ 60 * l + k < 120 := by omega
  have w1 : wr (k + 1) = k + 1 := wq (by omega) (by omega)
  have w2 : wr (wr (60 * l) + k) = 60 * l + k := by rw [wq (z := 60 * l) (by omega) (by omega), wq (by omega) (by omega)]
  by_cases ho : clv c m l ≤ gm m 138 0 (60 * l + k) - gm m 137 0 (60 * l + k) + 1
  · rw [if_pos ho] at o1 o2
    refine ⟨c, m, ?_, fun n => ?_, H, adF.rf l c m⟩
    · simp only [FX1_advance, fX1_advance_0, fX1_advance_36, o5, bnd_ok, ecCellsV hR hl, if_neg hp, if_pos p0, o1, if_neg i1]
    · generalize hR : fX12_goes_12 (kX12_goes n) 0 l (k + 1) m = R
      simp only [fX12_goes_12, fX12_goes_37, if_pos hl, if_pos k1, o2, bnd_ok, if_neg i1, w1]
      rw [uX12_goes_12, hR]
  · rw [if_neg ho] at o1 o2
    have er := ecReady (gm c 28 l k) c
    rw [p10, p9] at er
    by_cases hr : gm m 140 0 (60 * l + k) = 0 ∧ gm m 139 0 (60 * l + k) = 0
    · rw [if_pos hr] at er
      have x0 : gm c 2 (gm c 28 l k) 5 = 0 := by omega
      have ex : pm c 2 (gm c 28 l k) 5 0 = c := by
        have := pm_self c 2 (gm c 28 l k) 5
        rw [x0] at this
        exact this
      have es : pm m 140 0 (60 * l + k) 0 = m := by
        have := pm_self m 140 0 (60 * l + k)
        rw [hr.1] at this
        exact this
      obtain ⟨c', m', g1, g2, g3, g4⟩ := mov_go H hl k0 k1 ho hr.1
      refine ⟨c', m', ?_, fun n => ?_, g3, g4⟩
      · simp only [FX1_advance, fX1_advance_0, o5, bnd_ok, ecCellsV hR hl, if_neg hp, if_pos p0, o1, if_true, er, if_neg i1, ex]
        exact g1
      · generalize hR : fX12_goes_12 (kX12_goes n) 0 l (k + 1) m' = R
        have mv : FX12_moves 0 l k m = some (0, 0, m') := by
          rw [← g2]
          have n0 : ¬ (0 : Int) < gm m 139 0 (60 * l + k) := by omega
          have wa : wr (gm m 138 0 (60 * l + k) + 3) = gm m 138 0 (60 * l + k) + 3 := wq (by omega) (by omega)
          have wb : wr (gm m 138 0 (60 * l + k) + 2) = gm m 138 0 (60 * l + k) + 2 := wq (by omega) (by omega)
          simp only [FX12_moves, fX12_moves_0, fX12_moves_29, fX12_moves_30, fX12_moves_66, fX12_moves_67, w2, if_pos hq, if_neg n0, hr.1, if_true, z01, true_or, or_true, and_true, es, wa, wb]
          by_cases a1 : gm m 136 0 (60 * l + k) = -1
          · by_cases a2 : gm m 12 0 42 = 0
            · rw [if_pos a1, if_pos a2, if_pos ⟨a1, a2⟩]
            · rw [if_pos a1, if_neg a2, if_neg (fun z => a2 z.2)]
          · rw [if_neg a1, if_neg (fun z => a1 z.1)]
        simp only [fX12_goes_12, fX12_goes_37, if_pos hl, if_pos k1, o2, bnd_ok, if_true, w1, mv]
        rw [uX12_goes_12, hR]
    · rw [if_neg hr] at er
      obtain ⟨f1, f2⟩ := H.st (k := k) (F := gm m 138 0 (60 * l + k)) (w := 0) (c' := pm c 2 (gm c 28 l k) 5 0) (m' := pm m 140 0 (60 * l + k) 0) hl k0 k1
        (Kp.pm (Kp.rf _ _) (Or.inr (by decide))) (Kp.pm (Kp.rf _ _) (Or.inl (by decide))) rfl rfl (fun i => by
          simp [gm_pm]
          intro e; rw [e]; exact p3) (fun i => by simp [gm_pm]) (fun i => by
          simp [gm_pm]
          intro e; rw [e]) (fun i => by simp [gm_pm]) ⟨Int.le_refl _, p5⟩ (Or.inl rfl) (fun a b => h11 (k - 1) (by omega) (by omega) (by rw [show k - 1 + 1 = k by omega]; exact a))
      refine ⟨_, _, ?_, fun n => ?_, f1, f2⟩
      · simp only [FX1_advance, fX1_advance_0, fX1_advance_36, o5, bnd_ok, ecCellsV hR hl, if_neg hp, if_pos p0, o1, if_true, er]
      · generalize hR : fX12_goes_12 (kX12_goes n) 0 l (k + 1) (pm m 140 0 (60 * l + k) 0) = R
        have mv : FX12_moves 0 l k m = some (0, 0, pm m 140 0 (60 * l + k) 0) := by
          have e30 : ∀ kb, fX12_moves_30 kb 0 l k (60 * l + k) 1 m = some (0, 0, pm m 140 0 (60 * l + k) 0) := fun kb => by
            simp only [fX12_moves_30, fX12_moves_66, fX12_moves_67, if_pos hq, z01, true_or, or_true, and_true, if_neg i1, ite_self]
          simp only [FX12_moves, fX12_moves_0, fX12_moves_25, w2, if_pos hq, e30]
          by_cases a1 : (0 : Int) < gm m 139 0 (60 * l + k)
          · rw [if_pos a1]
          · rw [if_neg a1, if_neg (fun z => hr ⟨z, by omega⟩)]
        simp only [fX12_goes_12, fX12_goes_37, if_pos hl, if_pos k1, o2, bnd_ok, if_true, w1, mv]
        rw [uX12_goes_12, hR]
/-- all parts -/
theorem mov_lp {t l r x : Int} (hl : 0 ≤ l ∧ l < 2) : ∀ (d n n2 : Nat) (k : Int) (c m : St), lin t l c m → gm c 11 0 6 = r → d < n → d < n2 → 0 ≤ k → k + d = gm m 134 0 l →
    ∃ c' m', fX1_passMinute_19 (kX1_passMinute n) l l 0 r x k c = fX1_passMinute_46 (kX1_passMinute (n - d)) l x 0 c' ∧ fX12_goes_12 (kX12_goes n2) 0 l k m = fX12_goes_43 (kX12_goes (n2 - d)) 0 l m' ∧ lin t l c' m' ∧ adF l c m c' m'
  | 0, n, n2, k, c, m, H, hr, hn, hn2, k0, k1 => by
    obtain ⟨-, -, ⟨e5, e51, e52⟩, -⟩ := id H
    refine ⟨c, m, ?_, ?_, H, adF.rf l c m⟩
    · simp only [fX1_passMinute_19, fX1_passMinute_43]
      rw [if_neg (by omega)]
      rfl
    · simp only [fX12_goes_12]
      rw [if_pos hl, if_neg (by omega)]
      rfl
  | d + 1, n, n2, k, c, m, H, hr, hn, hn2, k0, k1 => by
    obtain ⟨n, rfl⟩ : ∃ n', n = n' + 1 := ⟨n - 1, by omega⟩
    obtain ⟨n2, rfl⟩ : ∃ n', n2 = n' + 1 := ⟨n2 - 1, by omega⟩
    obtain ⟨-, -, ⟨e5, e51, e52⟩, -⟩ := id H
    obtain ⟨c1, m1, a1, a2, a3, a4⟩ := mov_one H hl k0 (show k < gm m 134 0 l by omega)
    have b1 : gm c1 11 0 6 = gm c 11 0 6 := a4.1.k (by decide) _ _
    have b2 : gm m1 134 0 l = gm m 134 0 l := a4.2.1.k (by decide) _ _
    obtain ⟨c2, m2, g1, g2, g3, g4⟩ := mov_lp hl d n n2 (k + 1) c1 m1 a3 (b1.trans hr) (by omega) (by omega) (by omega) (by rw [b2]; omega)
    refine ⟨c2, m2, ?_, ?_, g3, a4.tr g4⟩
    · rw [show n + 1 - (d + 1) = n - d by omega, ← g1]
      rw [hr] at a1
      have w1 : wr (k + 1) = k + 1 := wq (by omega) (by omega)
      generalize hR : fX1_passMinute_19 (kX1_passMinute n) l l 0 r x (k + 1) c1 = R
      simp only [fX1_passMinute_19, a1, bnd_ok, w1]
      rw [if_pos (by omega), uX1_passMinute_19, hR]
    · rw [show n2 + 1 - (d + 1) = n2 - d by omega, ← g2]
      exact a2 n2
