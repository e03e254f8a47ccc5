/-! An ambulance crosses: the call. -/
/-- a corner is held in one league -/
theorem rl.hold {t : Int} {c m c' m' : St} {l x : Int} {U : List (Nat × Option Int)} (h : rl t c m) (hx : 0 ≤ x ∧ x < 12) (hc : Kp [(29, none)] c c') (hm : Kp [(141, none)] m m') (n1 : c'.2 = c.2) (x9 : ∀ z j, gm c' 29 z j = if z = l ∧ j = x then 2 else gm c 29 z j) (hl : 0 ≤ l ∧ l < 2)
    (e1 : (∀ j, gm m' 141 0 j = if j = 12 * l + x then 2 else gm m 141 0 j) ∨ ((∀ j, gm m' 141 0 j = gm m 141 0 j) ∧ ∀ j, 0 ≤ j → j < gm m 121 0 l → gm m 122 0 (10 * l + j) ≠ x)) : rl t c' m' := by
  refine rl.keep h hc hm (Int.le_refl _) (fun _ => by rw [n1]) (fun _ => by rw [n1]) (by rw [n1]; exact Int.le_refl _) (by rw [n1]; exact Int.le_refl _) (by unfold rlN; rw [n1]; exact h.hN) ?_ ?_ ?_ ?_ ?_ ?_ ?_ ?_ ?_ ?_ ?_ ?_ ?_ ?_ <;> first | exact fun e => absurd e (by decide) | intro _
  have hR := h.hR
  have hL := h.hL
  simp only [rlL, rlP] at hL ⊢
  obtain ⟨h1, h2, h3⟩ := hL
  simp only [hc.k (show frk _ 28 = true by decide), n1]
  refine ⟨fun z z0 z1 => ?_, h2, h3⟩
  obtain ⟨a1, a2, a3, a4, a5, a6, a7⟩ := h1 z z0 z1
  simp only [hc.k (show frk _ 1 = true by decide), hc.k (show frk _ 2 = true by decide), hm.k (show frk _ 12 = true by decide),
    hm.k (show frk _ 130 = true by decide), hm.k (show frk _ 134 = true by decide), hm.k (show frk _ 126 = true by decide), hm.k (show frk _ 131 = true by decide), hm.k (show frk _ 132 = true by decide), hm.k (show frk _ 133 = true by decide), hm.k (show frk _ 135 = true by decide), hm.k (show frk _ 136 = true by decide), hm.k (show frk _ 137 = true by decide), hm.k (show frk _ 138 = true by decide), hm.k (show frk _ 139 = true by decide), hm.k (show frk _ 140 = true by decide), hm.k (show frk _ 121 = true by decide), hm.k (show frk _ 122 = true by decide), hm.k (show frk _ 102 = true by decide), hm.k (show frk _ 124 = true by decide), hm.k (show frk _ 143 = true by decide), x9]
  obtain ⟨-, -, r3, -⟩ := hR z z0 z1
  refine ⟨a1, a2, a3, a4, fun k k0 k1 => ?_, fun w j j0 j1 => ?_, a7⟩
  · obtain ⟨b1, b2⟩ := a5 k k0 k1
    refine ⟨by split <;> omega, ?_⟩
    rcases e1 with e1 | ⟨e1, -⟩
    · rw [e1]; split <;> omega
    · rw [e1]; exact b2
  · have b := a6 w j j0 j1
    obtain ⟨-, q1, q2⟩ := r3 j j0 j1
    rcases e1 with e1 | ⟨e1, e2⟩
    · rw [e1]
      by_cases e3 : z = l ∧ gm m 122 0 (10 * z + j) = x
      · rw [if_pos e3, if_pos (by omega)]
      · rw [if_neg e3, if_neg (by omega)]
        exact b
    · rw [e1, if_neg (fun w => e2 j j0 (by rw [← w.1]; exact j1) (by rw [← w.1]; exact w.2))]
      exact b
theorem amb_one {t : Int} {c m : St} (h : rl t c m) {l x acc : Int} (hl : 0 ≤ l ∧ l < 2) (hx : 0 ≤ x ∧ x < 12) (ha : 0 ≤ acc ∧ acc ≤ 100) : ∃ c' m' v, (0 ≤ v ∧ v ≤ 60) ∧ (∀ n, fX11_ambulance_21 (kX11_ambulance (n + 1)) 0 x acc l c = fX11_ambulance_21 (kX11_ambulance n) 0 x (acc + v) (l + 1) c') ∧ (∃ d : Nat, d ≤ 61 ∧ ∀ n, fX12_ambulance_25 (kX12_ambulance (n + 1 + d)) 0 x acc l m = fX12_ambulance_25 (kX12_ambulance n) 0 x (acc + v) (l + 1) m') ∧ rl t c' m' ∧ Kp [(29, none)] c c' ∧ Kp [(141, none)] m m' ∧ c'.2 = c.2 ∧ m'.2 = m.2 := by
  obtain ⟨L1, ⟨L2, L3, L4⟩, -⟩ := h.hL.1 l hl.1 hl.2
  obtain ⟨-, O2, -⟩ := h.hO.2 l hl.1 hl.2
  have hA := h.1.2.2.2
  have l14 : gm c 14 0 l = l := by
    rcases (show l = 0 ∨ l = 1 by omega) with rfl | rfl
    · exact hA.1
    · exact hA.2.1
  have hl1 : ¬ l = -1 := by omega
  have wl : wr (l + 1) = l + 1 := wq (by omega) (by omega)
  obtain ⟨r, p1, p2, p3⟩ := h.hR.plc hl x
  by_cases h1 : gm m 130 0 l = 1
  · have g : FX1_goesOn l c = some (0, 1, c) := by rw [ecGoesOn, if_pos (by omega)]
    have kc : Kp [(29, none)] c (pm c 29 l x 2) := Kp.pm (Kp.rf _ _) (Or.inl (by decide))
    have x9 : ∀ z j, gm (pm c 29 l x 2) 29 z j = if z = l ∧ j = x then 2 else gm c 29 z j := fun z j => by simp [gm_pm]
    have hh : FX1_hold l x c = some (0, 0, pm c 29 l x 2) := by
      have w : wr (12 - 1) = 11 := by rw [wq (by omega) (by omega)]; omega
      have hx2 : 0 ≤ x ∧ x ≤ 11 := by omega
      simp only [FX1_hold, fX1_hold_0, fX1_hold_22, ecWithin, bnd_ok, w, if_pos hx2, if_pos hx]
      simp
    rcases p3 with ⟨p3, p4⟩ | ⟨p3, p4, p5⟩
    · have h2 : rl t (pm c 29 l x 2) m := h.hold (U := []) hx kc (Kp.rf _ _) rfl x9 hl (Or.inr ⟨fun _ => rfl, p4⟩)
      obtain ⟨v, v1, v2, v3, v4, v5⟩ := on_lp h2 (x := x) hl (show -1 ≤ (-1 : Int) ∧ (-1 : Int) ≤ 1000 by omega) (gm m 134 0 l).toNat 9999 0 0 0 (by omega) (by omega) (by omega) (by omega) (by omega) (by omega)
      have v6 := v5 (by omega)
      subst v6
      refine ⟨pm c 29 l x 2, m, 0, by omega, fun n => ?_, ⟨0, by omega, fun n => ?_⟩, h2, kc, Kp.rf _ _, rfl, rfl⟩
      · obtain ⟨r', q1, q2, q3⟩ := h2.hR.plc hl x
        have q4 : r' = -1 := by
          rw [p2] at q2
          have : r = r' := by injection q2 with q2; injection q2 with _ q2; injection q2
          omega
        have ec : FX3_cellOf l x (pm c 29 l x 2) = some (0, -1, pm c 29 l x 2) := by
          simp only [FX3_cellOf, fX3_cellOf_0, fX3_cellOf_15, fX3_cellOf_20, q1, bnd_ok, if_pos q4]
        have eo : FX1_partsOn l (-1) (pm c 29 l x 2) = some (0, 0, pm c 29 l x 2) := by
          simp only [FX1_partsOn, fX1_partsOn_0]
          exact v3
        have l14' : gm (pm c 29 l x 2) 14 0 l = l := by simp [gm_pm, l14]
        generalize hR : fX11_ambulance_21 (kX11_ambulance n) 0 x (acc + 0) (l + 1) (pm c 29 l x 2) = R
        simp only [fX11_ambulance_21, fX11_ambulance_83, l14, g, hh, bnd_ok, ec, eo, wl, l14']
        rw [if_pos (by omega), if_pos (by omega), if_neg hl1, if_pos hl.1, if_neg (by omega), if_pos hl.1, if_pos hl.1, if_pos hl.1, wq (by omega) (by omega), uX11_ambulance_21]
        exact hR
      · generalize hR : fX12_ambulance_25 (kX12_ambulance n) 0 x (acc + 0) (l + 1) m = R
        simp only [fX12_ambulance_25]
        rw [if_pos (by omega), p2]
        simp only [bnd_ok]
        rw [if_pos hl, if_pos h1, if_pos p3]
        simp only [fX12_ambulance_132, wl]
        rw [uX12_ambulance_25, ← hR, Int.add_zero]
    · have km : Kp [(141, none)] m (pm m 141 0 (12 * l + x) 2) := Kp.pm (Kp.rf _ _) (Or.inl (by decide))
      have h2 : rl t (pm c 29 l x 2) (pm m 141 0 (12 * l + x) 2) := h.hold (U := []) hx kc km rfl x9 hl (Or.inl (fun j => by simp [gm_pm]))
      have p6 : ¬ r = -1 := by omega
      have hc2 : 2 ≤ gm m 121 0 l := by omega
      have b := rlR.st_le h.hD h.hR hl r.toNat r (by omega) (by omega)
      obtain ⟨⟨-, r2, r3⟩, -⟩ := h.hR l hl.1 hl.2
      have b2 := rlR.st_le h.hD h.hR hl 0 0 (by omega) (by omega)
      have hy : 0 ≤ cav c m l r ∧ cav c m l r ≤ 1000 := by
        unfold cav
        split <;> omega
      obtain ⟨v, v1, v2, v3, v4, v5⟩ := on_lp h2 (x := x) (y := cav c m l r) hl (by omega) (gm m 134 0 l).toNat 9999 0 0 acc (by omega) (by omega) (by rw [km.k (by decide)]; omega) (by omega) (by omega) (by omega)
      refine ⟨pm c 29 l x 2, pm m 141 0 (12 * l + x) 2, v, by omega, fun n => ?_, ⟨(gm m 134 0 l).toNat, by omega, fun n => ?_⟩, h2, kc, km, rfl, rfl⟩
      · have q1 : FX3_placeOf l x (pm c 29 l x 2) = some (0, r, pm c 29 l x 2) := by
          obtain ⟨r', q1, q2, q3⟩ := h2.hR.plc hl x
          have q5 : r' = r := by
            rw [km.k (by decide)] at q3
            rcases q3 with ⟨q3, q4⟩ | ⟨q3, q4, q6⟩
            · exact absurd p5 (by have := q4 r p3 p4; rw [km.k (by decide)] at this; exact this)
            · rw [km.k (by decide)] at q6
              exact (h.hR l hl.1 hl.2).2.2.2.2 r' r q3 q4 p3 p4 (q6.trans p5.symm)
          rw [q5] at q1; exact q1
        have ec : FX3_cellOf l x (pm c 29 l x 2) = some (0, cav c m l r, pm c 29 l x 2) := by
          have := ecCellAt h2.hD h2.hR hl p3 (show r < gm (pm m 141 0 (12 * l + x) 2) 121 0 l from p4)
          simp only [FX3_cellOf, fX3_cellOf_0, fX3_cellOf_15, fX3_cellOf_20, q1, bnd_ok, if_neg p6, this]
          rfl
        have eo : FX1_partsOn l (cav c m l r) (pm c 29 l x 2) = some (0, v, pm c 29 l x 2) := by
          simp only [FX1_partsOn, fX1_partsOn_0]
          rw [v3, Int.zero_add]
        have l14' : gm (pm c 29 l x 2) 14 0 l = l := by simp [gm_pm, l14]
        generalize hR : fX11_ambulance_21 (kX11_ambulance n) 0 x (acc + v) (l + 1) (pm c 29 l x 2) = R
        simp only [fX11_ambulance_21, fX11_ambulance_83, l14, g, hh, bnd_ok, ec, eo, wl, l14']
        rw [if_pos (by omega), if_pos (by omega), if_neg hl1, if_pos hl.1, if_neg (by omega), if_pos hl.1, if_pos hl.1, if_pos hl.1, wq (by omega) (by omega), uX11_ambulance_21]
        exact hR
      · generalize hR : fX12_ambulance_25 (kX12_ambulance n) 0 x (acc + v) (l + 1) (pm m 141 0 (12 * l + x) 2) = R
        have w1 : wr (wr (12 * l) + x) = 12 * l + x := by rw [wq (z := 12 * l) (by omega) (by omega), wq (by omega) (by omega)]
        have w2 : wr (60 * l) = 60 * l := wq (by omega) (by omega)
        have v6 := v4 (n + 1) hy.1
        rw [Int.add_zero] at v6
        simp only [fX12_ambulance_25]
        rw [if_pos (by omega), p2]
        simp only [bnd_ok]
        rw [if_pos hl, if_pos h1, if_neg p6, emCellOf h.hD h.hR hl p3 p4 hc2]
        simp only [bnd_ok, w1, w2]
        rw [if_pos (by omega), v6]
        simp only [fX12_ambulance_132, wl]
        rw [uX12_ambulance_25, hR]
  · have g : FX1_goesOn l c = some (0, 0, c) := by rw [ecGoesOn, if_neg (by omega)]
    refine ⟨c, m, 0, by omega, fun n => ?_, ⟨0, by omega, fun n => ?_⟩, h, Kp.rf _ _, Kp.rf _ _, rfl, rfl⟩
    · generalize hR : fX11_ambulance_21 (kX11_ambulance n) 0 x (acc + 0) (l + 1) c = R
      simp only [fX11_ambulance_21, fX11_ambulance_83, l14, g, bnd_ok, wl, if_true]
      rw [if_pos (by omega), if_pos (by omega), if_neg hl1, if_pos hl.1, uX11_ambulance_21, ← hR, Int.add_zero]
    · generalize hR : fX12_ambulance_25 (kX12_ambulance n) 0 x (acc + 0) (l + 1) m = R
      simp only [fX12_ambulance_25]
      rw [if_pos (by omega), p2]
      simp only [bnd_ok]
      rw [if_pos hl, if_neg h1]
      simp only [fX12_ambulance_132, wl]
      rw [uX12_ambulance_25, ← hR, Int.add_zero]
theorem rl.nxt {t : Int} {c m : St} (h : rl t c m) : rl (t + 1) c m := by
  refine rl.keep0 (T := []) (U := []) h (Kp.rf _ _) (Kp.rf _ _) rfl ?_ ?_ ?_ ?_ ?_ ?_ ?_ ?_ ?_ ?_ ?_ ?_ ?_ ?_ <;> exact fun e => absurd e (by decide)
theorem op_ambulance {t : Int} {c m : St} (h : rl t c m) (x : Int) : Step t (cdn 3 9 9) c m (FX11_ambulance 0 x c) (FX12_ambulance 0 x m) := by
  by_cases hx : 0 ≤ x ∧ x < 12
  · obtain ⟨c1, m1, v1, a1, a2, ⟨d1, a3, a4⟩, a5, a6, a7, a8, a9⟩ := amb_one (h.z 0) (l := 0) (acc := 0) (by omega) hx (by omega)
    obtain ⟨c2, m2, v2, b1, b2, ⟨d2, b3, b4⟩, b5, b6, b7, b8, b9⟩ := amb_one a5 (l := 1) (acc := 0 + v1) (by omega) hx (by omega)
    have km : Kp [(12, some 0), (141, none)] m m2 := (Kp.pm (T := [(12, some 0), (141, none)]) (Kp.rf _ _) (Or.inr (by decide))).tr ((a7.tr b7).wk (by decide))
    refine Step.ok (v := 0 + v1 + v2) (c' := c2) (m' := m2) ?_ ?_ (a6.tr b6) km (by decide) (by decide) (by rw [b7.k (by decide), a7.k (by decide)]; simp [gm_pm]) (b9.trans a9) b5.nxt
    · have e1 := a2 9998
      have e2 := b2 9997
      simp only [FX11_ambulance, fX11_ambulance_0, fX11_ambulance_17, ecIsCorner, if_pos hx, bnd_ok, if_neg (show ¬ (1 : Int) = 0 by omega)]
      rw [e1]
      rw [show (0 : Int) + 1 = 1 by omega] at *
      rw [e2]
      simp only [fX11_ambulance_21, fX11_ambulance_89]
      rw [if_neg (by omega)]
    · obtain ⟨n2, hn2⟩ : ∃ n2, 9999 = (n2 + 1 + d2) + 1 + d1 := ⟨9999 - d1 - 1 - d2 - 1, by omega⟩
      have e1 := a4 (n2 + 1 + d2)
      have e2 := b4 n2
      simp only [FX12_ambulance, fX12_ambulance_0, fX12_ambulance_13, fX12_ambulance_21, emIsCorner, emHolds, if_pos hx, bnd_ok, if_neg (show ¬ (1 : Int) = 0 by omega), if_true]
      rw [hn2, e1]
      rw [show (0 : Int) + 1 = 1 by omega] at *
      rw [e2]
      simp only [fX12_ambulance_25, fX12_ambulance_138]
      rw [if_neg (by omega)]
  · refine Step.thr h (o := 3) (v := 0) (x := 0) (k := 1) (by decide) ?_ ?_ rfl
    · simp only [fX11_ambulance_0, FX11_ambulance, ecIsCorner, if_neg hx, bnd_ok, if_true]
    · simp only [fX12_ambulance_0, fX12_ambulance_12, fX12_ambulance_13, FX12_ambulance, emIsCorner, emHolds, if_neg hx, bnd_ok, if_true]
      simp
