/-! Routes begun and led on. -/
theorem op_route {t : Int} {c m : St} (h : rl t c m) (l p : Int) : Step t (cdn 3 1 2) c m (FX11_route 0 l p c) (FX12_route 0 l p m) := by
  by_cases hp : 0 ≤ p ∧ p < 12
  · by_cases hl : 0 ≤ l ∧ l < 2
    · have hl1 : ¬ l = -1 := by omega
      obtain ⟨b1, b2⟩ := h.bnd hl
      by_cases hb : 0 < gm m 130 0 l ∨ 0 < gm m 126 0 l
      · refine Step.thr h (o := 2) (v := 0) (x := 0) (k := 3) (by decide) ?_ ?_ rfl
        · simp only [FX11_route, fX11_route_0, fX11_route_17, fX11_route_37, fX11_route_54, ecIsCorner, h.lea, bnd_ok, if_pos hp, if_pos hl, if_neg hl1, if_pos hl.1, b1, if_pos hb]
          simp
        · simp only [FX12_route, fX12_route_0, fX12_route_12, fX12_route_23, fX12_route_35, fX12_route_36, fX12_route_59, emIsCorner, emIsLeague, emHolds, bnd_ok, if_pos hp, if_pos hl, b2, if_pos hb]
          simp
      · have kc : Kp [(24, none), (3, some 3)] c (pm (pm c 24 l 0 p) 3 l 3 1) := Kp.pm (Kp.pm (Kp.rf _ _) (Or.inl (by decide))) (Or.inr (by decide))
        have km : Kp [(12, some 0), (122, none), (121, none)] m (pm (pm (pm m 12 0 0 0) 122 0 (10 * l) p) 121 0 l 1) := Kp.pm (Kp.pm (Kp.pm (Kp.rf _ _) (Or.inr (by decide))) (Or.inl (by decide))) (Or.inl (by decide))
        have hr : 0 ≤ 10 * l ∧ 10 * l < 20 := by omega
        refine Step.ok (v := 0) (c' := pm (pm c 24 l 0 p) 3 l 3 1) (m' := pm (pm (pm m 12 0 0 0) 122 0 (10 * l) p) 121 0 l 1) ?_ ?_ kc km (by decide) (by decide) (by simp [gm_pm]) rfl ?_
        · simp only [FX11_route, fX11_route_0, fX11_route_17, fX11_route_37, fX11_route_54, FX3_startAt, fX3_startAt_0, ecIsCorner, h.lea, bnd_ok, if_pos hp, if_pos hl, if_neg hl1, if_pos hl.1, b1, if_neg hb]
          simp [bnd_ok]
        · simp only [FX12_route, fX12_route_0, fX12_route_12, fX12_route_23, fX12_route_35, fX12_route_36, fX12_route_59, emIsCorner, emIsLeague, emHolds, bnd_ok, if_pos hp, if_pos hl, b2, if_neg hb]
          rw [wq (by omega) (by omega)]
          simp [hr]
        · have n121 : ∀ j, gm (pm (pm (pm m 12 0 0 0) 122 0 (10 * l) p) 121 0 l 1) 121 0 j = if j = l then 1 else gm m 121 0 j := fun j => by simp only [gm_pm]; simp
          have n122 : ∀ j, gm (pm (pm (pm m 12 0 0 0) 122 0 (10 * l) p) 121 0 l 1) 122 0 j = if j = 10 * l then p else gm m 122 0 j := fun j => by simp only [gm_pm]; simp
          have x3 : ∀ i, gm (pm (pm c 24 l 0 p) 3 l 3 1) 3 i 3 = if i = l then 1 else gm c 3 i 3 := fun i => by simp only [gm_pm]; simp
          have x24 : ∀ i j, gm (pm (pm c 24 l 0 p) 3 l 3 1) 24 i j = if i = l ∧ j = 0 then p else gm c 24 i j := fun i j => by simp only [gm_pm]; simp
          have hn2 : (pm (pm c 24 l 0 p) 3 l 3 1).2 = c.2 := rfl
          generalize pm (pm c 24 l 0 p) 3 l 3 1 = c' at kc x3 x24 hn2
          generalize pm (pm (pm m 12 0 0 0) 122 0 (10 * l) p) 121 0 l 1 = m' at km n121 n122
          refine rl.keep0 h kc km hn2 ?_ ?_ ?_ ?_ ?_ ?_ ?_ ?_ ?_ ?_ ?_ ?_ ?_ ?_ <;> first | exact fun e => absurd e (by decide) | intro _
          · intro l' l0 l1
            obtain ⟨r1, r2, r3, r4, r5⟩ := h.hR l' l0 l1
            have z2 : ∀ n j, gm c' 25 n j = gm c 25 n j := kc.k (by decide)
            have z4 : ∀ n j, gm c' 26 n j = gm c 26 n j := kc.k (by decide)
            have z5 : ∀ n j, gm m' 115 n j = gm m 115 n j := km.k (by decide)
            have z6 : ∀ n j, gm m' 116 n j = gm m 116 n j := km.k (by decide)
            have z7 : ∀ n j, gm m' 117 n j = gm m 117 n j := km.k (by decide)
            have z8 : gm m' 12 0 14 = gm m 12 0 14 := km.f (by decide) 0
            simp only [x3, z2, x24, z4, n121, n122, z8, jns, z5, z6, z7]
            by_cases e : l' = l
            · subst e
              simp only [if_true, true_and]
              refine ⟨by omega, r2, fun k k0 k1 => ?_, fun k k0 k1 => by omega, fun k k' k0 k1 k2 k3 _ => by omega⟩
              have : k = 0 := by omega
              subst this
              simp only [if_true, Int.add_zero]
              exact ⟨trivial, hp⟩
            · simp only [if_neg e]
              have ne : ∀ k : Int, 0 ≤ k → k < 10 → ¬ 10 * l' + k = 10 * l := fun k k0 k1 => by omega
              refine ⟨r1, r2, fun k k0 k1 => ?_, fun k k0 k1 => ?_, fun k k' k0 k1 k2 k3 hk => ?_⟩
              · rw [if_neg (fun z => e z.1), if_neg (ne k k0 (by omega))]
                exact r3 k k0 k1
              · rw [if_neg (ne (k - 1) (by omega) (by omega)), if_neg (ne k (by omega) (by omega))]
                exact r4 k k0 k1
              · rw [if_neg (ne k k0 (by omega)), if_neg (ne k' k2 (by omega))] at hk
                exact r5 k k' k0 k1 k2 k3 hk
          · obtain ⟨o1, o2⟩ := h.hO
            have w1 : ∀ n, gm c' 6 n 15 = gm c 6 n 15 := kc.f (by decide)
            have w2 : ∀ n, gm c' 6 n 11 = gm c 6 n 11 := kc.f (by decide)
            have w3 : ∀ n, gm c' 4 n 1 = gm c 4 n 1 := kc.f (by decide)
            have w4 : ∀ n j, gm c' 27 n j = gm c 27 n j := kc.k (by decide)
            have w5 : gm m' 12 0 1 = gm m 12 0 1 := km.f (by decide) 0
            have y1 : ∀ n j, gm m' 124 n j = gm m 124 n j := km.k (by decide)
            have y2 : ∀ n j, gm m' 125 n j = gm m 125 n j := km.k (by decide)
            have y3 : ∀ n j, gm m' 126 n j = gm m 126 n j := km.k (by decide)
            have y4 : ∀ n j, gm m' 127 n j = gm m 127 n j := km.k (by decide)
            have y5 : ∀ n j, gm m' 102 n j = gm m 102 n j := km.k (by decide)
            simp only [rlO, w1, w2, w3, w4, w5, y1, y2, y3, y4, y5, n121]
            refine ⟨o1, fun l' l0 l1 => ?_⟩
            obtain ⟨p1, p2, p3⟩ := o2 l' l0 l1
            refine ⟨p1, fun e => ?_, p3⟩
            by_cases e2 : l' = l
            · subst e2; omega
            · rw [if_neg e2]; exact p2 e
          · have hL := h.hL.mono (show t ≤ t + 1 by omega)
            have w1 : ∀ n, gm c' 1 n 6 = gm c 1 n 6 := kc.f (by decide)
            have w2 : ∀ n, gm c' 1 n 7 = gm c 1 n 7 := kc.f (by decide)
            have w3 : ∀ n, gm c' 1 n 2 = gm c 1 n 2 := kc.f (by decide)
            have w4 : ∀ n, gm c' 1 n 3 = gm c 1 n 3 := kc.f (by decide)
            have w5 : ∀ n, gm c' 1 n 4 = gm c 1 n 4 := kc.f (by decide)
            have w6 : ∀ n, gm c' 1 n 5 = gm c 1 n 5 := kc.f (by decide)
            have w7 : ∀ n j, gm c' 28 n j = gm c 28 n j := kc.k (by decide)
            have w8 : ∀ n j, gm c' 2 n j = gm c 2 n j := kc.k (by decide)
            have w9 : ∀ n j, gm c' 29 n j = gm c 29 n j := kc.k (by decide)
            have v1 : gm m' 12 0 1 = gm m 12 0 1 := km.f (by decide) 0
            have v2 : ∀ n j, gm m' 130 n j = gm m 130 n j := km.k (by decide)
            have v3 : ∀ n j, gm m' 134 n j = gm m 134 n j := km.k (by decide)
            have v4 : ∀ n j, gm m' 126 n j = gm m 126 n j := km.k (by decide)
            have v5 : ∀ n j, gm m' 131 n j = gm m 131 n j := km.k (by decide)
            have v6 : ∀ n j, gm m' 132 n j = gm m 132 n j := km.k (by decide)
            have v7 : ∀ n j, gm m' 133 n j = gm m 133 n j := km.k (by decide)
            have v8 : ∀ n j, gm m' 135 n j = gm m 135 n j := km.k (by decide)
            have v9 : ∀ n j, gm m' 136 n j = gm m 136 n j := km.k (by decide)
            have u1 : ∀ n j, gm m' 137 n j = gm m 137 n j := km.k (by decide)
            have u2 : ∀ n j, gm m' 138 n j = gm m 138 n j := km.k (by decide)
            have u3 : ∀ n j, gm m' 139 n j = gm m 139 n j := km.k (by decide)
            have u4 : ∀ n j, gm m' 140 n j = gm m 140 n j := km.k (by decide)
            have u5 : ∀ n j, gm m' 141 n j = gm m 141 n j := km.k (by decide)
            have u6 : ∀ n j, gm m' 102 n j = gm m 102 n j := km.k (by decide)
            have u7 : ∀ n j, gm m' 124 n j = gm m 124 n j := km.k (by decide)
            have u8 : ∀ n j, gm m' 143 n j = gm m 143 n j := km.k (by decide)
            simp only [rlL, rlP] at hL ⊢
            simp only [w1, w2, w3, w4, w5, w6, w7, w8, w9, v1, v2, v3, v4, v5, v6, v7, v8, v9, u1, u2, u3, u4, u5, u6, u7, u8, hn2, n121, n122]
            obtain ⟨g1, g2⟩ := hL
            refine ⟨fun l' l0 l1 => ?_, g2⟩
            obtain ⟨a1, a2, a3, a4, a5, a6, a7⟩ := g1 l' l0 l1
            refine ⟨a1, a2, a3, a4, a5, fun e => ?_, a7⟩
            by_cases e2 : l' = l
            · subst e2; omega
            · intro j j0 j1
              rw [if_neg e2] at j1
              have hc := (h.hR l' l0 l1).1
              rw [if_neg (by omega)]
              exact a6 e j j0 j1
    · refine Step.thr h (o := 1) (v := 0) (x := 0) (k := 2) (by decide) ?_ ?_ rfl
      · simp [FX11_route, fX11_route_0, fX11_route_17, fX11_route_37, fX11_route_54, ecIsCorner, h.lea, bnd_ok, hp, hl]
      · simp [FX12_route, fX12_route_0, fX12_route_12, fX12_route_23, fX12_route_35, fX12_route_36, fX12_route_59, emIsCorner, emIsLeague, emHolds, bnd_ok, hp, hl]
  · refine Step.thr h (o := 3) (v := 0) (x := 0) (k := 1) (by decide) ?_ ?_ rfl
    · simp [FX11_route, fX11_route_0, fX11_route_17, fX11_route_37, fX11_route_54, ecIsCorner, bnd_ok, hp]
    · simp [FX12_route, fX12_route_0, fX12_route_12, fX12_route_23, fX12_route_35, fX12_route_36, fX12_route_59, emIsCorner, emHolds, bnd_ok, hp]
theorem op_goOn {t : Int} {c m : St} (h : rl t c m) (l p : Int) : Step t (cdn 3 1 2) c m (FX11_goOn 0 l p c) (FX12_goOn 0 l p m) := by
  by_cases hp : 0 ≤ p ∧ p < 12
  · by_cases hl : 0 ≤ l ∧ l < 2
    · have hl1 : ¬ l = -1 := by omega
      obtain ⟨b1, b2⟩ := h.bnd hl
      obtain ⟨⟨r1, r2, r3⟩, r4, r5, r6, r7⟩ := h.hR l hl.1 hl.2
      obtain ⟨⟨d1, d2, d3, d4⟩, d5, d6, d7⟩ := h.hD
      obtain ⟨pl, pl1, pl2, pl3⟩ := h.hR.plc hl p
      obtain ⟨u, e1, e2, e3⟩ := h.hD.btw (if 1 ≤ gm m 121 0 l then gm m 122 0 (10 * l + (gm m 121 0 l - 1)) else -1) p
      have el : FX3_lastCorner l c = some (0, if 1 ≤ gm m 121 0 l then gm m 122 0 (10 * l + (gm m 121 0 l - 1)) else -1, c) := by
        simp only [FX3_lastCorner, fX3_lastCorner_0, r1]
        rw [wq (by omega) (by omega), ecCornerAt (by omega) (by omega), r1]
        simp only [bnd_ok]
        by_cases e : 1 ≤ gm m 121 0 l
        · rw [if_pos (by omega), if_pos e, (r5 (gm m 121 0 l - 1) (by omega) (by omega)).1]
        · rw [if_neg (by omega), if_neg e]
      have emt : FX3_mayTake l p c = some (0, if (1 ≤ gm m 121 0 l ∧ gm m 121 0 l < 10) ∧ pl = -1 then 1 else 0, c) := by
        simp only [FX3_mayTake, fX3_mayTake_0, fX3_mayTake_29, fX3_mayTake_30, r1, pl1, bnd_ok, z01, o01, if_true]
        clear h
        grind
      by_cases hok : ¬ (0 < gm m 130 0 l ∨ 0 < gm m 126 0 l) ∧ (1 ≤ gm m 121 0 l ∧ gm m 121 0 l < 10) ∧ pl = -1 ∧ u ≠ -1
      · obtain ⟨hb, hc, hpl, hu⟩ := hok
        rw [if_pos hc.1] at e1 e2 e3 el
        have e3 : 0 ≤ u ∧ u < gm m 12 0 14 ∧ jns m u (gm m 122 0 (10 * l + (gm m 121 0 l - 1))) p := by
          rcases e3 with ⟨e3, -⟩ | e3
          · exact absurd e3 hu
          · exact e3
        have pl3 : ∀ j, 0 ≤ j → j < gm m 121 0 l → gm m 122 0 (10 * l + j) ≠ p := by
          rcases pl3 with ⟨-, pl3⟩ | ⟨pl3, -⟩
          · exact pl3
          · omega
        obtain ⟨q1, q2, -⟩ := d6 u e3.1 e3.2.1
        have hst := rlR.st_le h.hD h.hR hl (gm m 121 0 l - 1).toNat (gm m 121 0 l - 1) (by omega) (by omega)
        have kc : Kp [(24, none), (26, none), (25, none), (3, some 3)] c (pm (pm (pm (pm c 24 l (gm m 121 0 l) p) 26 l (gm m 121 0 l) u) 25 l (gm m 121 0 l) (gm c 25 l (gm m 121 0 l - 1) + gm m 117 0 u)) 3 l 3 (gm m 121 0 l + 1)) := Kp.pm (Kp.pm (Kp.pm (Kp.pm (Kp.rf _ _) (Or.inl (by decide))) (Or.inl (by decide))) (Or.inl (by decide))) (Or.inr (by decide))
        have km : Kp [(12, some 0), (122, none), (121, none)] m (pm (pm (pm m 12 0 0 0) 122 0 (10 * l + gm m 121 0 l) p) 121 0 l (gm m 121 0 l + 1)) := Kp.pm (Kp.pm (Kp.pm (Kp.rf _ _) (Or.inr (by decide))) (Or.inl (by decide))) (Or.inl (by decide))
        have n121 : ∀ j, gm (pm (pm (pm m 12 0 0 0) 122 0 (10 * l + gm m 121 0 l) p) 121 0 l (gm m 121 0 l + 1)) 121 0 j = if j = l then gm m 121 0 l + 1 else gm m 121 0 j := fun j => by simp only [gm_pm]; simp
        have n122 : ∀ j, gm (pm (pm (pm m 12 0 0 0) 122 0 (10 * l + gm m 121 0 l) p) 121 0 l (gm m 121 0 l + 1)) 122 0 j = if j = 10 * l + gm m 121 0 l then p else gm m 122 0 j := fun j => by simp only [gm_pm]; simp
        have x3 : ∀ i, gm (pm (pm (pm (pm c 24 l (gm m 121 0 l) p) 26 l (gm m 121 0 l) u) 25 l (gm m 121 0 l) (gm c 25 l (gm m 121 0 l - 1) + gm m 117 0 u)) 3 l 3 (gm m 121 0 l + 1)) 3 i 3 = if i = l then gm m 121 0 l + 1 else gm c 3 i 3 := fun i => by simp only [gm_pm]; simp
        have x24 : ∀ i j, gm (pm (pm (pm (pm c 24 l (gm m 121 0 l) p) 26 l (gm m 121 0 l) u) 25 l (gm m 121 0 l) (gm c 25 l (gm m 121 0 l - 1) + gm m 117 0 u)) 3 l 3 (gm m 121 0 l + 1)) 24 i j = if i = l ∧ j = gm m 121 0 l then p else gm c 24 i j := fun i j => by simp only [gm_pm]; simp
        have x26 : ∀ i j, gm (pm (pm (pm (pm c 24 l (gm m 121 0 l) p) 26 l (gm m 121 0 l) u) 25 l (gm m 121 0 l) (gm c 25 l (gm m 121 0 l - 1) + gm m 117 0 u)) 3 l 3 (gm m 121 0 l + 1)) 26 i j = if i = l ∧ j = gm m 121 0 l then u else gm c 26 i j := fun i j => by simp only [gm_pm]; simp
        have x25 : ∀ i j, gm (pm (pm (pm (pm c 24 l (gm m 121 0 l) p) 26 l (gm m 121 0 l) u) 25 l (gm m 121 0 l) (gm c 25 l (gm m 121 0 l - 1) + gm m 117 0 u)) 3 l 3 (gm m 121 0 l + 1)) 25 i j = if i = l ∧ j = gm m 121 0 l then gm c 25 l (gm m 121 0 l - 1) + gm m 117 0 u else gm c 25 i j := fun i j => by simp only [gm_pm]; simp
        have hn2 : (pm (pm (pm (pm c 24 l (gm m 121 0 l) p) 26 l (gm m 121 0 l) u) 25 l (gm m 121 0 l) (gm c 25 l (gm m 121 0 l - 1) + gm m 117 0 u)) 3 l 3 (gm m 121 0 l + 1)).2 = c.2 := rfl
        have fc : FX11_goOn 0 l p c = bnd (FX3_cells l (pm (pm (pm (pm c 24 l (gm m 121 0 l) p) 26 l (gm m 121 0 l) u) 25 l (gm m 121 0 l) (gm c 25 l (gm m 121 0 l - 1) + gm m 117 0 u)) 3 l 3 (gm m 121 0 l + 1))) fun x1 s1 => some (0, x1, s1) := by
          have hr : 0 ≤ gm m 121 0 l ∧ gm m 121 0 l < 10 := by omega
          have hr2 : 0 ≤ gm m 121 0 l - 1 ∧ gm m 121 0 l - 1 < 10 := by omega
          have hr3 : 1 ≤ gm m 121 0 l ∧ gm m 121 0 l ≤ 9 := by omega
          simp only [FX11_goOn, fX11_goOn_0, fX11_goOn_17, fX11_goOn_37, fX11_goOn_77, fX11_goOn_87, ecIsCorner, h.lea, bnd_ok, if_pos hp, if_pos hl, if_neg hl1, if_pos hl.1, el, e1, b1, if_neg hb, emt, if_pos (And.intro hc hpl), if_neg hu, FX3_lead, fX3_lead_0, fX3_lead_55, ecWithin, r1]
          rw [wq (z := gm m 121 0 l - 1) (by omega) (by omega), wq (z := gm m 121 0 l + 1) (by omega) (by omega)]
          simp only [if_pos hr, if_pos hr2, if_pos hr3, if_pos e3.1, gm_pm]
          simp
          rw [q1.2.2.1, wq (by omega) (by omega)]
          cases FX3_cells l (pm (pm (pm (pm c 24 l (gm m 121 0 l) p) 26 l (gm m 121 0 l) u) 25 l (gm m 121 0 l) (gm c 25 l (gm m 121 0 l - 1) + gm m 117 0 u)) 3 l 3 (gm m 121 0 l + 1)) with
          | none => rfl
          | some q9 =>
            obtain ⟨o, v, s⟩ := q9
            cases o with
            | zero => rfl
            | succ o => rfl
        have fm : FX12_goOn 0 l p m = bnd (FX12_cells 0 l (pm (pm (pm m 12 0 0 0) 122 0 (10 * l + gm m 121 0 l) p) 121 0 l (gm m 121 0 l + 1))) fun x1 s1 => some (0, x1, s1) := by
          have hr : 0 ≤ 10 * l + gm m 121 0 l ∧ 10 * l + gm m 121 0 l < 20 := by omega
          have hr2 : 0 ≤ 10 * l + gm m 121 0 l - 1 ∧ 10 * l + gm m 121 0 l - 1 < 20 := by omega
          have hr3 : 1 ≤ gm m 121 0 l ∧ gm m 121 0 l ≤ 9 := by omega
          have ecg : FX12_canGoOn 0 l p m = some (0, 1, m) := by
            simp only [FX12_canGoOn, fX12_canGoOn_0, fX12_canGoOn_61, fX12_canGoOn_62, if_pos hl, b2, bnd_ok, if_neg hb, emIn, if_pos hr3, pl2, hpl, o01, if_true]
            simp (disch := omega) only [wq]
            simp only [if_pos hr2]
            rw [show 10 * l + gm m 121 0 l - 1 = 10 * l + (gm m 121 0 l - 1) by omega, e2]
            simp [bnd_ok, hu]
          simp only [FX12_goOn, fX12_goOn_0, fX12_goOn_12, fX12_goOn_23, fX12_goOn_36, fX12_goOn_37, fX12_goOn_45, emIsCorner, emIsLeague, emHolds, bnd_ok, if_pos hp, if_pos hl, ecg, gm_pm]
          simp (disch := omega) only [wq]
          simp [hr, hl]
        generalize pm (pm (pm (pm c 24 l (gm m 121 0 l) p) 26 l (gm m 121 0 l) u) 25 l (gm m 121 0 l) (gm c 25 l (gm m 121 0 l - 1) + gm m 117 0 u)) 3 l 3 (gm m 121 0 l + 1) = c' at kc x3 x24 x26 x25 hn2 fc
        have hm2 : (pm (pm (pm m 12 0 0 0) 122 0 (10 * l + gm m 121 0 l) p) 121 0 l (gm m 121 0 l + 1)).2 = m.2 := rfl
        have hm0 : gm (pm (pm (pm m 12 0 0 0) 122 0 (10 * l + gm m 121 0 l) p) 121 0 l (gm m 121 0 l + 1)) 12 0 0 = 0 := by simp [gm_pm]
        generalize pm (pm (pm m 12 0 0 0) 122 0 (10 * l + gm m 121 0 l) p) 121 0 l (gm m 121 0 l + 1) = m' at km n121 n122 fm hm2 hm0
        have z5 : ∀ n j, gm m' 115 n j = gm m 115 n j := km.k (by decide)
        have z6 : ∀ n j, gm m' 116 n j = gm m 116 n j := km.k (by decide)
        have z7 : ∀ n j, gm m' 117 n j = gm m 117 n j := km.k (by decide)
        have z8 : gm m' 12 0 14 = gm m 12 0 14 := km.f (by decide) 0
        have hR' : rlR c' m' := by
          intro l' l0 l1
          obtain ⟨t1, t2, t3, t4, t5⟩ := h.hR l' l0 l1
          simp only [x3, x25, x24, x26, n121, n122, z8, jns, z5, z6, z7]
          by_cases e : l' = l
          · subst e
            simp only [if_true, true_and]
            refine ⟨⟨by omega, by omega⟩, by rw [if_neg (by omega)]; exact t2, fun k k0 k1 => ?_, fun k k0 k1 => ?_, fun k k' k0 k1 k2 k3 hk => ?_⟩
            · by_cases ek : k = gm m 121 0 l'
              · rw [if_pos ek, if_pos (by omega)]
                exact ⟨rfl, hp⟩
              · rw [if_neg ek, if_neg (by omega)]
                exact t3 k k0 (by omega)
            · by_cases ek : k = gm m 121 0 l'
              · rw [if_pos ek, if_neg (by omega), if_pos (by omega), if_pos ek, if_neg (by omega)]
                rw [show k - 1 = gm m 121 0 l' - 1 by omega]
                exact ⟨⟨e3.1, e3.2.1⟩, e3.2.2, rfl⟩
              · rw [if_neg ek, if_neg (by omega), if_neg (by omega), if_neg ek, if_neg (by omega)]
                exact t4 k k0 (by omega)
            · by_cases ek : k = gm m 121 0 l' <;> by_cases ek' : k' = gm m 121 0 l'
              · omega
              · rw [if_pos (by omega), if_neg (by omega)] at hk
                exact absurd hk.symm (pl3 k' k2 (by omega))
              · rw [if_neg (by omega), if_pos (by omega)] at hk
                exact absurd hk (pl3 k k0 (by omega))
              · rw [if_neg (by omega), if_neg (by omega)] at hk
                exact t5 k k' k0 (by omega) k2 (by omega) hk
          · simp only [if_neg e]
            have ne : ∀ k : Int, 0 ≤ k → k < 10 → ¬ 10 * l' + k = 10 * l + gm m 121 0 l := fun k k0 k1 => by omega
            refine ⟨t1, by rw [if_neg (fun z => e z.1)]; exact t2, fun k k0 k1 => ?_, fun k k0 k1 => ?_, fun k k' k0 k1 k2 k3 hk => ?_⟩
            · rw [if_neg (fun z => e z.1), if_neg (ne k k0 (by omega))]
              exact t3 k k0 k1
            · rw [if_neg (fun z => e z.1), if_neg (ne (k - 1) (by omega) (by omega)), if_neg (ne k (by omega) (by omega)), if_neg (fun z => e z.1), if_neg (fun z => e z.1)]
              exact t4 k k0 k1
            · rw [if_neg (ne k k0 (by omega)), if_neg (ne k' k2 (by omega))] at hk
              exact t5 k k' k0 k1 k2 k3 hk
        have hD' : rlD c' m' := h.hD.kp kc km (by decide) (by rw [hn2])
        have kl := ecCellsV (c := c') (m := m') hR' hl
        have kl2 := emCellsV (c := c') (m := m') hD' hR' hl
        refine Step.ok (v := clv c' m' l) (c' := c') (m' := m') (by rw [fc, kl]; rfl) (by rw [fm, kl2]; rfl) kc km (by decide) (by decide) hm0 hm2 ?_
        refine rl.keep0 h kc km hn2 ?_ ?_ ?_ ?_ ?_ ?_ ?_ ?_ ?_ ?_ ?_ ?_ ?_ ?_ <;> first | exact fun e => absurd e (by decide) | intro _
        · exact hR'
        · obtain ⟨o1, o2⟩ := h.hO
          have w1 : ∀ n, gm c' 6 n 15 = gm c 6 n 15 := kc.f (by decide)
          have w2 : ∀ n, gm c' 6 n 11 = gm c 6 n 11 := kc.f (by decide)
          have w3 : ∀ n, gm c' 4 n 1 = gm c 4 n 1 := kc.f (by decide)
          have w4 : ∀ n j, gm c' 27 n j = gm c 27 n j := kc.k (by decide)
          have w5 : gm m' 12 0 1 = gm m 12 0 1 := km.f (by decide) 0
          have y1 : ∀ n j, gm m' 124 n j = gm m 124 n j := km.k (by decide)
          have y2 : ∀ n j, gm m' 125 n j = gm m 125 n j := km.k (by decide)
          have y3 : ∀ n j, gm m' 126 n j = gm m 126 n j := km.k (by decide)
          have y4 : ∀ n j, gm m' 127 n j = gm m 127 n j := km.k (by decide)
          have y5 : ∀ n j, gm m' 102 n j = gm m 102 n j := km.k (by decide)
          simp only [rlO, w1, w2, w3, w4, w5, y1, y2, y3, y4, y5, n121]
          refine ⟨o1, fun l' l0 l1 => ?_⟩
          obtain ⟨p1, p2, p3⟩ := o2 l' l0 l1
          refine ⟨p1, fun e => ?_, p3⟩
          by_cases e2 : l' = l
          · subst e2; omega
          · rw [if_neg e2]; exact p2 e
        · have hL := h.hL.mono (show t ≤ t + 1 by omega)
          have w1 : ∀ n, gm c' 1 n 6 = gm c 1 n 6 := kc.f (by decide)
          have w2 : ∀ n, gm c' 1 n 7 = gm c 1 n 7 := kc.f (by decide)
          have w3 : ∀ n, gm c' 1 n 2 = gm c 1 n 2 := kc.f (by decide)
          have w4 : ∀ n, gm c' 1 n 3 = gm c 1 n 3 := kc.f (by decide)
          have w5 : ∀ n, gm c' 1 n 4 = gm c 1 n 4 := kc.f (by decide)
          have w6 : ∀ n, gm c' 1 n 5 = gm c 1 n 5 := kc.f (by decide)
          have w7 : ∀ n j, gm c' 28 n j = gm c 28 n j := kc.k (by decide)
          have w8 : ∀ n j, gm c' 2 n j = gm c 2 n j := kc.k (by decide)
          have w9 : ∀ n j, gm c' 29 n j = gm c 29 n j := kc.k (by decide)
          have v1 : gm m' 12 0 1 = gm m 12 0 1 := km.f (by decide) 0
          have v2 : ∀ n j, gm m' 130 n j = gm m 130 n j := km.k (by decide)
          have v3 : ∀ n j, gm m' 134 n j = gm m 134 n j := km.k (by decide)
          have v4 : ∀ n j, gm m' 126 n j = gm m 126 n j := km.k (by decide)
          have v5 : ∀ n j, gm m' 131 n j = gm m 131 n j := km.k (by decide)
          have v6 : ∀ n j, gm m' 132 n j = gm m 132 n j := km.k (by decide)
          have v7 : ∀ n j, gm m' 133 n j = gm m 133 n j := km.k (by decide)
          have v8 : ∀ n j, gm m' 135 n j = gm m 135 n j := km.k (by decide)
          have v9 : ∀ n j, gm m' 136 n j = gm m 136 n j := km.k (by decide)
          have u1 : ∀ n j, gm m' 137 n j = gm m 137 n j := km.k (by decide)
          have u2 : ∀ n j, gm m' 138 n j = gm m 138 n j := km.k (by decide)
          have u3 : ∀ n j, gm m' 139 n j = gm m 139 n j := km.k (by decide)
          have u4 : ∀ n j, gm m' 140 n j = gm m 140 n j := km.k (by decide)
          have u5 : ∀ n j, gm m' 141 n j = gm m 141 n j := km.k (by decide)
          have u6 : ∀ n j, gm m' 102 n j = gm m 102 n j := km.k (by decide)
          have u7 : ∀ n j, gm m' 124 n j = gm m 124 n j := km.k (by decide)
          have u8 : ∀ n j, gm m' 143 n j = gm m 143 n j := km.k (by decide)
          simp only [rlL, rlP] at hL ⊢
          simp only [w1, w2, w3, w4, w5, w6, w7, w8, w9, v1, v2, v3, v4, v5, v6, v7, v8, v9, u1, u2, u3, u4, u5, u6, u7, u8, hn2, n121, n122]
          obtain ⟨g1, g2⟩ := hL
          refine ⟨fun l' l0 l1 => ?_, g2⟩
          obtain ⟨a1, a2, a3, a4, a5, a6, a7⟩ := g1 l' l0 l1
          refine ⟨a1, a2, a3, a4, a5, fun e => ?_, a7⟩
          by_cases e2 : l' = l
          · subst e2; omega
          · intro j j0 j1
            rw [if_neg e2] at j1
            have hc9 := (h.hR l' l0 l1).1
            rw [if_neg (by omega)]
            exact a6 e j j0 j1
      · refine Step.thr h (o := 2) (v := 0) (x := 0) (k := 3) (by decide) ?_ ?_ rfl
        · simp only [FX11_goOn, fX11_goOn_0, fX11_goOn_17, fX11_goOn_37, fX11_goOn_77, fX11_goOn_87, ecIsCorner, h.lea, bnd_ok, if_pos hp, if_pos hl, if_neg hl1, if_pos hl.1, el, e1, b1, emt]
          clear h
          by_cases c1 : 0 < gm m 130 0 l ∨ 0 < gm m 126 0 l
          · simp [c1]
          · by_cases c2 : (1 ≤ gm m 121 0 l ∧ gm m 121 0 l < 10) ∧ pl = -1
            · have c3 : u = -1 := by
                by_cases c3 : u = -1
                · exact c3
                · exact absurd ⟨c1, c2.1, c2.2, c3⟩ hok
              simp only [if_neg c1, if_pos c2, c3]
              simp
            · simp only [if_neg c1, if_neg c2]
              simp
        · have ecg : FX12_canGoOn 0 l p m = some (0, 0, m) := by
            simp only [FX12_canGoOn, fX12_canGoOn_0, fX12_canGoOn_61, fX12_canGoOn_62, if_pos hl, b2, bnd_ok, emIn, pl2, z01, o01, if_true]
            clear h
            by_cases c1 : 0 < gm m 130 0 l ∨ 0 < gm m 126 0 l
            · simp [c1]
            · simp only [if_neg c1]
              by_cases c2 : 1 ≤ gm m 121 0 l ∧ gm m 121 0 l ≤ 9
              · rw [if_pos c2.1] at e1 e2 e3 el
                simp only [if_pos c2]
                by_cases c4 : pl = -1
                · have c3 : u = -1 := by
                    by_cases c3 : u = -1
                    · exact c3
                    · exact absurd ⟨c1, by omega, c4, c3⟩ hok
                  have hr2 : 0 ≤ 10 * l + gm m 121 0 l - 1 ∧ 10 * l + gm m 121 0 l - 1 < 20 := by omega
                  simp (disch := omega) only [wq]
                  simp only [if_pos hr2, if_pos c4]
                  rw [show 10 * l + gm m 121 0 l - 1 = 10 * l + (gm m 121 0 l - 1) by omega, e2]
                  simp [bnd_ok, c3]
                · simp [c4]
              · simp only [if_neg c2]
                simp
          simp only [FX12_goOn, fX12_goOn_0, fX12_goOn_12, fX12_goOn_23, fX12_goOn_36, fX12_goOn_37, fX12_goOn_45, emIsCorner, emIsLeague, emHolds, bnd_ok, if_pos hp, if_pos hl, ecg]
          simp
    · refine Step.thr h (o := 1) (v := 0) (x := 0) (k := 2) (by decide) ?_ ?_ rfl
      · simp [FX11_goOn, fX11_goOn_0, fX11_goOn_17, fX11_goOn_37, fX11_goOn_77, fX11_goOn_87, ecIsCorner, h.lea, bnd_ok, hp, hl]
      · simp [FX12_goOn, fX12_goOn_0, fX12_goOn_12, fX12_goOn_23, fX12_goOn_36, fX12_goOn_37, fX12_goOn_45, emIsCorner, emIsLeague, emHolds, bnd_ok, hp, hl]
  · refine Step.thr h (o := 3) (v := 0) (x := 0) (k := 1) (by decide) ?_ ?_ rfl
    · simp [FX11_goOn, fX11_goOn_0, fX11_goOn_17, fX11_goOn_37, fX11_goOn_77, fX11_goOn_87, ecIsCorner, bnd_ok, hp]
    · simp [FX12_goOn, fX12_goOn_0, fX12_goOn_12, fX12_goOn_23, fX12_goOn_36, fX12_goOn_37, fX12_goOn_45, emIsCorner, emHolds, bnd_ok, hp]
