/-! Parts of a march: asked for, stopped. -/
theorem rl.prt {t : Int} {c m : St} (h : rl t c m) {l k : Int} (hl : 0 ≤ l ∧ l < 2) (k0 : 0 ≤ k) (k1 : k < gm m 134 0 l) : (0 ≤ gm c 28 l k ∧ rlP t c m (gm c 28 l k) (60 * l + k) l) ∧ FX2_isOut (gm c 28 l k) (clv c m l) c = some (0, if clv c m l ≤ gm m 138 0 (60 * l + k) - gm m 137 0 (60 * l + k) + 1 then 1 else 0, c) ∧ FX12_isOut 0 l k m = some (0, if clv c m l ≤ gm m 138 0 (60 * l + k) - gm m 137 0 (60 * l + k) + 1 then 1 else 0, m) := by
  obtain ⟨-, ⟨a1, a2, a3⟩, -, a4, -⟩ := h.hL.1 l hl.1 hl.2
  have P := a4 k k0 k1
  obtain ⟨p0, p1, p2, ⟨p3, p4, p5⟩, ⟨p6, p7, p8⟩, -⟩ := id P
  refine ⟨P, ?_, ?_⟩
  · rw [ecIsOut (by omega) (by omega) (by omega) (by omega), p3, p6]
  · have w : wr (wr (60 * l) + k) = 60 * l + k := by rw [wq (z := 60 * l) (by omega) (by omega), wq (by omega) (by omega)]
    simp only [FX12_isOut, fX12_isOut_0, fX12_isOut_22, fX12_isOut_23, w, emTailOf (a0 := 0) (a1 := 60 * l + k) (s := m) (by omega) (by omega) (by omega) (by omega) (by omega) (by omega), bnd_ok, emCellsV h.hD h.hR hl, z01, o01, if_true]
    by_cases z : clv c m l ≤ gm m 138 0 (60 * l + k) - gm m 137 0 (60 * l + k) + 1
    · have z2 : ¬ gm m 138 0 (60 * l + k) - gm m 137 0 (60 * l + k) + 1 < clv c m l := by omega
      simp only [if_pos z, if_neg z2]
      simp
    · have z2 : gm m 138 0 (60 * l + k) - gm m 137 0 (60 * l + k) + 1 < clv c m l := by omega
      simp only [if_neg z, if_pos z2]
      simp
theorem op_stop {t : Int} (ht : t ≤ 1000) {c m : St} (h : rl t c m) (l k v : Int) : Step t (cdn 1 2 3) c m (FX11_stop 0 l k v c) (FX12_stop 0 l k v m) := by
  have hn := h.n
  by_cases hl : 0 ≤ l ∧ l < 2
  · have hl1 : ¬ l = -1 := by omega
    by_cases hv : 1 ≤ v ∧ v ≤ 20
    · obtain ⟨L1, ⟨L2, L3, L4⟩, -⟩ := h.hL.1 l hl.1 hl.2
      have g := ecGoesOn l c
      by_cases h1 : gm m 130 0 l = 1
      · rw [if_pos (by omega)] at g
        have ep := ecPartAt (a0 := l) (a1 := k) (s := c) (by omega) (by omega)
        rw [L2] at ep
        have w1 : wr (gm m 134 0 l - 1) = gm m 134 0 l - 1 := wq (by omega) (by omega)
        by_cases hk : 0 ≤ k ∧ k < gm m 134 0 l
        · rw [if_pos hk] at ep
          have hk' : 0 ≤ k ∧ k ≤ gm m 134 0 l - 1 := by omega
          obtain ⟨⟨p0, P⟩, u1, u2⟩ := h.prt hl hk.1 hk.2
          have p1 : ¬ gm c 28 l k = -1 := by omega
          by_cases ho : clv c m l ≤ gm m 138 0 (60 * l + k) - gm m 137 0 (60 * l + k) + 1
          · rw [if_pos ho] at u1 u2
            refine Step.thr h (o := 3) (v := 0) (x := 0) (k := 3) (by decide) ?_ ?_ rfl
            · simp only [FX11_stop, fX11_stop_0, fX11_stop_22, fX11_stop_33, fX11_stop_55, fX11_stop_87, fX11_stop_98, h.lea, if_pos hl, bnd_ok, if_neg hl1, ecWithin, if_pos hv, if_pos hl.1, g, ep, if_neg p1, ecCellsV h.hR hl, if_pos p0, u1, if_neg (show ¬ (1 : Int) = 0 by omega)]
            · simp only [FX12_stop, fX12_stop_0, fX12_stop_21, fX12_stop_22, fX12_stop_43, fX12_stop_44, fX12_stop_80, fX12_stop_81, fX12_stop_93, fX12_stop_102, fX12_stop_111, fX12_stop_112, emIsLeague, if_pos hl, bnd_ok, emIn, if_pos hv, if_neg (show ¬ (1 : Int) = 0 by omega), h1, if_true, w1, if_pos hk', u2, emHolds]
              simp
          · rw [if_neg ho] at u1 u2
            obtain ⟨p2, p3, p4, p5, ⟨p6, p7, p8⟩, p9⟩ := id P
            have kc : Kp [(2, some 4)] c (pm c 2 (gm c 28 l k) 4 (gm m 139 0 (60 * l + k) + v)) := Kp.pm (Kp.rf _ _) (Or.inr (by decide))
            have km : Kp [(12, some 0), (139, none)] m (pm (pm m 12 0 0 0) 139 0 (60 * l + k) (gm m 139 0 (60 * l + k) + v)) := Kp.pm (Kp.pm (Kp.rf _ _) (Or.inr (by decide))) (Or.inl (by decide))
            refine Step.ok (v := gm m 139 0 (60 * l + k) + v) (c' := pm c 2 (gm c 28 l k) 4 (gm m 139 0 (60 * l + k) + v)) (m' := pm (pm m 12 0 0 0) 139 0 (60 * l + k) (gm m 139 0 (60 * l + k) + v)) ?_ ?_ kc km (by decide) (by decide) (by simp [gm_pm]) rfl ?_
            · simp only [FX11_stop, fX11_stop_0, fX11_stop_22, fX11_stop_33, fX11_stop_55, fX11_stop_87, fX11_stop_98, h.lea, if_pos hl, bnd_ok, if_neg hl1, ecWithin, if_pos hv, if_pos hl.1, g, ep, if_neg p1, ecCellsV h.hR hl, if_pos p0, u1, if_neg (show ¬ (1 : Int) = 0 by omega), if_true, p6]
              rw [wq (by omega) (by omega)]
              simp [gm_pm]
            · have w2 : wr (wr (60 * l) + k) = 60 * l + k := by rw [wq (z := 60 * l) (by omega) (by omega), wq (by omega) (by omega)]
              have hr : 0 ≤ 60 * l + k ∧ 60 * l + k < 120 := by omega
              simp only [FX12_stop, fX12_stop_0, fX12_stop_21, fX12_stop_22, fX12_stop_43, fX12_stop_44, fX12_stop_80, fX12_stop_81, fX12_stop_93, fX12_stop_102, fX12_stop_111, fX12_stop_112, fX12_stop_120, emIsLeague, if_pos hl, bnd_ok, emIn, if_pos hv, if_neg (show ¬ (1 : Int) = 0 by omega), h1, if_true, w1, if_pos hk', u2, emHolds, w2, if_pos hr]
              have x1 : gm (pm m 12 0 0 0) 139 0 (60 * l + k) = gm m 139 0 (60 * l + k) := rfl
              rw [x1, wq (by omega) (by omega)]
              simp [gm_pm]
            · refine rl.keep0 h kc km rfl ?_ ?_ ?_ ?_ ?_ ?_ ?_ ?_ ?_ ?_ ?_ ?_ ?_ ?_ <;> first | exact fun e => absurd e (by decide) | intro _
              have hL := h.hL.mono (show t ≤ t + 1 by omega)
              have x4 : ∀ i, gm (pm c 2 (gm c 28 l k) 4 (gm m 139 0 (60 * l + k) + v)) 2 i 4 = if i = gm c 28 l k then gm m 139 0 (60 * l + k) + v else gm c 2 i 4 := fun i => by simp [gm_pm]
              have x9 : ∀ i, gm (pm (pm m 12 0 0 0) 139 0 (60 * l + k) (gm m 139 0 (60 * l + k) + v)) 139 0 i = if i = 60 * l + k then gm m 139 0 (60 * l + k) + v else gm m 139 0 i := fun i => by simp [gm_pm]
              have n2 : (pm c 2 (gm c 28 l k) 4 (gm m 139 0 (60 * l + k) + v)).2 = c.2 := rfl
              generalize pm c 2 (gm c 28 l k) 4 (gm m 139 0 (60 * l + k) + v) = c' at kc x4 n2
              generalize pm (pm m 12 0 0 0) 139 0 (60 * l + k) (gm m 139 0 (60 * l + k) + v) = m' at km x9
              simp only [rlL, rlP] at hL ⊢
              obtain ⟨h1, h2, h3⟩ := hL
              simp only [kc.k (show frk _ 28 = true by decide), n2]
              refine ⟨fun z z0 z1 => ?_, h2, h3⟩
              obtain ⟨a1, a2, a3, a4, a5, a6, a7⟩ := h1 z z0 z1
              simp only [kc.k (show frk _ 1 = true by decide), kc.k (show frk _ 29 = true by decide), kc.f (show fre _ 2 0 = true by decide), kc.f (show fre _ 2 1 = true by decide), kc.f (show fre _ 2 2 = true by decide), kc.f (show fre _ 2 3 = true by decide), kc.f (show fre _ 2 5 = true by decide), x4, x9, km.f (show fre _ 12 1 = true by decide),
                km.k (show frk _ 130 = true by decide), km.k (show frk _ 134 = true by decide), km.k (show frk _ 126 = true by decide), km.k (show frk _ 131 = true by decide), km.k (show frk _ 132 = true by decide), km.k (show frk _ 133 = true by decide), km.k (show frk _ 135 = true by decide), km.k (show frk _ 136 = true by decide), km.k (show frk _ 137 = true by decide), km.k (show frk _ 138 = true by decide), km.k (show frk _ 140 = true by decide), km.k (show frk _ 141 = true by decide), km.k (show frk _ 121 = true by decide), km.k (show frk _ 122 = true by decide), km.k (show frk _ 102 = true by decide), km.k (show frk _ 124 = true by decide), km.k (show frk _ 143 = true by decide)]
              refine ⟨a1, a2, a3, fun i i0 i1 => ?_, a5, a6, a7⟩
              obtain ⟨b0, b1, b2, b3, b4, b5, b6⟩ := a4 i i0 i1
              refine ⟨b0, b1, b2, b3, b4, ?_, b6⟩
              by_cases e1 : gm c 28 z i = gm c 28 l k
              · obtain ⟨e2, e3⟩ := h3 z i l k z0 z1 i0 (by omega) hl.1 hl.2 hk.1 (by omega) b0 e1
                rw [if_pos e1, if_pos (by omega)]
                omega
              · rw [if_neg e1, if_neg (fun w => e1 (by
                  have e2 : z = l := by omega
                  have e3 : i = k := by omega
                  rw [e2, e3]))]
                exact b5
        · rw [if_neg hk] at ep
          have hk' : ¬ (0 ≤ k ∧ k ≤ gm m 134 0 l - 1) := by omega
          refine Step.thr h (o := 3) (v := 0) (x := 0) (k := 3) (by decide) ?_ ?_ rfl
          · simp only [FX11_stop, fX11_stop_0, fX11_stop_22, fX11_stop_33, fX11_stop_55, fX11_stop_87, fX11_stop_98, h.lea, if_pos hl, bnd_ok, if_neg hl1, ecWithin, if_pos hv, if_pos hl.1, g, ep, if_neg (show ¬ (1 : Int) = 0 by omega), if_true]
          · simp only [FX12_stop, fX12_stop_0, fX12_stop_21, fX12_stop_22, fX12_stop_43, fX12_stop_44, fX12_stop_80, fX12_stop_81, fX12_stop_93, fX12_stop_102, fX12_stop_111, fX12_stop_112, emIsLeague, if_pos hl, bnd_ok, emIn, if_pos hv, if_neg (show ¬ (1 : Int) = 0 by omega), h1, if_true, w1, if_neg hk', emHolds]
            simp
      · rw [if_neg (by omega)] at g
        refine Step.thr h (o := 2) (v := 0) (x := 0) (k := 2) (by decide) ?_ ?_ rfl
        · simp only [FX11_stop, fX11_stop_0, fX11_stop_22, fX11_stop_33, fX11_stop_55, fX11_stop_87, fX11_stop_98, h.lea, if_pos hl, bnd_ok, if_neg hl1, ecWithin, if_pos hv, if_pos hl.1, g, if_neg (show ¬ (1 : Int) = 0 by omega), if_true]
        · simp only [FX12_stop, fX12_stop_0, fX12_stop_21, fX12_stop_22, fX12_stop_43, fX12_stop_44, fX12_stop_80, fX12_stop_81, fX12_stop_93, fX12_stop_102, fX12_stop_111, fX12_stop_112, emIsLeague, if_pos hl, bnd_ok, emIn, if_pos hv, if_neg (show ¬ (1 : Int) = 0 by omega), if_neg h1, if_true, emHolds]
          simp
    · refine Step.thr h (o := 1) (v := 0) (x := 0) (k := 1) (by decide) ?_ ?_ rfl
      · simp only [FX11_stop, fX11_stop_0, fX11_stop_22, fX11_stop_33, fX11_stop_55, fX11_stop_87, fX11_stop_98, h.lea, if_pos hl, bnd_ok, if_neg hl1, ecWithin, if_neg hv, if_true]
      · simp only [FX12_stop, fX12_stop_0, fX12_stop_21, fX12_stop_22, fX12_stop_43, fX12_stop_44, fX12_stop_80, fX12_stop_81, fX12_stop_93, fX12_stop_102, fX12_stop_111, fX12_stop_112, emIsLeague, if_pos hl, bnd_ok, emIn, if_neg hv, if_neg (show ¬ (1 : Int) = 0 by omega), if_true, emHolds]
  · refine Step.thr h (o := 1) (v := 0) (x := 0) (k := 1) (by decide) ?_ ?_ rfl
    · simp only [FX11_stop, fX11_stop_0, fX11_stop_22, fX11_stop_33, fX11_stop_55, fX11_stop_87, fX11_stop_98, h.lea, if_neg hl, bnd_ok, if_true]
    · simp only [FX12_stop, fX12_stop_0, fX12_stop_21, fX12_stop_22, fX12_stop_43, fX12_stop_44, fX12_stop_80, fX12_stop_81, fX12_stop_93, fX12_stop_102, fX12_stop_111, fX12_stop_112, emIsLeague, if_neg hl, bnd_ok, if_true, emHolds]
      simp
