/-! A society is founded. -/
def soT : List (Nat × Option Int) := [(6, none), (7, none), (17, none), (16, none), (5, none), (18, none), (19, none), (20, none), (21, none), (15, none), (13, none), (11, some 3)]
def soU : List (Nat × Option Int) := [(12, some 1), (102, none), (103, none), (143, none), (144, none)]
theorem rl.soci {t n l v : Int} {c m c' m' : St} (h : rl t c m) (hn : gm m 12 0 1 = n) (n0 : 0 ≤ n) (n10 : n < 10) (hl : 0 ≤ l ∧ l < 2) (hv : 1 ≤ v ∧ v ≤ 200) (hc : Kp soT c c') (hm : Kp soU m m')
    (k6 : ∀ j : Int, 0 ≤ j → gm c' 6 n j = if j = 0 then n else if j = 1 then v else if j = 5 then l else if j = 12 ∨ j = 13 then -1 else 0) (k7 : ∀ j, gm c' 7 n j = 0) (k5 : ∀ j, gm c' 5 n j = 0) (k18 : ∀ j, gm c' 18 n j = 0)
    (kf : ∀ k z j, k ≠ 13 → k ≠ 11 → z ≠ n → gm c' k z j = gm c k z j) (k13 : ∀ j, gm c' 13 0 j = if j = n then n else gm c 13 0 j) (k11 : gm c' 11 0 3 = n + 1) (cnt : ∀ k, c'.2 k = if k = 6 then n + 1 else c.2 k)
    (m1 : gm m' 12 0 1 = n + 1) (m102 : ∀ j, gm m' 102 0 j = if j = n then l else gm m 102 0 j) (m103 : ∀ j, gm m' 103 0 j = if j = n then v else gm m 103 0 j) (m143 : ∀ j, gm m' 143 0 j = if j = n then -1 else gm m 143 0 j) (m144 : ∀ j, gm m' 144 0 j = if j = n then -1 else gm m 144 0 j) : rl (t + 1) c' m' := by
  have old : ∀ i : Int, i < n → i ≠ n := fun i hi => by omega
  have hN := h.hN
  have t0 : 0 ≤ t := by have := hN.2.1; omega
  refine rl.keep h hc hm (by omega) (fun e => absurd e (by decide)) (fun _ => by rw [cnt, if_neg (by decide)]) (by rw [cnt, if_neg (by decide)]; exact Int.le_refl _) (by rw [cnt, if_neg (by decide)]; exact Int.le_refl _) ⟨by rw [cnt, if_neg (by decide)]; have := hN.1; omega, by rw [cnt, if_neg (by decide)]; have := hN.2.1; omega, by rw [cnt, if_neg (by decide)]; have := hN.2.2.1; omega, fun k => by
      rw [cnt]
      split
      · omega
      · exact hN.2.2.2 k⟩ ?_ ?_ ?_ ?_ ?_ ?_ ?_ ?_ ?_ ?_ ?_ ?_ ?_ ?_ <;> first | exact fun e => absurd e (by decide) | intro _
  · -- societies
    obtain ⟨⟨b1, b2, b3, b4⟩, b5, b6, b7⟩ := h.1
    rw [hn] at b1 b4 b5 b6
    refine ⟨⟨by rw [k11, m1], by omega, by omega, by rw [cnt, if_pos rfl, m1]⟩, fun i i0 i1 => ?_, fun i i0 i1 => ?_, ?_⟩
    · rw [k13, m1, b5 i i0 i1]
      by_cases e : i = n
      · rw [if_pos e, if_pos (by omega), e]
      · rw [if_neg e]
        by_cases e2 : i < n
        · rw [if_pos e2, if_pos (by omega)]
        · rw [if_neg e2, if_neg (by omega)]
    · rw [m1] at i1
      rw [m102, m103]
      by_cases e : i = n
      · subst e
        rw [k6 _ (by omega), k6 _ (by omega), k6 _ (by omega)]
        simp
        omega
      · rw [kf 6 i _ (by decide) (by decide) e, kf 6 i _ (by decide) (by decide) e, kf 6 i _ (by decide) (by decide) e, if_neg e, if_neg e]
        exact b6 i i0 (by omega)
    · rw [hc.k (by decide), hc.k (by decide), hc.k (by decide), hc.k (by decide)]
      exact b7
  · -- money
    intro i i0 i1
    have a := h.hM.mono (show t ≤ t + 1 by omega) i i0 i1
    rw [hn] at a
    obtain ⟨a1, a2, a3⟩ := a
    rw [m1, hm.k (by decide)]
    refine ⟨fun hi => ?_, a2, fun hi => a3 (by omega)⟩
    by_cases e : i = n
    · subst e
      rw [k6 _ (by omega), a3 (by omega)]
      simp
    · rw [kf 6 i _ (by decide) (by decide) e]
      exact a1 (by omega)
  · -- feuds
    obtain ⟨a1, a2⟩ := h.hF
    rw [hn] at a1 a2
    have e105 : ∀ j, gm m' 105 0 j = gm m 105 0 j := fun j => hm.k (by decide) _ _
    refine ⟨fun i i0 i1 => ?_, fun i j i0 i1 j0 j1 hij => ?_⟩
    · rw [m1] at i1
      by_cases e : i = n
      · subst e
        rw [k6 _ (by omega)]
        simp
        intro j j0 j1
        rw [e105, a2 i j i0 n10 j0 j1 (Or.inl (Int.le_refl _))]
        unfold bit
        simp
      · rw [kf 6 i _ (by decide) (by decide) e]
        obtain ⟨d1, d2⟩ := a1 i i0 (by omega)
        exact ⟨d1, fun j j0 j1 => by rw [e105]; exact d2 j j0 j1⟩
    · rw [m1] at hij
      rw [e105]
      exact a2 i j i0 i1 j0 j1 (by omega)
  · -- themes
    intro i i0 i1
    obtain ⟨a1, a2, a3⟩ := h.hT i i0 i1
    rw [hn] at a2 a3
    have e107 : gm m' 107 0 i = gm m 107 0 i := hm.k (by decide) _ _
    rw [m1, hm.k (show frk _ 106 = true by decide), e107]
    refine ⟨a1, fun hi => a2 (by omega), fun hi => ?_⟩
    by_cases e : i = n
    · subst e
      rw [k6 _ (by omega), a2 (Int.le_refl _)]
      exact ⟨by simp, fun y => absurd rfl y⟩
    · rw [kf 6 i _ (by decide) (by decide) e, kf 6 i _ (by decide) (by decide) e]
      exact a3 (by omega)
  · -- songs
    intro i i0 i1
    obtain ⟨a1, a2⟩ := h.hS.mono (show t ≤ t + 1 by omega) i i0 i1
    rw [hn] at a1 a2
    have e111 : ∀ j, gm m' 111 0 j = gm m 111 0 j := fun j => hm.k (by decide) _ _
    rw [m1, hm.k (show frk _ 108 = true by decide), hm.k (show frk _ 109 = true by decide), hm.k (show frk _ 110 = true by decide)]
    refine ⟨fun hi => a1 (by omega), fun hi => ?_⟩
    by_cases e : i = n
    · subst e
      obtain ⟨d1, d2, d3⟩ := a1 (Int.le_refl _)
      rw [k7, k7, d1, d2, d3]
      exact ⟨⟨rfl, by omega, by omega⟩, ⟨rfl, Or.inl rfl⟩, by omega, fun k k0 k1 _ => by unfold bit; simp, fun k k0 k1 => by omega⟩
    · rw [kf 7 i _ (by decide) (by decide) e, kf 7 i _ (by decide) (by decide) e]
      obtain ⟨d1, d2, d3, d4, d5⟩ := a2 (by omega)
      exact ⟨d1, d2, d3, d4, fun k k0 k1 => by rw [kf 17 i _ (by decide) (by decide) e, kf 16 i _ (by decide) (by decide) e, e111]; exact d5 k k0 k1⟩
  · -- floats
    obtain ⟨a1, a2⟩ := h.hW
    rw [hn] at a1
    have e112 : ∀ j, gm m' 112 0 j = gm m 112 0 j := fun j => hm.k (by decide) _ _
    have e113 : ∀ j, gm m' 113 0 j = gm m 113 0 j := fun j => hm.k (by decide) _ _
    have ne : ∀ i k : Int, 0 ≤ i → i < 10 → 0 ≤ k → k < gm m 112 0 i → i ≠ n := fun i k i0 i1 k0 k1 y => by
      have := (a1 i i0 i1).1 (by omega)
      omega
    refine ⟨fun i i0 i1 => ?_, fun i k i' k' i0 i1 k0 k1 j0 j1 q0 q1 e => ?_⟩
    · obtain ⟨d1, d2, d3⟩ := a1 i i0 i1
      rw [m1, e112]
      refine ⟨fun hi => d1 (by omega), d2, fun hi => ?_⟩
      by_cases e : i = n
      · subst e
        rw [k6 _ (by omega), d1 (Int.le_refl _)]
        exact ⟨by simp, fun k k0 k1 => by omega⟩
      · rw [kf 6 i _ (by decide) (by decide) e]
        obtain ⟨f1, f2⟩ := d3 (by omega)
        refine ⟨f1, fun k k0 k1 => ?_⟩
        rw [kf 15 i _ (by decide) (by decide) e, cnt, if_neg (by decide)]
        obtain ⟨g1, g2⟩ := f2 k k0 k1
        refine ⟨g1, fun f f0 f1 => ?_⟩
        rw [hc.k (show frk _ 10 = true by decide), e113]
        exact g2 f f0 f1
    · rw [e112] at k1 q1
      rw [kf 15 i _ (by decide) (by decide) (ne i k i0 i1 k0 k1), kf 15 i' _ (by decide) (by decide) (ne i' k' j0 j1 q0 q1)] at e
      exact a2 i k i' k' i0 i1 k0 k1 j0 j1 q0 q1 e
  · -- who entered
    obtain ⟨a1, a2⟩ := h.hO
    rw [hn] at a1
    refine ⟨fun i i0 i1 => ?_, fun z z0 z1 => ?_⟩
    · obtain ⟨d1, d2, d3, d4, d5⟩ := a1 i i0 i1
      rw [m1, hm.k (show frk _ 124 = true by decide), hm.k (show frk _ 125 = true by decide)]
      refine ⟨fun hi => d1 (by omega), d2, fun hi => ?_, fun hi => d4 (by omega), d5⟩
      by_cases e : i = n
      · subst e
        rw [k6 _ (by omega), k6 _ (by omega), d1 (Int.le_refl _), d4 (Int.le_refl _)]
        simp
      · rw [kf 6 i _ (by decide) (by decide) e, kf 6 i _ (by decide) (by decide) e]
        exact d3 (by omega)
    · obtain ⟨d1, d2, d3, d4, d5⟩ := a2 z z0 z1
      rw [hn] at d3 d5
      have e127 : ∀ j, gm m' 127 0 j = gm m 127 0 j := fun j => hm.k (by decide) _ _
      rw [hc.k (show frk _ 4 = true by decide), hm.k (show frk _ 126 = true by decide), hm.k (show frk _ 121 = true by decide)]
      refine ⟨d1, d2, fun k k0 k1 => ?_, fun k k' k0 k1 k2 k3 => by rw [e127, e127]; exact d4 k k' k0 k1 k2 k3, fun i i0 i1 i2 i3 => ?_⟩
      · obtain ⟨f1, f2, f3, f4⟩ := d3 k k0 k1
        rw [hc.k (show frk _ 27 = true by decide), e127, m1, m102, if_neg (by omega), hm.k (show frk _ 124 = true by decide)]
        exact ⟨f1, by omega, f3, f4⟩
      · rw [m1] at i1
        rw [m102] at i2
        rw [hm.k (by decide)] at i3
        by_cases e : i = n
        · subst e
          have := (a1 i i0 n10).1 (Int.le_refl _)
          omega
        · rw [if_neg e] at i2
          obtain ⟨k, k0, k1, k2⟩ := d5 i i0 (by omega) i2 i3
          exact ⟨k, k0, k1, by rw [e127]; exact k2⟩
  · -- lines
    have hL := h.hL.mono (show t ≤ t + 1 by omega)
    have hO1 := h.hO.1
    rw [hn] at hO1
    simp only [rlL, rlP] at hL ⊢
    obtain ⟨L1, L2, L3⟩ := hL
    simp only [hc.k (show frk _ 28 = true by decide)]
    refine ⟨fun z z0 z1 => ?_, fun z k z0 z1 k0 k1 => by rw [cnt, if_neg (by decide)]; exact L2 z k z0 z1 k0 k1, L3⟩
    have A := L1 z z0 z1
    simp only [hn, hc.k (show frk _ 1 = true by decide), hc.k (show frk _ 2 = true by decide), hc.k (show frk _ 29 = true by decide), m1, hm.k (show frk _ 130 = true by decide), hm.k (show frk _ 131 = true by decide), hm.k (show frk _ 132 = true by decide), hm.k (show frk _ 133 = true by decide), hm.k (show frk _ 134 = true by decide), hm.k (show frk _ 135 = true by decide), hm.k (show frk _ 136 = true by decide), hm.k (show frk _ 137 = true by decide), hm.k (show frk _ 138 = true by decide), hm.k (show frk _ 139 = true by decide), hm.k (show frk _ 140 = true by decide), hm.k (show frk _ 141 = true by decide), hm.k (show frk _ 126 = true by decide), hm.k (show frk _ 121 = true by decide), hm.k (show frk _ 122 = true by decide), hm.k (show frk _ 124 = true by decide)] at A ⊢
    obtain ⟨a1, a2, a3, a4, a5, a6, a7⟩ := A
    refine ⟨a1, a2, a3, fun k k0 k1 => ?_, a5, a6, fun w => ?_⟩
    · obtain ⟨y0, ⟨y1, y2, y3, y4⟩, y5⟩ := a4 k k0 k1
      rw [m102, if_neg (by omega)]
      exact ⟨y0, ⟨y1, by omega, y3, y4⟩, y5⟩
    · obtain ⟨y1, y2, y3, y4⟩ := a7 w
      refine ⟨y1, y2, fun i i0 i1 i2 i3 => ?_, fun k k0 k1 k2 => ?_⟩
      · rw [m102] at i2
        by_cases e : i = n
        · subst e
          have := (hO1 i i0 n10).1 (Int.le_refl _)
          omega
        · rw [if_neg e] at i2
          exact y3 i i0 (by omega) i2 i3
      · have := (a4 k k0 k1).2.1
        rw [m143, if_neg (by omega)]
        exact y4 k k0 k1 k2
  · -- notes and penalties
    intro i i0 i1
    obtain ⟨a1, a2⟩ := h.hH i i0 i1
    rw [hn] at a1 a2
    have e146 : ∀ j, gm m' 146 0 j = gm m 146 0 j := fun j => hm.k (by decide) _ _
    rw [m1, hm.k (show frk _ 147 = true by decide)]
    refine ⟨fun hi => ?_, fun hi => ?_⟩
    · obtain ⟨d1, d2⟩ := a1 (by omega)
      exact ⟨d1, fun j j0 j1 => by rw [e146]; exact d2 j j0 j1⟩
    · by_cases e : i = n
      · subst e
        obtain ⟨d1, d2⟩ := a1 (Int.le_refl _)
        rw [k5, d1]
        refine ⟨⟨rfl, by omega, by omega⟩, fun j j0 j1 => ?_, fun k k0 k1 => by omega, fun y => absurd rfl y⟩
        rw [k18, e146, d2 j j0 j1]
        exact ⟨rfl, Or.inl rfl⟩
      · obtain ⟨d1, d2, d3, d4⟩ := a2 (by omega)
        rw [kf 5 i _ (by decide) (by decide) e]
        refine ⟨d1, fun j j0 j1 => by rw [kf 18 i _ (by decide) (by decide) e, e146]; exact d2 j j0 j1, fun k k0 k1 => ?_, fun y => ?_⟩
        · rw [kf 19 i _ (by decide) (by decide) e, kf 20 i _ (by decide) (by decide) e, kf 21 i _ (by decide) (by decide) e, hm.k (show frk _ 148 = true by decide), hm.k (show frk _ 149 = true by decide), hm.k (show frk _ 150 = true by decide)]
          exact d3 k k0 k1
        · rw [m102, if_neg e, hm.k (show frk _ 124 = true by decide), hm.k (show frk _ 130 = true by decide)]
          exact d4 y
  · -- clocks
    intro i i0 i1
    obtain ⟨a1, a2⟩ := h.hK.mono (show t ≤ t + 1 by omega) i i0 i1
    rw [hn] at a1 a2
    rw [m1, m143, m144, hm.k (show frk _ 145 = true by decide)]
    refine ⟨fun hi => a1 (by omega), fun hi => ?_⟩
    by_cases e : i = n
    · subst e
      rw [if_pos rfl, if_pos rfl, k6 _ (by omega), k6 _ (by omega), k6 _ (by omega), a1 (Int.le_refl _)]
      simp
      omega
    · rw [kf 6 i _ (by decide) (by decide) e, kf 6 i _ (by decide) (by decide) e, kf 6 i _ (by decide) (by decide) e, if_neg e, if_neg e]
      exact a2 (by omega)
theorem op_society {t : Int} {c m : St} (h : rl t c m) (l v : Int) : Step t (cdn 1 2 9) c m (FX11_society 0 l v c) (FX12_society 0 l v m) := by
  have i1 : ¬ (1 : Int) = 0 := by omega
  obtain ⟨⟨b1, b2, b3, b4⟩, -⟩ := h.1
  by_cases hl : 0 ≤ l ∧ l < 2
  · by_cases hv : 1 ≤ v ∧ v ≤ 200
    · by_cases h10 : gm m 12 0 1 = 10
      · refine Step.thr h (o := 2) (v := 0) (x := 0) (k := 2) (by decide) ?_ ?_ rfl
        · simp only [FX11_society, fX11_society_0, fX11_society_28, fX11_society_46, ecIsLeague, if_pos hl, bnd_ok, if_neg i1, ecWithin, if_pos hv, b1, h10]
          simp
        · simp only [FX12_society, fX12_society_0, fX12_society_23, fX12_society_37, emIsLeague, if_pos hl, bnd_ok, if_neg i1, emIn, if_pos hv, h10, emHolds, if_true]
          simp
      · obtain ⟨n, hn⟩ : ∃ n, gm m 12 0 1 = n := ⟨_, rfl⟩
        rw [hn] at b1 b2 b3 b4 h10
        have nb : 0 ≤ n ∧ n < 10 := by omega
        have w1 : wr (n + 1) = n + 1 := wq (by omega) (by omega)
        have w2 : wr (n + 1 - 1) = n := by rw [wq (by omega) (by omega)]; omega
        have EC : FX11_society 0 l v c = some (0, n, pm (pm (alc 6 [n, l, v] c) 13 0 n n) 11 0 3 (n + 1)) := by
          simp only [FX11_society, fX11_society_0, fX11_society_28, fX11_society_56, ecIsLeague, if_pos hl, bnd_ok, if_neg i1, ecWithin, if_pos hv, b1, b4, w1, if_pos nb]
          rw [if_neg (by omega), if_pos nb.2]
        have EM : FX12_society 0 l v m = some (0, n, pm (pm (pm (pm (pm (pm m 12 0 0 0) 102 0 n l) 103 0 n v) 143 0 n (-1)) 144 0 n (-1)) 12 0 1 (n + 1)) := by
          have y0 : gm (pm m 12 0 0 0) 12 0 1 = n := by simp [gm_pm, hn]
          simp only [FX12_society, fX12_society_0, fX12_society_23, fX12_society_36, fX12_society_37, emIsLeague, if_pos hl, bnd_ok, if_neg i1, emIn, if_pos hv, hn, if_neg h10, emHolds, if_true]
          generalize pm m 12 0 0 0 = mA at y0
          have y1 : gm (pm mA 102 0 n l) 12 0 1 = n := y0
          have y2 : gm (pm (pm mA 102 0 n l) 103 0 n v) 12 0 1 = n := y0
          have y3 : gm (pm (pm (pm mA 102 0 n l) 103 0 n v) 143 0 n (-1)) 12 0 1 = n := y0
          have y4 : gm (pm (pm (pm (pm mA 102 0 n l) 103 0 n v) 143 0 n (-1)) 144 0 n (-1)) 12 0 1 = n := y0
          have y5 : gm (pm (pm (pm (pm (pm mA 102 0 n l) 103 0 n v) 143 0 n (-1)) 144 0 n (-1)) 12 0 1 (n + 1)) 12 0 1 = n + 1 := by simp [gm_pm]
          simp only [fX12_society_45, y0, y1, y2, y3, y4, if_pos nb, w1, y5, w2]
        have ka : ∀ k z j, gm (pm (pm (alc 6 [n, l, v] c) 13 0 n n) 11 0 3 (n + 1)) k z j = if k = 11 ∧ z = 0 ∧ j = 3 then n + 1 else if k = 13 ∧ z = 0 ∧ j = n then n else gm (alc 6 [n, l, v] c) k z j := fun k z j => by simp only [gm_pm]
        have kb : ∀ k z j, gm (alc 6 [n, l, v] c) k z j = if z = n ∧ (k = 6 ∨ k = 7 ∨ k = 17 ∨ k = 16 ∨ k = 5 ∨ k = 18 ∨ k = 19 ∨ k = 20 ∨ k = 21) then (if k = 6 then sel [n, v, 0, 0, 0, l, 0, 0, 0, 0, 0, 0, -1, -1] 0 j else 0) else if z = n ∧ k = 15 then -1 else gm c k z j := fun k z j => by
          simp only [alc, gm_inc, gm_po, b4, List.getD_cons_zero, List.getD_cons_succ]
          by_cases ez : z = n
          · by_cases e1 : k = 15
            · simp [ez, e1]
            · by_cases e2 : k = 21
              · simp [ez, e2]
              · by_cases e3 : k = 20
                · simp [ez, e3]
                · by_cases e4 : k = 19
                  · simp [ez, e4]
                  · by_cases e5 : k = 18
                    · simp [ez, e5]
                    · by_cases e6 : k = 5
                      · simp [ez, e6]
                      · by_cases e7 : k = 16
                        · simp [ez, e7]
                        · by_cases e8 : k = 17
                          · simp [ez, e8]
                          · by_cases e9 : k = 7
                            · simp [ez, e9]
                            · by_cases e10 : k = 6
                              · simp [ez, e10]
                              · simp [ez, e1, e2, e3, e4, e5, e6, e7, e8, e9, e10]
          · simp [ez]
        have cn : ∀ k, (pm (pm (alc 6 [n, l, v] c) 13 0 n n) 11 0 3 (n + 1)).2 k = if k = 6 then n + 1 else c.2 k := fun k => by
          have : (pm (pm (alc 6 [n, l, v] c) 13 0 n n) 11 0 3 (n + 1)).2 k = if k = 6 then c.2 6 + 1 else c.2 k := rfl
          rw [this, b4]
        have hc : Kp soT c (pm (pm (alc 6 [n, l, v] c) 13 0 n n) 11 0 3 (n + 1)) := fun k z j hh => by
          have f6 : ∀ q, (q, none) ∈ soT → k ≠ q := fun q hq e => hh ⟨_, hq, e.symm, Or.inl rfl⟩
          have f11 : ¬ (k = 11 ∧ z = 0 ∧ j = 3) := fun e => hh ⟨(11, some 3), by decide, e.1.symm, Or.inr (by rw [e.2.2])⟩
          rw [ka, if_neg f11, if_neg (fun e => f6 13 (by decide) e.1), kb, if_neg (fun e => by
            rcases e.2 with e | e | e | e | e | e | e | e | e <;> exact f6 _ (by decide) e), if_neg (fun e => f6 15 (by decide) e.2)]
        have hm : Kp ((12, some 0) :: soU) m (pm (pm (pm (pm (pm (pm m 12 0 0 0) 102 0 n l) 103 0 n v) 143 0 n (-1)) 144 0 n (-1)) 12 0 1 (n + 1)) :=
          Kp.pm (Kp.pm (Kp.pm (Kp.pm (Kp.pm (Kp.pm (Kp.rf _ _) (Or.inr (by decide))) (Or.inl (by decide))) (Or.inl (by decide))) (Or.inl (by decide))) (Or.inl (by decide))) (Or.inr (by decide))
        have hm2 : Kp soU (pm m 12 0 0 0) (pm (pm (pm (pm (pm (pm m 12 0 0 0) 102 0 n l) 103 0 n v) 143 0 n (-1)) 144 0 n (-1)) 12 0 1 (n + 1)) :=
          Kp.pm (Kp.pm (Kp.pm (Kp.pm (Kp.pm (Kp.rf _ _) (Or.inl (by decide))) (Or.inl (by decide))) (Or.inl (by decide))) (Or.inl (by decide))) (Or.inr (by decide))
        refine Step.ok (v := n) EC EM hc hm (by decide) (by decide) (by simp [gm_pm]) rfl ?_
        refine (h.z 0).soci (n := n) (l := l) (v := v) (by simp [gm_pm, hn]) nb.1 nb.2 hl hv hc hm2 (fun j j0 => ?_) (fun j => ?_) (fun j => ?_) (fun j => ?_) (fun k z j e13 e11 ez => ?_) (fun j => ?_) ?_ cn ?_ (fun j => ?_) (fun j => ?_) (fun j => ?_) (fun j => ?_)
        · rw [ka, if_neg (by omega), if_neg (by omega), kb, if_pos ⟨rfl, by omega⟩, if_pos rfl]
          by_cases e0 : j = 0
          · rw [if_pos e0, e0]; rfl
          · rw [if_neg e0]
            by_cases e1 : j = 1
            · rw [if_pos e1, e1]; rfl
            · rw [if_neg e1]
              by_cases e5 : j = 5
              · rw [if_pos e5, e5]; rfl
              · rw [if_neg e5]
                by_cases e12 : j = 12 ∨ j = 13
                · rw [if_pos e12]
                  rcases e12 with e | e <;> rw [e] <;> rfl
                · rw [if_neg e12]
                  obtain ⟨k, rfl⟩ : ∃ k : Nat, j = k := ⟨j.toNat, by omega⟩
                  by_cases ek : k < 14
                  · have : k = 2 ∨ k = 3 ∨ k = 4 ∨ k = 6 ∨ k = 7 ∨ k = 8 ∨ k = 9 ∨ k = 10 ∨ k = 11 := by omega
                    rcases this with e | e | e | e | e | e | e | e | e <;> rw [e] <;> rfl
                  · have : ([n, v, 0, 0, 0, l, 0, 0, 0, 0, 0, 0, -1, -1] : List Int)[k]? = none := List.getElem?_eq_none (by simp; omega)
                    simp [sel, List.getD, this]
        · rw [ka, if_neg (by omega), if_neg (by omega), kb, if_pos ⟨rfl, by omega⟩, if_neg (by omega)]
        · rw [ka, if_neg (by omega), if_neg (by omega), kb, if_pos ⟨rfl, by omega⟩, if_neg (by omega)]
        · rw [ka, if_neg (by omega), if_neg (by omega), kb, if_pos ⟨rfl, by omega⟩, if_neg (by omega)]
        · rw [ka, if_neg (fun e => e11 e.1), if_neg (fun e => e13 e.1), kb, if_neg (fun e => ez e.1), if_neg (fun e => ez e.1)]
        · rw [ka, if_neg (by omega)]
          by_cases e : j = n
          · rw [if_pos ⟨rfl, rfl, e⟩, if_pos e]
          · rw [if_neg (fun y => e y.2.2), if_neg e, kb, if_neg (by omega), if_neg (by omega)]
        · rw [ka, if_pos ⟨rfl, rfl, rfl⟩]
        · simp [gm_pm]
        · simp [gm_pm]
        · simp [gm_pm]
        · simp [gm_pm]
        · simp [gm_pm]
    · refine Step.thr h (o := 1) (v := 0) (x := 0) (k := 1) (by decide) ?_ ?_ rfl
      · simp only [FX11_society, fX11_society_0, fX11_society_18, ecIsLeague, if_pos hl, bnd_ok, if_neg i1, ecWithin, if_neg hv, if_true]
      · simp only [FX12_society, fX12_society_0, fX12_society_19, fX12_society_37, emIsLeague, if_pos hl, bnd_ok, if_neg i1, emIn, if_neg hv, if_true, emHolds]
  · refine Step.thr h (o := 1) (v := 0) (x := 0) (k := 1) (by decide) ?_ ?_ rfl
    · simp only [FX11_society, fX11_society_0, fX11_society_18, ecIsLeague, if_neg hl, bnd_ok, if_true]
    · simp only [FX12_society, fX12_society_0, fX12_society_19, fX12_society_37, emIsLeague, if_neg hl, bnd_ok, if_neg i1, if_true, emHolds]
