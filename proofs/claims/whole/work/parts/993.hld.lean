/-! Stops and held corners have a minute less. -/
theorem ecStops_lp {l e : Int} : ∀ (d n : Nat) (k : Int) (c : St), gm c 1 l 2 = e → e ≤ 60 → (∀ j : Int, 0 ≤ j → j < e → 0 ≤ gm c 28 l j ∧ 0 ≤ gm c 2 (gm c 28 l j) 4 ∧ gm c 2 (gm c 28 l j) 4 ≤ 1000000) → (∀ j j' : Int, 0 ≤ j → j < e → 0 ≤ j' → j' < e → gm c 28 l j = gm c 28 l j' → j = j') → d < n → 0 ≤ k → k + d = e →
    ∃ c', fX1_passHolds_2 (kX1_passHolds n) l k c = fX1_passHolds_42 (kX1_passHolds (n - d)) l 0 c' ∧ Kp [(2, some 4)] c c' ∧ c'.2 = c.2 ∧ (∀ j : Int, k ≤ j → j < e → gm c' 2 (gm c 28 l j) 4 = max 0 (gm c 2 (gm c 28 l j) 4 - 1)) ∧ ∀ i : Int, (∀ j : Int, k ≤ j → j < e → i ≠ gm c 28 l j) → gm c' 2 i 4 = gm c 2 i 4
  | 0, n, k, c, h1, h2, h3, h4, hn, k0, k1 => by
    refine ⟨c, ?_, Kp.rf _ _, rfl, fun j j0 j1 => by omega, fun _ _ => rfl⟩
    simp only [fX1_passHolds_2, fX1_passHolds_40, h1]
    rw [if_neg (by omega)]
    rfl
  | d + 1, n, k, c, h1, h2, h3, h4, hn, k0, k1 => by
    obtain ⟨n, rfl⟩ : ∃ n', n = n' + 1 := ⟨n - 1, by omega⟩
    obtain ⟨p0, p1, p2⟩ := h3 k k0 (by omega)
    have hc : Kp [(2, some 4)] c (pm c 2 (gm c 28 l k) 4 (max 0 (gm c 2 (gm c 28 l k) 4 - 1))) := Kp.pm (Kp.rf _ _) (Or.inr (by decide))
    have x4 : ∀ i, gm (pm c 2 (gm c 28 l k) 4 (max 0 (gm c 2 (gm c 28 l k) 4 - 1))) 2 i 4 = if i = gm c 28 l k then max 0 (gm c 2 (gm c 28 l k) 4 - 1) else gm c 2 i 4 := fun i => by simp [gm_pm]
    have n1 : (pm c 2 (gm c 28 l k) 4 (max 0 (gm c 2 (gm c 28 l k) 4 - 1))).2 = c.2 := rfl
    have ep := ecPartAt (a0 := l) (a1 := k) (s := c) (by omega) (by omega)
    rw [h1, if_pos ⟨k0, by omega⟩] at ep
    have w1 : wr (k + 1) = k + 1 := wq (by omega) (by omega)
    have w2 : wr (gm c 2 (gm c 28 l k) 4 - 1) = gm c 2 (gm c 28 l k) 4 - 1 := wq (by omega) (by omega)
    have st : fX1_passHolds_2 (kX1_passHolds (n + 1)) l k c = fX1_passHolds_2 (kX1_passHolds n) l (k + 1) (pm c 2 (gm c 28 l k) 4 (max 0 (gm c 2 (gm c 28 l k) 4 - 1))) := by
      generalize hR : fX1_passHolds_2 (kX1_passHolds n) l (k + 1) _ = R
      simp only [fX1_passHolds_2, fX1_passHolds_34, h1, ep, bnd_ok, ecMax, w1, w2]
      rw [if_pos (by omega), if_neg (show ¬ gm c 28 l k = -1 by omega), if_pos p0, if_pos p0, uX1_passHolds_2, hR]
    generalize pm c 2 (gm c 28 l k) 4 (max 0 (gm c 2 (gm c 28 l k) 4 - 1)) = c1 at hc x4 n1 st
    have e28 : ∀ j, gm c1 28 l j = gm c 28 l j := fun j => hc.k (by decide) _ _
    obtain ⟨c2, g1, g2, g3, g4, g5⟩ := ecStops_lp d n (k + 1) c1 (by rw [hc.k (by decide)]; exact h1) h2 (fun j j0 j1 => by
      rw [e28, x4]
      have := h3 j j0 j1
      split <;> omega) (fun j j' j0 j1 j2 j3 e => h4 j j' j0 j1 j2 j3 (by rw [e28, e28] at e; exact e)) (by omega) (by omega) (by omega)
    refine ⟨c2, ?_, hc.tr g2, g3.trans n1, fun j j0 j1 => ?_, fun i hi => ?_⟩
    · rw [st, show n + 1 - (d + 1) = n - d by omega]
      exact g1
    · by_cases e : j = k
      · subst e
        rw [g5 _ (fun j' q0 q1 q2 => by
          rw [e28] at q2
          have := h4 _ _ k0 j1 (by omega) q1 q2
          omega), x4, if_pos rfl]
      · have := g4 j (by omega) j1
        rw [e28, x4, if_neg (fun z => e (h4 _ _ (by omega) j1 k0 (by omega) z))] at this
        exact this
    · rw [g5 i (fun j j0 j1 => by rw [e28]; exact hi j (by omega) j1), x4, if_neg (hi k (Int.le_refl _) (by omega))]
theorem ecHolds_lp {l : Int} : ∀ (d n : Nat) (i : Int) (c : St), (∀ j : Int, 0 ≤ j → j < 12 → 0 ≤ gm c 29 l j ∧ gm c 29 l j ≤ 1000000) → d < n → 0 ≤ i → i + d = 12 →
    ∃ c', fX1_passHolds_42 (kX1_passHolds n) l i c = some (0, 0, c') ∧ Kp [(29, none)] c c' ∧ c'.2 = c.2 ∧ ∀ z j : Int, gm c' 29 z j = if z = l ∧ i ≤ j ∧ j < 12 then max 0 (gm c 29 z j - 1) else gm c 29 z j
  | 0, n, i, c, h1, hn, k0, k1 => by
    refine ⟨c, ?_, Kp.rf _ _, rfl, fun z j => by rw [if_neg (by omega)]⟩
    simp only [fX1_passHolds_42, fX1_passHolds_75]
    rw [if_neg (by omega)]
  | d + 1, n, i, c, h1, hn, k0, k1 => by
    obtain ⟨n, rfl⟩ : ∃ n', n = n' + 1 := ⟨n - 1, by omega⟩
    obtain ⟨p1, p2⟩ := h1 i k0 (by omega)
    have hi : 0 ≤ i ∧ i < 12 := by omega
    have hc : Kp [(29, none)] c (pm c 29 l i (max 0 (gm c 29 l i - 1))) := Kp.pm (Kp.rf _ _) (Or.inl (by decide))
    have x4 : ∀ z j, gm (pm c 29 l i (max 0 (gm c 29 l i - 1))) 29 z j = if z = l ∧ j = i then max 0 (gm c 29 l i - 1) else gm c 29 z j := fun z j => by simp [gm_pm]
    have n1 : (pm c 29 l i (max 0 (gm c 29 l i - 1))).2 = c.2 := rfl
    have w1 : wr (i + 1) = i + 1 := wq (by omega) (by omega)
    have w2 : wr (gm c 29 l i - 1) = gm c 29 l i - 1 := wq (by omega) (by omega)
    have st : fX1_passHolds_42 (kX1_passHolds (n + 1)) l i c = fX1_passHolds_42 (kX1_passHolds n) l (i + 1) (pm c 29 l i (max 0 (gm c 29 l i - 1))) := by
      generalize hR : fX1_passHolds_42 (kX1_passHolds n) l (i + 1) _ = R
      simp only [fX1_passHolds_42, bnd_ok, ecMax, w1, w2, if_pos hi]
      rw [if_pos hi.2, uX1_passHolds_42, hR]
    generalize pm c 29 l i (max 0 (gm c 29 l i - 1)) = c1 at hc x4 n1 st
    obtain ⟨c2, g1, g2, g3, g4⟩ := ecHolds_lp d n (i + 1) c1 (fun j j0 j1 => by
      rw [x4]
      have := h1 j j0 j1
      split <;> omega) (by omega) (by omega) (by omega)
    refine ⟨c2, st.trans g1, hc.tr g2, g3.trans n1, fun z j => ?_⟩
    rw [g4, x4]
    by_cases e : z = l ∧ j = i
    · rw [if_neg (by omega), if_pos e, if_pos (by omega), e.1, e.2]
    · rw [if_neg e]
      by_cases e2 : z = l ∧ i ≤ j ∧ j < 12
      · rw [if_pos e2, if_pos (by omega)]
      · rw [if_neg e2, if_neg (by omega)]
theorem emStops_lp {l e : Int} (hl : 0 ≤ l ∧ l < 2) : ∀ (d n : Nat) (k : Int) (m : St), gm m 134 0 l = e → e ≤ 60 → (∀ j : Int, 0 ≤ j → j < e → 0 ≤ gm m 139 0 (60 * l + j) ∧ gm m 139 0 (60 * l + j) ≤ 1000000) → d < n → 0 ≤ k → k + d = e →
    ∃ m', fX12_goes_53 (kX12_goes n) 0 l (60 * l + k) m = fX12_goes_102 (kX12_goes (n - d)) 0 l (12 * l) m' ∧ Kp [(139, none)] m m' ∧ m'.2 = m.2 ∧ ∀ j : Int, gm m' 139 0 j = if 60 * l + k ≤ j ∧ j < 60 * l + e then max 0 (gm m 139 0 j - 1) else gm m 139 0 j
  | 0, n, k, m, h1, h2, h3, hn, k0, k1 => by
    have w1 : wr (wr (60 * l) + gm m 134 0 l) = 60 * l + gm m 134 0 l := by rw [wq (z := 60 * l) (by omega) (by omega), wq (by omega) (by omega)]
    have w2 : wr (12 * l) = 12 * l := wq (by omega) (by omega)
    refine ⟨m, ?_, Kp.rf _ _, rfl, fun j => by rw [if_neg (by omega)]⟩
    simp only [fX12_goes_53, fX12_goes_97, w1, w2]
    rw [if_pos hl, if_neg (by omega)]
    rfl
  | d + 1, n, k, m, h1, h2, h3, hn, k0, k1 => by
    obtain ⟨n, rfl⟩ : ∃ n', n = n' + 1 := ⟨n - 1, by omega⟩
    obtain ⟨p1, p2⟩ := h3 k k0 (by omega)
    have w1 : wr (wr (60 * l) + gm m 134 0 l) = 60 * l + gm m 134 0 l := by rw [wq (z := 60 * l) (by omega) (by omega), wq (by omega) (by omega)]
    have hq : 0 ≤ 60 * l + k ∧ 60 * l + k < 120 := by omega
    have hc : Kp [(139, none)] m (pm m 139 0 (60 * l + k) (max 0 (gm m 139 0 (60 * l + k) - 1))) := Kp.pm (Kp.rf _ _) (Or.inl (by decide))
    have x4 : ∀ j, gm (pm m 139 0 (60 * l + k) (max 0 (gm m 139 0 (60 * l + k) - 1))) 139 0 j = if j = 60 * l + k then max 0 (gm m 139 0 (60 * l + k) - 1) else gm m 139 0 j := fun j => by simp [gm_pm]
    have n1 : (pm m 139 0 (60 * l + k) (max 0 (gm m 139 0 (60 * l + k) - 1))).2 = m.2 := rfl
    have w3 : wr (60 * l + k + 1) = 60 * l + (k + 1) := by rw [wq (by omega) (by omega)]; omega
    have st : fX12_goes_53 (kX12_goes (n + 1)) 0 l (60 * l + k) m = fX12_goes_53 (kX12_goes n) 0 l (60 * l + (k + 1)) (pm m 139 0 (60 * l + k) (max 0 (gm m 139 0 (60 * l + k) - 1))) := by
      generalize hR : fX12_goes_53 (kX12_goes n) 0 l (60 * l + (k + 1)) _ = R
      simp only [fX12_goes_53, fX12_goes_88, fX12_goes_89, w1, if_pos hl, if_pos hq, w3]
      rw [if_pos (by omega), uX12_goes_53, uX12_goes_53]
      by_cases z : 0 < gm m 139 0 (60 * l + k)
      · have w4 : wr (gm m 139 0 (60 * l + k) - 1) = max 0 (gm m 139 0 (60 * l + k) - 1) := by rw [wq (by omega) (by omega)]; omega
        rw [if_pos z, w4, hR]
      · have w4 : wr (gm m 139 0 (60 * l + k) - 0) = max 0 (gm m 139 0 (60 * l + k) - 1) := by rw [wq (by omega) (by omega)]; omega
        rw [if_neg z, w4, hR]
    generalize pm m 139 0 (60 * l + k) (max 0 (gm m 139 0 (60 * l + k) - 1)) = m1 at hc x4 n1 st
    obtain ⟨m2, g1, g2, g3, g4⟩ := emStops_lp hl d n (k + 1) m1 (by rw [hc.k (by decide)]; exact h1) h2 (fun j j0 j1 => by
      rw [x4]
      have := h3 j j0 j1
      split <;> omega) (by omega) (by omega) (by omega)
    refine ⟨m2, ?_, hc.tr g2, g3.trans n1, fun j => ?_⟩
    · rw [st, show n + 1 - (d + 1) = n - d by omega]
      exact g1
    · rw [g4, x4]
      by_cases e1 : j = 60 * l + k
      · rw [if_neg (by omega), if_pos e1, if_pos (by omega), e1]
      · rw [if_neg e1]
        by_cases e2 : 60 * l + k ≤ j ∧ j < 60 * l + e
        · rw [if_pos e2, if_pos (by omega)]
        · rw [if_neg e2, if_neg (by omega)]
theorem emHolds_lp {l : Int} (hl : 0 ≤ l ∧ l < 2) : ∀ (d n : Nat) (i : Int) (m : St), (∀ j : Int, 0 ≤ j → j < 12 → 0 ≤ gm m 141 0 (12 * l + j) ∧ gm m 141 0 (12 * l + j) ≤ 1000000) → d < n → 0 ≤ i → i + d = 12 →
    ∃ m', fX12_goes_102 (kX12_goes n) 0 l (12 * l + i) m = fX12_goes_142 (kX12_goes (n - d)) 0 l m' ∧ Kp [(141, none)] m m' ∧ m'.2 = m.2 ∧ ∀ j : Int, gm m' 141 0 j = if 12 * l + i ≤ j ∧ j < 12 * l + 12 then max 0 (gm m 141 0 j - 1) else gm m 141 0 j
  | 0, n, i, m, h1, hn, k0, k1 => by
    have w1 : wr (wr (12 * l) + 12) = 12 * l + 12 := by rw [wq (z := 12 * l) (by omega) (by omega), wq (by omega) (by omega)]
    refine ⟨m, ?_, Kp.rf _ _, rfl, fun j => by rw [if_neg (by omega)]⟩
    simp only [fX12_goes_102, w1]
    rw [if_neg (by omega)]
    rfl
  | d + 1, n, i, m, h1, hn, k0, k1 => by
    obtain ⟨n, rfl⟩ : ∃ n', n = n' + 1 := ⟨n - 1, by omega⟩
    obtain ⟨p1, p2⟩ := h1 i k0 (by omega)
    have w1 : wr (wr (12 * l) + 12) = 12 * l + 12 := by rw [wq (z := 12 * l) (by omega) (by omega), wq (by omega) (by omega)]
    have hq : 0 ≤ 12 * l + i ∧ 12 * l + i < 24 := by omega
    have hc : Kp [(141, none)] m (pm m 141 0 (12 * l + i) (max 0 (gm m 141 0 (12 * l + i) - 1))) := Kp.pm (Kp.rf _ _) (Or.inl (by decide))
    have x4 : ∀ j, gm (pm m 141 0 (12 * l + i) (max 0 (gm m 141 0 (12 * l + i) - 1))) 141 0 j = if j = 12 * l + i then max 0 (gm m 141 0 (12 * l + i) - 1) else gm m 141 0 j := fun j => by simp [gm_pm]
    have n1 : (pm m 141 0 (12 * l + i) (max 0 (gm m 141 0 (12 * l + i) - 1))).2 = m.2 := rfl
    have w3 : wr (12 * l + i + 1) = 12 * l + (i + 1) := by rw [wq (by omega) (by omega)]; omega
    have st : fX12_goes_102 (kX12_goes (n + 1)) 0 l (12 * l + i) m = fX12_goes_102 (kX12_goes n) 0 l (12 * l + (i + 1)) (pm m 141 0 (12 * l + i) (max 0 (gm m 141 0 (12 * l + i) - 1))) := by
      generalize hR : fX12_goes_102 (kX12_goes n) 0 l (12 * l + (i + 1)) _ = R
      simp only [fX12_goes_102, fX12_goes_133, fX12_goes_134, w1, if_pos hq, w3]
      rw [if_pos (by omega), uX12_goes_102, uX12_goes_102]
      by_cases z : 0 < gm m 141 0 (12 * l + i)
      · have w4 : wr (gm m 141 0 (12 * l + i) - 1) = max 0 (gm m 141 0 (12 * l + i) - 1) := by rw [wq (by omega) (by omega)]; omega
        rw [if_pos z, w4, hR]
      · have w4 : wr (gm m 141 0 (12 * l + i) - 0) = max 0 (gm m 141 0 (12 * l + i) - 1) := by rw [wq (by omega) (by omega)]; omega
        rw [if_neg z, w4, hR]
    generalize pm m 141 0 (12 * l + i) (max 0 (gm m 141 0 (12 * l + i) - 1)) = m1 at hc x4 n1 st
    obtain ⟨m2, g1, g2, g3, g4⟩ := emHolds_lp hl d n (i + 1) m1 (fun j j0 j1 => by
      rw [x4]
      have := h1 j j0 j1
      split <;> omega) (by omega) (by omega) (by omega)
    refine ⟨m2, ?_, hc.tr g2, g3.trans n1, fun j => ?_⟩
    · rw [st, show n + 1 - (d + 1) = n - d by omega]
      exact g1
    · rw [g4, x4]
      by_cases e1 : j = 12 * l + i
      · rw [if_neg (by omega), if_pos e1, if_pos (by omega), e1]
      · rw [if_neg e1]
        by_cases e2 : 12 * l + i ≤ j ∧ j < 12 * l + 12
        · rw [if_pos e2, if_pos (by omega)]
        · rw [if_neg e2, if_neg (by omega)]
