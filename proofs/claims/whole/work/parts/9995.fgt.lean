/-! What is gone when a year ends. -/
def fgT : List (Nat × Option Int) := [(7, some 2), (7, some 3), (18, none), (5, some 4), (6, some 8), (6, some 9), (6, some 10), (6, some 11), (6, some 12), (6, some 13), (6, some 14), (6, some 15)]
def fgU : List (Nat × Option Int) := [(106, none), (108, none), (109, none), (110, none), (112, none), (124, none), (125, none), (147, none), (143, none), (144, none), (145, none), (146, none)]
def fgC (c : St) (p : Int) : Prop := (gm c 7 p 2 = 0 ∧ gm c 7 p 3 = 0) ∧ (∀ j : Int, 0 ≤ j → j < 20 → gm c 18 p j = 0) ∧ gm c 5 p 4 = 0 ∧ gm c 6 p 8 = 0 ∧ gm c 6 p 10 = 0 ∧ gm c 6 p 11 = 0 ∧ gm c 6 p 12 = -1 ∧ gm c 6 p 13 = -1 ∧ gm c 6 p 14 = 0 ∧ gm c 6 p 15 = 0
def fgM (m : St) (p : Int) : Prop := gm m 106 0 p = 0 ∧ gm m 108 0 p = 0 ∧ gm m 109 0 p = 0 ∧ gm m 110 0 p = 0 ∧ gm m 112 0 p = 0 ∧ gm m 124 0 p = 0 ∧ gm m 125 0 p = 0 ∧ gm m 147 0 p = 0 ∧ gm m 143 0 p = -1 ∧ gm m 144 0 p = -1 ∧ gm m 145 0 p = 0 ∧ ∀ j : Int, 0 ≤ j → j < 20 → gm m 146 0 (20 * p + j) = 0
theorem ecClr5_lp {p : Int} : ∀ (d n : Nat) (j : Int) (c : St), d < n → 0 ≤ j → j + d = 20 → ∃ c', fX5_clear_2 (kX5_clear n) p j c = some (0, 0, pm c' 5 p 4 0) ∧ Kp [(18, none)] c c' ∧ c'.2 = c.2 ∧ ∀ z i : Int, gm c' 18 z i = if z = p ∧ j ≤ i ∧ i < 20 then 0 else gm c 18 z i
  | 0, n, j, c, hn, j0, j1 => by
    refine ⟨c, ?_, Kp.rf _ _, rfl, fun z i => by rw [if_neg (by omega)]⟩
    simp only [fX5_clear_2, fX5_clear_24]
    rw [if_neg (by omega)]
  | d + 1, n, j, c, hn, j0, j1 => by
    obtain ⟨n, rfl⟩ : ∃ n', n = n' + 1 := ⟨n - 1, by omega⟩
    have w1 : wr (j + 1) = j + 1 := wq (by omega) (by omega)
    obtain ⟨c', g1, g2, g3, g4⟩ := ecClr5_lp (p := p) d n (j + 1) (pm c 18 p j 0) (by omega) (by omega) (by omega)
    refine ⟨c', ?_, (Kp.pm (Kp.rf _ _) (Or.inl (by decide))).tr g2, g3, fun z i => ?_⟩
    · rw [← g1]
      generalize hR : fX5_clear_2 (kX5_clear n) p (j + 1) (pm c 18 p j 0) = R
      simp only [fX5_clear_2, w1]
      rw [if_pos (by omega), if_pos (by omega), uX5_clear_2, hR]
    · rw [g4, gm_pm]
      by_cases e : z = p ∧ i = j
      · rw [if_neg (by omega), if_pos ⟨rfl, e⟩, if_pos (by omega)]
      · rw [if_neg (show ¬ (18 = 18 ∧ z = p ∧ i = j) from fun y => e y.2)]
        by_cases e2 : z = p ∧ j ≤ i ∧ i < 20
        · rw [if_pos e2, if_pos (by omega)]
        · rw [if_neg e2, if_neg (by omega)]
theorem ecForget (p : Int) (c : St) : ∃ c', FX6_forgetYear p c = some (0, 0, c') ∧ Kp fgT c c' ∧ c'.2 = c.2 ∧ fgC c' p ∧ ∀ k z j, z ≠ p → gm c' k z j = gm c k z j := by
  obtain ⟨c1, g1, g2, g3, g4⟩ := ecClr5_lp (p := p) 20 9999 0 (pm (pm c 7 p 2 0) 7 p 3 0) (by omega) (by omega) (by omega)
  have e1 : FX7_clear p c = some (0, 0, pm (pm c 7 p 2 0) 7 p 3 0) := by
    simp only [FX7_clear, fX7_clear_0, z01, or_true, true_or, if_true]
  have e2 : FX5_clear p (pm (pm c 7 p 2 0) 7 p 3 0) = some (0, 0, pm c1 5 p 4 0) := by
    simp only [FX5_clear, fX5_clear_0]
    exact g1
  have x7 : ∀ f, gm c1 7 p f = if f = 3 then 0 else if f = 2 then 0 else gm c 7 p f := fun f => by rw [g2.k (by decide)]; simp [gm_pm]
  refine ⟨pm (pm (pm (pm (pm (pm (pm (pm (pm c1 5 p 4 0) 6 p 8 0) 6 p 9 0) 6 p 10 0) 6 p 11 0) 6 p 12 (-1)) 6 p 13 (-1)) 6 p 14 0) 6 p 15 0, ?_, ?_, g3, ⟨⟨?_, ?_⟩, fun j j0 j1 => ?_, ?_, ?_, ?_, ?_, ?_, ?_, ?_, ?_⟩, fun k z j hz => ?_⟩
  · simp only [FX6_forgetYear, fX6_forgetYear_0, e1, e2, bnd_ok, z01, or_true, true_or, if_true]
  · exact ((Kp.pm (Kp.pm (Kp.rf _ _) (Or.inr (by decide))) (Or.inr (by decide))).tr (g2.wk (by decide))).pm (Or.inr (by decide)) |>.pm (Or.inr (by decide)) |>.pm (Or.inr (by decide)) |>.pm (Or.inr (by decide)) |>.pm (Or.inr (by decide)) |>.pm (Or.inr (by decide)) |>.pm (Or.inr (by decide)) |>.pm (Or.inr (by decide)) |>.pm (Or.inr (by decide))
  · simp only [gm_pm]; simp [x7]
  · simp only [gm_pm]; simp [x7]
  · simp only [gm_pm]; simp
    rw [g4, if_pos ⟨rfl, j0, j1⟩]
  · simp [gm_pm]
  · simp [gm_pm]
  · simp [gm_pm]
  · simp [gm_pm]
  · simp [gm_pm]
  · simp [gm_pm]
  · simp [gm_pm]
  · simp [gm_pm]
  · have n3 : gm c1 k z j = gm c k z j := by
      by_cases ek : k = 18
      · rw [ek, g4, if_neg (fun y => hz y.1)]
        simp [gm_pm]
      · rw [g2.k (by simp [frk]; omega)]
        simp [gm_pm, hz]
    simp [gm_pm, hz, n3]
theorem ecFgt_lp {N : Int} : ∀ (d n : Nat) (i : Int) (c : St), (∀ j : Int, 0 ≤ j → j < 10 → gm c 13 0 j = if j < N then j else -1) → d < n → 0 ≤ i → i + d = 10 →
    ∃ c', fX11_forgetYear_2 (kX11_forgetYear n) 0 i c = fX11_forgetYear_35 (kX11_forgetYear (n - d)) 0 c' ∧ Kp fgT c c' ∧ c'.2 = c.2 ∧ (∀ s : Int, i ≤ s → s < N → s < 10 → fgC c' s) ∧ ∀ k z j, ¬ (i ≤ z ∧ z < N) → gm c' k z j = gm c k z j
  | 0, n, i, c, h13, hn, i0, i1 => by
    refine ⟨c, ?_, Kp.rf _ _, rfl, fun s s0 s1 s2 => by omega, fun _ _ _ _ => rfl⟩
    simp only [fX11_forgetYear_2]
    rw [if_neg (by omega)]
    rfl
  | d + 1, n, i, c, h13, hn, i0, i1 => by
    obtain ⟨n, rfl⟩ : ∃ n', n = n' + 1 := ⟨n - 1, by omega⟩
    have hi : 0 ≤ i ∧ i < 10 := by omega
    have w1 : wr (i + 1) = i + 1 := wq (by omega) (by omega)
    have e13 := h13 i hi.1 hi.2
    rw [show n + 1 - (d + 1) = n - d by omega]
    by_cases z : i < N
    · rw [if_pos z] at e13
      obtain ⟨c1, a1, a2, a3, a4, a5⟩ := ecForget i c
      obtain ⟨c', g1, g2, g3, g4, g5⟩ := ecFgt_lp (N := N) d n (i + 1) c1 (fun j j0 j1 => by rw [a2.k (by decide)]; exact h13 j j0 j1) (by omega) (by omega) (by omega)
      refine ⟨c', ?_, a2.tr g2, g3.trans a3, fun s s0 s1 s2 => ?_, fun k y j hy => ?_⟩
      · rw [← g1]
        generalize hR : fX11_forgetYear_2 (kX11_forgetYear n) 0 (i + 1) c1 = R
        simp only [fX11_forgetYear_2, fX11_forgetYear_29, if_pos hi, e13, a1, bnd_ok, w1, if_pos hi.1]
        rw [if_pos hi.2, if_neg (by omega), uX11_forgetYear_2, hR]
      · by_cases e : s = i
        · rw [e]
          have q : ∀ k j, gm c' k i j = gm c1 k i j := fun k j => g5 k i j (by omega)
          unfold fgC at a4 ⊢
          simp only [q]
          exact a4
        · exact g4 s (by omega) s1 s2
      · rw [g5 k y j (by omega), a5 k y j (by omega)]
    · rw [if_neg z] at e13
      obtain ⟨c', g1, g2, g3, g4, g5⟩ := ecFgt_lp (N := N) d n (i + 1) c h13 (by omega) (by omega) (by omega)
      refine ⟨c', ?_, g2, g3, fun s s0 s1 s2 => by omega, fun k y j hy => g5 k y j (by omega)⟩
      rw [← g1]
      generalize hR : fX11_forgetYear_2 (kX11_forgetYear n) 0 (i + 1) c = R
      simp only [fX11_forgetYear_2, fX11_forgetYear_29, if_pos hi, e13, w1, if_true]
      rw [if_pos hi.2, uX11_forgetYear_2, hR]
def lgT : List (Nat × Option Int) := [(4, some 1), (1, some 2), (1, some 3), (1, some 6), (1, some 7), (29, none)]
def lgC (c : St) (z : Int) : Prop := gm c 4 (2 * z) 1 = 0 ∧ gm c 1 z 2 = 0 ∧ gm c 1 z 6 = 0 ∧ gm c 1 z 7 = 0 ∧ ∀ j : Int, 0 ≤ j → j < 12 → gm c 29 z j = 0
theorem ecLg_one {z : Int} (hz : 0 ≤ z ∧ z < 2) (c : St) (h14 : gm c 14 0 z = z) : ∃ c', (∀ n, fX11_forgetYear_37 (kX11_forgetYear (n + 1)) 0 z c = fX11_forgetYear_37 (kX11_forgetYear n) 0 (z + 1) c') ∧ Kp lgT c c' ∧ c'.2 = c.2 ∧ lgC c' z ∧ ∀ y, y ≠ z → lgC c y → lgC c' y := by
  obtain ⟨c2, d1, d2, d3, d4⟩ := ecClr_lp (l := z) 12 9999 0 (pm (pm (pm (pm (pm c 4 (2 * z) 1 0) 1 z 2 0) 1 z 3 0) 1 z 6 0) 1 z 7 0) (by omega) (by omega) (by omega)
  have w1 : wr (z + 1) = z + 1 := wq (by omega) (by omega)
  have e1 : FX4_clear (2 * z) c = some (0, 0, pm c 4 (2 * z) 1 0) := by simp only [FX4_clear, fX4_clear_0]
  have e2 : FX1_clear z (pm c 4 (2 * z) 1 0) = some (0, 0, c2) := by
    simp only [FX1_clear, fX1_clear_0, z01, or_true, true_or, if_true]
    exact d1
  have x14 : gm (pm c 4 (2 * z) 1 0) 14 0 z = z := h14
  have x4 : ∀ y, gm c2 4 y 1 = if y = 2 * z then 0 else gm c 4 y 1 := fun y => by rw [d2.k (by decide)]; simp [gm_pm]
  have x1 : ∀ y f, gm c2 1 y f = if y = z ∧ (f = 2 ∨ f = 3 ∨ f = 6 ∨ f = 7) then 0 else gm c 1 y f := fun y f => by
    rw [d2.k (by decide)]
    by_cases ey : y = z
    · by_cases e7 : f = 7
      · simp [gm_pm, ey, e7]
      · by_cases e6 : f = 6
        · simp [gm_pm, ey, e6]
        · by_cases e3 : f = 3
          · simp [gm_pm, ey, e3]
          · by_cases e2 : f = 2
            · simp [gm_pm, ey, e2]
            · simp [gm_pm, ey, e2, e3, e6, e7]
    · simp [gm_pm, ey]
  have x29 : ∀ y j, gm c2 29 y j = if y = z ∧ 0 ≤ j ∧ j < 12 then 0 else gm c 29 y j := fun y j => by
    rw [d4]
    simp [gm_pm]
  refine ⟨c2, fun n => ?_, ?_, d3, ⟨?_, ?_, ?_, ?_, fun j j0 j1 => ?_⟩, fun y hy ⟨q1, q2, q3, q4, q5⟩ => ⟨?_, ?_, ?_, ?_, fun j j0 j1 => ?_⟩⟩
  · generalize hR : fX11_forgetYear_37 (kX11_forgetYear n) 0 (z + 1) c2 = R
    simp only [fX11_forgetYear_37, fX11_forgetYear_79, if_pos hz, h14, e1, bnd_ok, if_pos hz.1, x14, e2, w1]
    rw [if_pos hz.2, if_neg (by omega), uX11_forgetYear_37, hR]
  · exact (Kp.pm (Kp.pm (Kp.pm (Kp.pm (Kp.pm (Kp.rf _ _) (Or.inr (by decide))) (Or.inr (by decide))) (Or.inr (by decide))) (Or.inr (by decide))) (Or.inr (by decide))).tr (d2.wk (by decide))
  · rw [x4, if_pos rfl]
  · rw [x1, if_pos ⟨rfl, by omega⟩]
  · rw [x1, if_pos ⟨rfl, by omega⟩]
  · rw [x1, if_pos ⟨rfl, by omega⟩]
  · rw [x29, if_pos ⟨rfl, j0, j1⟩]
  · rw [x4, if_neg (by omega)]; exact q1
  · rw [x1, if_neg (fun w => hy w.1)]; exact q2
  · rw [x1, if_neg (fun w => hy w.1)]; exact q3
  · rw [x1, if_neg (fun w => hy w.1)]; exact q4
  · rw [x29, if_neg (fun w => hy w.1)]; exact q5 j j0 j1
theorem ecFgtYear {N : Int} (c : St) (h13 : ∀ j : Int, 0 ≤ j → j < 10 → gm c 13 0 j = if j < N then j else -1) (hN : N ≤ 10) (h14 : gm c 14 0 0 = 0 ∧ gm c 14 0 1 = 1) : ∃ c', FX11_forgetYear 0 c = some (0, 0, c') ∧ Kp (fgT ++ lgT) c c' ∧ c'.2 = c.2 ∧ (∀ s : Int, 0 ≤ s → s < N → fgC c' s) ∧ ∀ z : Int, 0 ≤ z → z < 2 → lgC c' z := by
  obtain ⟨c1, a1, a2, a3, a4, a5⟩ := ecFgt_lp (N := N) 10 9999 0 c h13 (by omega) (by omega) (by omega)
  obtain ⟨c2, b1, b2, b3, b4, b5⟩ := ecLg_one (z := 0) (by omega) c1 (by rw [a2.k (by decide)]; exact h14.1)
  obtain ⟨c3, d1, d2, d3, d4, d5⟩ := ecLg_one (z := 1) (by omega) c2 (by rw [b2.k (by decide), a2.k (by decide)]; exact h14.2)
  have K : Kp (fgT ++ lgT) c c3 := (a2.wk (by decide)).tr ((b2.wk (by decide)).tr (d2.wk (by decide)))
  refine ⟨c3, ?_, K, d3.trans (b3.trans a3), fun s s0 s1 => ?_, fun z z0 z1 => ?_⟩
  · simp only [FX11_forgetYear, fX11_forgetYear_0]
    rw [a1]
    have e1 : ∀ kb, fX11_forgetYear_35 kb 0 c1 = fX11_forgetYear_37 kb 0 0 c1 := fun kb => by simp only [fX11_forgetYear_35]
    rw [e1, show (9999 - 10 : Nat) = 9988 + 1 from rfl, b1, show (0 : Int) + 1 = 1 by omega, show (9988 : Nat) = 9987 + 1 from rfl, d1]
    simp only [fX11_forgetYear_37, fX11_forgetYear_85]
    rw [if_neg (by omega)]
  · have q := a4 s s0 s1 (by omega)
    unfold fgC at q ⊢
    simp only [d2.k (show frk _ 7 = true by decide), d2.k (show frk _ 18 = true by decide), d2.k (show frk _ 5 = true by decide), d2.k (show frk _ 6 = true by decide), b2.k (show frk _ 7 = true by decide), b2.k (show frk _ 18 = true by decide), b2.k (show frk _ 5 = true by decide), b2.k (show frk _ 6 = true by decide)]
    exact q
  · rcases (show z = 0 ∨ z = 1 by omega) with rfl | rfl
    · exact d5 0 (by omega) b4
    · exact d4
/-! The reference forgets. -/
theorem emClr_l {p : Int} (hp : 0 ≤ p ∧ p < 10) : ∀ (d n : Nat) (j : Int) (m : St), d < n → 0 ≤ j → j + d = 20 → ∃ m', fX12_forgets_82 (kX12_forgets n) 0 p (20 * p + j) m = some (0, 0, m') ∧ Kp [(146, none)] m m' ∧ m'.2 = m.2 ∧ ∀ i : Int, gm m' 146 0 i = if 20 * p + j ≤ i ∧ i < 20 * p + 20 then 0 else gm m 146 0 i
  | 0, n, j, m, hn, j0, j1 => by
    have w : wr (wr (20 * p) + 20) = 20 * p + 20 := by rw [wq (z := 20 * p) (by omega) (by omega), wq (by omega) (by omega)]
    refine ⟨m, ?_, Kp.rf _ _, rfl, fun i => by rw [if_neg (by omega)]⟩
    simp only [fX12_forgets_82, fX12_forgets_106, w]
    rw [if_neg (by omega)]
  | d + 1, n, j, m, hn, j0, j1 => by
    obtain ⟨n, rfl⟩ : ∃ n', n = n' + 1 := ⟨n - 1, by omega⟩
    have w : wr (wr (20 * p) + 20) = 20 * p + 20 := by rw [wq (z := 20 * p) (by omega) (by omega), wq (by omega) (by omega)]
    have w1 : wr (20 * p + j + 1) = 20 * p + (j + 1) := by rw [wq (by omega) (by omega)]; omega
    obtain ⟨m', g1, g2, g3, g4⟩ := emClr_l hp d n (j + 1) (pm m 146 0 (20 * p + j) 0) (by omega) (by omega) (by omega)
    refine ⟨m', ?_, (Kp.pm (Kp.rf _ _) (Or.inl (by decide))).tr g2, g3, fun i => ?_⟩
    · rw [← g1]
      generalize hR : fX12_forgets_82 (kX12_forgets n) 0 p (20 * p + (j + 1)) _ = R
      simp only [fX12_forgets_82, w, w1]
      rw [if_pos (by omega), if_pos (by omega), uX12_forgets_82, hR]
    · rw [g4, gm_pm]
      by_cases e : i = 20 * p + j
      · rw [if_neg (by omega), if_pos ⟨rfl, rfl, e⟩, if_pos (by omega)]
      · rw [if_neg (show ¬ (146 = 146 ∧ (0 : Int) = 0 ∧ i = 20 * p + j) from fun y => e y.2.2)]
        by_cases e2 : 20 * p + j ≤ i ∧ i < 20 * p + 20
        · rw [if_pos e2, if_pos (by omega)]
        · rw [if_neg e2, if_neg (by omega)]
theorem emForget {p : Int} (hp : 0 ≤ p ∧ p < 10) (m : St) : ∃ m', FX12_forgets 0 p m = some (0, 0, m') ∧ Kp fgU m m' ∧ m'.2 = m.2 ∧ fgM m' p ∧ (∀ k z, k ≠ 146 → z ≠ p → gm m' k 0 z = gm m k 0 z) ∧ ∀ j : Int, (j < 20 * p ∨ 20 * p + 20 ≤ j) → gm m' 146 0 j = gm m 146 0 j := by
  obtain ⟨m1, g1, g2, g3, g4⟩ := emClr_l hp 20 9999 0 (pm (pm (pm (pm (pm (pm (pm (pm (pm (pm (pm m 106 0 p 0) 108 0 p 0) 109 0 p 0) 110 0 p 0) 112 0 p 0) 124 0 p 0) 125 0 p 0) 147 0 p 0) 143 0 p (-1)) 144 0 p (-1)) 145 0 p 0) (by omega) (by omega) (by omega)
  have w : wr (20 * p) = 20 * p := wq (by omega) (by omega)
  rw [Int.add_zero] at g1
  refine ⟨m1, ?_, ?_, g3, ⟨?_, ?_, ?_, ?_, ?_, ?_, ?_, ?_, ?_, ?_, ?_, fun j j0 j1 => ?_⟩, fun k z hk hz => ?_, fun j hj => ?_⟩
  · simp only [FX12_forgets, fX12_forgets_0, if_pos hp, or_true, true_or, and_true, w]
    exact g1
  · exact (Kp.pm (Kp.pm (Kp.pm (Kp.pm (Kp.pm (Kp.pm (Kp.pm (Kp.pm (Kp.pm (Kp.pm (Kp.pm (Kp.rf _ _) (Or.inl (by decide))) (Or.inl (by decide))) (Or.inl (by decide))) (Or.inl (by decide))) (Or.inl (by decide))) (Or.inl (by decide))) (Or.inl (by decide))) (Or.inl (by decide))) (Or.inl (by decide))) (Or.inl (by decide))) (Or.inl (by decide))).tr (g2.wk (by decide))
  · rw [g2.k (by decide)]; simp [gm_pm]
  · rw [g2.k (by decide)]; simp [gm_pm]
  · rw [g2.k (by decide)]; simp [gm_pm]
  · rw [g2.k (by decide)]; simp [gm_pm]
  · rw [g2.k (by decide)]; simp [gm_pm]
  · rw [g2.k (by decide)]; simp [gm_pm]
  · rw [g2.k (by decide)]; simp [gm_pm]
  · rw [g2.k (by decide)]; simp [gm_pm]
  · rw [g2.k (by decide)]; simp [gm_pm]
  · rw [g2.k (by decide)]; simp [gm_pm]
  · rw [g2.k (by decide)]; simp [gm_pm]
  · rw [g4, if_pos (by omega)]
  · rw [g2.k (by simp [frk]; omega)]
    simp [gm_pm, hz]
  · rw [g4, if_neg (by omega)]
    simp [gm_pm]
theorem emFgt_lp {N : Int} (hN : N ≤ 10) : ∀ (d n : Nat) (k : Int) (m : St), gm m 12 0 1 = N → d < n → 0 ≤ k → k + d = N →
    ∃ m', fX12_endYear_240 (kX12_endYear n) 0 k m = fX12_endYear_259 (kX12_endYear (n - d)) 0 m' ∧ Kp fgU m m' ∧ m'.2 = m.2 ∧ (∀ s : Int, k ≤ s → s < N → fgM m' s) ∧ (∀ f z, f ≠ 146 → ¬ (k ≤ z ∧ z < N) → gm m' f 0 z = gm m f 0 z) ∧ ∀ j : Int, (j < 20 * k ∨ 20 * N ≤ j) → gm m' 146 0 j = gm m 146 0 j
  | 0, n, k, m, hm, hn, k0, k1 => by
    refine ⟨m, ?_, Kp.rf _ _, rfl, fun s s0 s1 => by omega, fun _ _ _ _ => rfl, fun _ _ => rfl⟩
    simp only [fX12_endYear_240, hm]
    rw [if_neg (by omega)]
    rfl
  | d + 1, n, k, m, hm, hn, k0, k1 => by
    obtain ⟨n, rfl⟩ : ∃ n', n = n' + 1 := ⟨n - 1, by omega⟩
    have w1 : wr (k + 1) = k + 1 := wq (by omega) (by omega)
    have hk : 0 ≤ k ∧ k < 10 := by omega
    obtain ⟨m1, a1, a2, a3, a4, a5, a6⟩ := emForget hk m
    obtain ⟨m', g1, g2, g3, g4, g5, g6⟩ := emFgt_lp hN d n (k + 1) m1 (by rw [a2.k (by decide)]; exact hm) (by omega) (by omega) (by omega)
    refine ⟨m', ?_, a2.tr g2, g3.trans a3, fun s s0 s1 => ?_, fun f z hf hz => ?_, fun j hj => ?_⟩
    · rw [show n + 1 - (d + 1) = n - d by omega, ← g1]
      generalize hR : fX12_endYear_240 (kX12_endYear n) 0 (k + 1) m1 = R
      simp only [fX12_endYear_240, hm, a1, bnd_ok, w1]
      rw [if_pos (by omega), uX12_endYear_240, hR]
    · by_cases e : s = k
      · rw [e]
        have q : ∀ f, f ≠ 146 → gm m' f 0 k = gm m1 f 0 k := fun f hf => g5 f k hf (by omega)
        obtain ⟨b1, b2, b3, b4, b5, b6, b7, b8, b9, b10, b11, b12⟩ := a4
        refine ⟨by rw [q _ (by decide)]; exact b1, by rw [q _ (by decide)]; exact b2, by rw [q _ (by decide)]; exact b3, by rw [q _ (by decide)]; exact b4, by rw [q _ (by decide)]; exact b5, by rw [q _ (by decide)]; exact b6, by rw [q _ (by decide)]; exact b7, by rw [q _ (by decide)]; exact b8, by rw [q _ (by decide)]; exact b9, by rw [q _ (by decide)]; exact b10, by rw [q _ (by decide)]; exact b11, fun j j0 j1 => ?_⟩
        rw [g6 _ (by omega)]
        exact b12 j j0 j1
      · exact g4 s (by omega) s1
    · rw [g5 f z hf (by omega), a5 f z hf (by omega)]
    · rw [g6 j (by omega), a6 j (by omega)]
