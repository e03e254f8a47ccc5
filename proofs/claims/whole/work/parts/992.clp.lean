/-! Clocks and gaps in lockstep. -/
def clT : List (Nat × Option Int) := [(6, some 12), (6, some 13), (6, some 14)]
def clU : List (Nat × Option Int) := [(143, none), (144, none), (145, none)]
def clF (c m c' m' : St) : Prop := Kp clT c c' ∧ Kp clU m m' ∧ c'.2 = c.2 ∧ m'.2 = m.2 ∧ (∀ i, gm m 143 0 i ≠ -1 → gm m' 143 0 i ≠ -1) ∧ ∀ i, gm m 12 0 1 ≤ i → gm m' 145 0 i = gm m 145 0 i
theorem clF.rf (c m : St) : clF c m c m := ⟨Kp.rf _ _, Kp.rf _ _, rfl, rfl, fun _ h => h, fun _ _ => rfl⟩
theorem clF.tr {c m c' m' c2 m2 : St} (h : clF c m c' m') (g : clF c' m' c2 m2) : clF c m c2 m2 := by
  obtain ⟨h1, h2, h3, h4, h5, h6⟩ := h
  obtain ⟨g1, g2, g3, g4, g5, g6⟩ := g
  exact ⟨h1.tr g1, h2.tr g2, g3.trans h3, g4.trans h4, fun i hi => g5 i (h5 i hi), fun i hi => (g6 i (by rw [h2.k (by decide)]; exact hi)).trans (h6 i hi)⟩
def clkI (l x B G k : Int) (c m : St) : Prop := (∀ i : Int, 0 ≤ i → i < gm m 12 0 1 → (gm c 6 i 12 = gm m 143 0 i ∧ -1 ≤ gm m 143 0 i ∧ gm m 143 0 i ≤ B) ∧ (gm c 6 i 13 = gm m 144 0 i ∧ -1 ≤ gm m 144 0 i ∧ gm m 144 0 i ≤ B) ∧
    (gm c 6 i 14 = gm m 145 0 i + (if (0 < k ∧ gapP m l x (k - 1)) ∧ gm m 135 0 (60 * l + (k - 1)) = i then 1 else 0) ∧ 0 ≤ gm m 145 0 i ∧ gm m 145 0 i ≤ G + k)) ∧
  ∀ j : Int, 0 ≤ j → j < k → 0 ≤ gm m 138 0 (60 * l + j) → gm m 143 0 (gm m 135 0 (60 * l + j)) ≠ -1
theorem clk_one {t l k B G : Int} {c m : St} (H : lin t l c m) (hl : 0 ≤ l ∧ l < 2) (hn : gm m 12 0 1 ≤ 10) (k0 : 0 ≤ k) (k1 : k < gm m 134 0 l) (I : clkI l (clv c m l) B G k c m) (hM : gm c 1 l 3 = gm m 131 0 l ∧ 0 ≤ gm m 131 0 l ∧ gm m 131 0 l ≤ B) (hG : G ≤ 9000000) :
    ∃ c' m', (∀ n, fX1_passMinute_46 (kX1_passMinute (n + 1)) l (clv c m l) k c = fX1_passMinute_46 (kX1_passMinute n) l (clv c m l) (k + 1) c') ∧ (∀ n, fX12_looksAtClocks_10 (kX12_looksAtClocks (n + 1)) 0 l (clv c m l - 1) k m = fX12_looksAtClocks_10 (kX12_looksAtClocks n) 0 l (clv c m l - 1) (k + 1) m') ∧
      clkI l (clv c m l) B G (k + 1) c' m' ∧ clF c m c' m' := by
  obtain ⟨-, -, ⟨e5, e51, e52⟩, -, h7, -, -, -, h11⟩ := id H
  obtain ⟨I1, I2⟩ := I
  obtain ⟨p0, ⟨p1, p11, -⟩, -⟩ := h7 k k0 k1
  obtain ⟨s, es⟩ : ∃ s, gm m 135 0 (60 * l + k) = s := ⟨_, rfl⟩
  rw [es] at p11
  obtain ⟨⟨q1, q11, q12⟩, ⟨q2, q21, q22⟩, q3, q31, q32⟩ := I1 s p11.1 p11.2
  have gb : 0 ≤ gm c 6 s 14 ∧ gm c 6 s 14 ≤ 10000000 := by rw [q3]; split <;> omega
  have a1 := ecGap H hl k0 k1 (by rw [es]; exact gb)
  simp only [es] at a1
  obtain ⟨c1, hc1⟩ : ∃ c1, c1 = if gapP m l (clv c m l) k then pm c 6 s 14 (gm c 6 s 14 + 1) else c := ⟨_, rfl⟩
  rw [← hc1] at a1
  have kc1 : Kp [(6, some 14)] c c1 := by
    rw [hc1]
    split
    · exact Kp.pm (Kp.rf _ _) (Or.inr (by decide))
    · exact Kp.rf _ _
  have n1 : c1.2 = c.2 := by
    rw [hc1]
    split <;> rfl
  have g1 : ∀ i, gm c1 6 i 14 = gm c 6 i 14 + (if gapP m l (clv c m l) k ∧ i = s then 1 else 0) := fun i => by
    rw [hc1]
    by_cases z : gapP m l (clv c m l) k
    · rw [if_pos z, gm_pm]
      by_cases e : i = s
      · subst e
        rw [if_pos ⟨rfl, rfl, rfl⟩, if_pos ⟨z, rfl⟩]
      · rw [if_neg (fun y => e y.2.1), if_neg (fun y => e y.2)]
        omega
    · rw [if_neg z, if_neg (fun y => z y.1)]
      omega
  have H1 := H.kp kc1 (Kp.rf [] m) (by decide) (by rw [n1])
  have x1 : clv c1 m l = clv c m l := by unfold clv; rw [kc1.k (by decide)]
  obtain ⟨c2, b1, b2, b3, b4, b5⟩ := ecClock H1 hl k0 k1 es
  rw [x1] at b1 b5
  rw [kc1.f (show fre _ 6 12 = true by decide), kc1.k (show frk _ 1 = true by decide)] at b4
  rw [kc1.f (show fre _ 6 13 = true by decide), kc1.k (show frk _ 1 = true by decide)] at b5
  obtain ⟨m2, d1, d2, d3, d4, d5, d6⟩ := emLook H hl k0 k1 es ⟨p11.1, by omega⟩ (by omega)
  have kc : Kp clT c c2 := (kc1.wk (by decide)).tr (b2.wk (by decide))
  have w1 : wr (k + 1) = k + 1 := wq (by omega) (by omega)
  have kk : k + 1 - 1 = k := by omega
  have same : (gm m 143 0 s = -1 ∧ 0 ≤ gm m 138 0 (60 * l + k)) ↔ bgP m l k (gm c 6 s 12) := by
    rw [q1]
    refine ⟨fun z => ⟨z.1, z.2, fun y => ?_⟩, fun z => ⟨z.1, z.2.1⟩⟩
    have := I2 (k - 1) (by omega) (by omega) (h11 (k - 1) (by omega) (by omega) (by rw [show k - 1 + 1 = k by omega]; exact z.2))
    rw [y.2, es] at this
    exact this z.1
  refine ⟨c2, m2, fun n => ?_, d1, ⟨fun i i0 i1 => ?_, fun j j0 j1 j2 => ?_⟩, kc, d2, b3.trans n1, d3, fun i hi => ?_, fun i hi => ?_⟩
  · generalize hR : fX1_passMinute_46 (kX1_passMinute n) l (clv c m l) (k + 1) c2 = R
    simp only [fX1_passMinute_46, a1, bnd_ok, b1, w1]
    rw [if_pos (by omega), uX1_passMinute_46, hR]
  · rw [d2.k (show frk _ 12 = true by decide)] at i1
    obtain ⟨⟨r1, r11, r12⟩, ⟨r2, r21, r22⟩, r3, r31, r32⟩ := I1 i i0 i1
    rw [b4, b5, b2.f (show fre _ 6 14 = true by decide), g1, d4, d5, d6, kk]
    unfold gapP
    rw [d2.k (show frk _ 134 = true by decide), d2.k (show frk _ 135 = true by decide), d2.k (show frk _ 135 = true by decide), d2.k (show frk _ 138 = true by decide), d2.k (show frk _ 138 = true by decide), d2.k (show frk _ 137 = true by decide)]
    refine ⟨?_, ?_, ?_⟩
    · by_cases z : i = s ∧ gm m 143 0 s = -1 ∧ 0 ≤ gm m 138 0 (60 * l + k)
      · rw [if_pos z, if_pos ⟨z.1, same.mp z.2⟩]
        omega
      · rw [if_neg z, if_neg (fun y => z ⟨y.1, same.mpr y.2⟩), kc1.f (show fre _ 6 12 = true by decide)]
        exact ⟨r1, r11, r12⟩
    · rw [q2]
      by_cases z : i = s ∧ enP m l (clv c m l) k (gm m 144 0 s)
      · rw [if_pos z, if_pos z]
        omega
      · rw [if_neg z, if_neg z, kc1.f (show fre _ 6 13 = true by decide)]
        exact ⟨r2, r21, r22⟩
    · have e1 : (if (0 < k ∧ gapP m l (clv c m l) (k - 1)) ∧ gm m 135 0 (60 * l + (k - 1)) = i then (1 : Int) else 0) = if i = s ∧ 0 < k ∧ gapP m l (clv c m l) (k - 1) then 1 else 0 := by
        by_cases z : 0 < k ∧ gapP m l (clv c m l) (k - 1)
        · have e2 : gm m 135 0 (60 * l + (k - 1)) = s := by
            have := z.2.2.1
            rw [show k - 1 + 1 = k by omega, es] at this
            exact this
          by_cases e : i = s
          · rw [if_pos ⟨z, e2.trans e.symm⟩, if_pos ⟨e, z⟩]
          · rw [if_neg (fun y => e (y.2.symm.trans e2)), if_neg (fun y => e y.1)]
        · rw [if_neg (fun y => z y.1), if_neg (fun y => z y.2)]
      have e3 : (if (0 < k + 1 ∧ gapP m l (clv c m l) k) ∧ gm m 135 0 (60 * l + k) = i then (1 : Int) else 0) = if gapP m l (clv c m l) k ∧ i = s then 1 else 0 := by
        by_cases z : gapP m l (clv c m l) k ∧ i = s
        · rw [if_pos z, if_pos ⟨⟨by omega, z.1⟩, es.trans z.2.symm⟩]
        · rw [if_neg z, if_neg (fun y => z ⟨y.1.2, y.2.symm.trans es⟩)]
      rw [e1] at r3
      refine Eq.ndrec (motive := fun v => gm c 6 i 14 + (if gapP m l (clv c m l) k ∧ i = s then 1 else 0) = (if i = s ∧ 0 < k ∧ gapP m l (clv c m l) (k - 1) then gm m 145 0 i + 1 else gm m 145 0 i) + v ∧ _) ?_ e3.symm
      rw [r3]
      by_cases z : i = s ∧ 0 < k ∧ gapP m l (clv c m l) (k - 1)
      · rw [if_pos z, if_pos z]
        omega
      · rw [if_neg z, if_neg z]
        omega
  · rw [d2.k (show frk _ 138 = true by decide)] at j2
    rw [d2.k (show frk _ 135 = true by decide), d4]
    by_cases e : j = k
    · subst e
      rw [es]
      by_cases z : gm m 143 0 s = -1
      · rw [if_pos ⟨rfl, z, j2⟩]
        omega
      · rw [if_neg (fun y => z y.2.1)]
        exact z
    · have := I2 j j0 (by omega) j2
      split
      · omega
      · exact this
  · rw [d4]
    split
    · omega
    · exact hi
  · rw [d6, if_neg (fun y => by omega)]
theorem clk_lp {t l x B G : Int} (hl : 0 ≤ l ∧ l < 2) (hG : G ≤ 9000000) : ∀ (d n n2 : Nat) (k : Int) (c m : St), lin t l c m → gm m 12 0 1 ≤ 10 → clv c m l = x → clkI l x B G k c m → (gm c 1 l 3 = gm m 131 0 l ∧ 0 ≤ gm m 131 0 l ∧ gm m 131 0 l ≤ B) → d < n → d < n2 → 0 ≤ k → k + d = gm m 134 0 l →
    ∃ c' m', fX1_passMinute_46 (kX1_passMinute n) l x k c = fX1_passMinute_77 (kX1_passMinute (n - d)) l x c' ∧ fX12_looksAtClocks_10 (kX12_looksAtClocks n2) 0 l (x - 1) k m = some (0, 0, m') ∧ clkI l x B G (gm m 134 0 l) c' m' ∧ clF c m c' m'
  | 0, n, n2, k, c, m, H, hn, hx, I, hM, h1, h2, k0, k1 => by
    obtain ⟨-, -, ⟨e5, e51, e52⟩, -⟩ := id H
    refine ⟨c, m, ?_, ?_, ?_, clF.rf c m⟩
    · simp only [fX1_passMinute_46]
      rw [if_neg (by omega)]
      rfl
    · simp only [fX12_looksAtClocks_10, fX12_looksAtClocks_277]
      rw [if_pos hl, if_neg (by omega)]
    · rw [show gm m 134 0 l = k by omega]
      exact I
  | d + 1, n, n2, k, c, m, H, hn, hx, I, hM, h1, h2, k0, k1 => by
    obtain ⟨n, rfl⟩ : ∃ n', n = n' + 1 := ⟨n - 1, by omega⟩
    obtain ⟨n2, rfl⟩ : ∃ n', n2 = n' + 1 := ⟨n2 - 1, by omega⟩
    subst hx
    obtain ⟨c1, m1, a1, a2, a3, a4⟩ := clk_one H hl hn k0 (by omega) I hM hG
    obtain ⟨f1, f2, f3, f4, f5, f6⟩ := id a4
    have H1 := H.kp f1 f2 (by decide) (by rw [f3])
    have hx : clv c1 m1 l = clv c m l := by unfold clv; rw [f1.k (by decide), f2.k (by decide)]
    have b2 : gm m1 134 0 l = gm m 134 0 l := f2.k (by decide) _ _
    obtain ⟨c2, m2, g1, g2, g3, g4⟩ := clk_lp hl hG d n n2 (k + 1) c1 m1 H1 (by rw [f2.k (by decide)]; exact hn) hx a3 (by rw [f1.k (by decide), f2.k (by decide)]; exact hM) (by omega) (by omega) (by omega) (by rw [b2]; omega)
    rw [b2] at g3
    refine ⟨c2, m2, ?_, ?_, g3, a4.tr g4⟩
    · rw [show n + 1 - (d + 1) = n - d by omega, ← g1]
      exact a1 n
    · rw [← g2]
      exact a2 n2
