/-! Clocks and gaps: the reference's. -/
theorem emLook {t l k s : Int} {c m : St} (H : lin t l c m) (hl : 0 ≤ l ∧ l < 2) (k0 : 0 ≤ k) (k1 : k < gm m 134 0 l) (es : gm m 135 0 (60 * l + k) = s) (s10 : 0 ≤ s ∧ s < 10) (hb : 0 ≤ gm m 145 0 s ∧ gm m 145 0 s ≤ 10000000) :
    ∃ m', (∀ n, fX12_looksAtClocks_10 (kX12_looksAtClocks (n + 1)) 0 l (clv c m l - 1) k m = fX12_looksAtClocks_10 (kX12_looksAtClocks n) 0 l (clv c m l - 1) (k + 1) m') ∧ Kp [(143, none), (144, none), (145, none)] m m' ∧ m'.2 = m.2 ∧
      (∀ i, gm m' 143 0 i = if i = s ∧ gm m 143 0 s = -1 ∧ 0 ≤ gm m 138 0 (60 * l + k) then gm m 131 0 l else gm m 143 0 i) ∧ (∀ i, gm m' 144 0 i = if i = s ∧ enP m l (clv c m l) k (gm m 144 0 s) then gm m 131 0 l else gm m 144 0 i) ∧ ∀ i, gm m' 145 0 i = if i = s ∧ 0 < k ∧ gapP m l (clv c m l) (k - 1) then gm m 145 0 i + 1 else gm m 145 0 i := by
  obtain ⟨⟨hD, hR, hJ⟩, -, ⟨e5, e51, e52⟩, -, h7, -⟩ := id H
  obtain ⟨p0, ⟨p1, p11, -⟩, p2, ⟨p3, p4, p5⟩, ⟨p6, p7, p8⟩, -⟩ := h7 k k0 k1
  obtain ⟨cl0, cl1, -⟩ := clv_le hD hR hl
  have hq : 0 ≤ 60 * l + k ∧ 60 * l + k < 120 := by omega
  have w1 : wr (k + 1) = k + 1 := wq (by omega) (by omega)
  have w2 : wr (wr (60 * l) + k) = 60 * l + k := by rw [wq (z := 60 * l) (by omega) (by omega), wq (by omega) (by omega)]
  have w3 : wr (gm m 134 0 l - 1) = gm m 134 0 l - 1 := wq (by omega) (by omega)
  have w4 : wr (60 * l + k + 1) = 60 * l + (k + 1) := by rw [wq (by omega) (by omega)]; omega
  have w5 : wr (60 * l + k - 1) = 60 * l + (k - 1) := by rw [wq (by omega) (by omega)]; omega
  have i1 : ¬ (1 : Int) = 0 := by omega
  -- began
  obtain ⟨v1, hv1⟩ : ∃ v1, v1 = if gm m 143 0 s = -1 ∧ 0 ≤ gm m 138 0 (60 * l + k) then gm m 131 0 l else gm m 143 0 s := ⟨_, rfl⟩
  have A : ∀ kb, fX12_looksAtClocks_10 kb 0 l (clv c m l - 1) k m = fX12_looksAtClocks_80 kb 0 l (clv c m l - 1) k (60 * l + k) s v1 s 0 m := fun kb => by
    rw [hv1]
    simp only [fX12_looksAtClocks_10, fX12_looksAtClocks_73, if_pos hl, if_pos k1, w2, if_pos hq, es, if_pos s10]
    by_cases c1 : gm m 143 0 s = -1
    · rw [if_pos c1]
      by_cases c2 : gm m 138 0 (60 * l + k) < 0
      · rw [if_pos c2, if_neg (fun z => by have := z.2; omega)]
      · rw [if_neg c2, if_pos ⟨c1, by omega⟩]
    · rw [if_neg c1, if_neg (fun z => c1 z.1)]
  -- ended
  obtain ⟨v2, hv2⟩ : ∃ v2, v2 = if enP m l (clv c m l) k (gm m 144 0 s) then gm m 131 0 l else gm m 144 0 s := ⟨_, rfl⟩
  have K1 : Kp [(143, none)] m (pm m 143 0 s v1) := Kp.pm (Kp.rf _ _) (Or.inl (by decide))
  have H1 := H.kp (Kp.rf [] c) K1 (by decide) rfl
  have B : ∀ kb, fX12_looksAtClocks_80 kb 0 l (clv c m l - 1) k (60 * l + k) s v1 s 0 m = fX12_looksAtClocks_161 kb 0 l (clv c m l - 1) k (60 * l + k) s v2 s 0 (pm m 143 0 s v1) := fun kb => by
    obtain ⟨-, o2, -⟩ := H1.out hl k0 (show k < gm (pm m 143 0 s v1) 134 0 l from k1)
    have x0 : gm (pm m 143 0 s v1) 134 0 l = gm m 134 0 l := rfl
    have x1 : ∀ j, gm (pm m 143 0 s v1) 135 0 j = gm m 135 0 j := fun j => rfl
    have x2 : ∀ j, gm (pm m 143 0 s v1) 138 0 j = gm m 138 0 j := fun j => rfl
    have x3 : ∀ j, gm (pm m 143 0 s v1) 137 0 j = gm m 137 0 j := fun j => rfl
    have x4 : ∀ j, gm (pm m 143 0 s v1) 144 0 j = gm m 144 0 j := fun j => rfl
    have x5 : ∀ j, gm (pm m 143 0 s v1) 131 0 j = gm m 131 0 j := fun j => rfl
    have x6 : clv c (pm m 143 0 s v1) l = clv c m l := rfl
    rw [x2, x3, x6] at o2
    rw [hv2]
    simp only [fX12_looksAtClocks_80, if_pos hl, if_pos s10]
    generalize pm m 143 0 s v1 = m1 at o2 x0 x1 x4 x5 ⊢
    simp only [fX12_looksAtClocks_107, fX12_looksAtClocks_111, fX12_looksAtClocks_112, fX12_looksAtClocks_154, if_pos hl, if_pos s10, x0, w3, w4, x1, x4, x5, if_neg i1, o2, bnd_ok, if_true]
    have g0 : (gm m 144 0 s = -1 ∧ clv c m l ≤ gm m 138 0 (60 * l + k) - gm m 137 0 (60 * l + k) + 1) → ¬ (k + 1 < gm m 134 0 l ∧ gm m 135 0 (60 * l + (k + 1)) = s) → (if gm m 144 0 s = -1 then if (if clv c m l ≤ gm m 138 0 (60 * l + k) - gm m 137 0 (60 * l + k) + 1 then (1 : Int) else 0) = 0 then fX12_looksAtClocks_161 kb 0 l (clv c m l - 1) k (60 * l + k) s (gm m 144 0 s) s 0 m1 else fX12_looksAtClocks_161 kb 0 l (clv c m l - 1) k (60 * l + k) s (gm m 131 0 l) s 0 m1 else fX12_looksAtClocks_161 kb 0 l (clv c m l - 1) k (60 * l + k) s (gm m 144 0 s) s 0 m1) = fX12_looksAtClocks_161 kb 0 l (clv c m l - 1) k (60 * l + k) s (if enP m l (clv c m l) k (gm m 144 0 s) then gm m 131 0 l else gm m 144 0 s) s 0 m1 := fun z z2 => by
      rw [if_pos z.1, if_pos z.2, if_neg i1, if_pos ⟨z.1, z.2, by rw [es]; exact z2⟩]
    have g1 : ¬ (gm m 144 0 s = -1 ∧ clv c m l ≤ gm m 138 0 (60 * l + k) - gm m 137 0 (60 * l + k) + 1) → (if gm m 144 0 s = -1 then if (if clv c m l ≤ gm m 138 0 (60 * l + k) - gm m 137 0 (60 * l + k) + 1 then (1 : Int) else 0) = 0 then fX12_looksAtClocks_161 kb 0 l (clv c m l - 1) k (60 * l + k) s (gm m 144 0 s) s 0 m1 else fX12_looksAtClocks_161 kb 0 l (clv c m l - 1) k (60 * l + k) s (gm m 131 0 l) s 0 m1 else fX12_looksAtClocks_161 kb 0 l (clv c m l - 1) k (60 * l + k) s (gm m 144 0 s) s 0 m1) = fX12_looksAtClocks_161 kb 0 l (clv c m l - 1) k (60 * l + k) s (if enP m l (clv c m l) k (gm m 144 0 s) then gm m 131 0 l else gm m 144 0 s) s 0 m1 := fun z => by
      rw [if_neg (show ¬ enP m l (clv c m l) k (gm m 144 0 s) from fun y => z ⟨y.1, y.2.1⟩)]
      by_cases c1 : gm m 144 0 s = -1
      · rw [if_pos c1, if_neg (fun y => z ⟨c1, y⟩), if_pos rfl]
      · rw [if_neg c1]
    have g2 : (k + 1 < gm m 134 0 l ∧ gm m 135 0 (60 * l + (k + 1)) = s) → fX12_looksAtClocks_161 kb 0 l (clv c m l - 1) k (60 * l + k) s (gm m 144 0 s) s 0 m1 = fX12_looksAtClocks_161 kb 0 l (clv c m l - 1) k (60 * l + k) s (if enP m l (clv c m l) k (gm m 144 0 s) then gm m 131 0 l else gm m 144 0 s) s 0 m1 := fun z => by
      rw [if_neg (show ¬ enP m l (clv c m l) k (gm m 144 0 s) from fun y => y.2.2 (by rw [es]; exact z))]
    by_cases c1 : k = gm m 134 0 l - 1
    · rw [if_pos c1]
      by_cases z : gm m 144 0 s = -1 ∧ clv c m l ≤ gm m 138 0 (60 * l + k) - gm m 137 0 (60 * l + k) + 1
      · exact g0 z (fun y => by omega)
      · exact g1 z
    · have hq2 : 0 ≤ 60 * l + (k + 1) ∧ 60 * l + (k + 1) < 120 := by omega
      rw [if_neg c1, if_pos hq2]
      by_cases c2 : gm m 135 0 (60 * l + (k + 1)) = s
      · rw [if_pos c2]
        exact g2 ⟨by omega, c2⟩
      · rw [if_neg c2]
        by_cases z : gm m 144 0 s = -1 ∧ clv c m l ≤ gm m 138 0 (60 * l + k) - gm m 137 0 (60 * l + k) + 1
        · exact g0 z (fun y => c2 y.2)
        · exact g1 z
  -- gaps
  obtain ⟨v3, hv3⟩ : ∃ v3 : Int, v3 = if 0 < k ∧ gapP m l (clv c m l) (k - 1) then 1 else 0 := ⟨_, rfl⟩
  have K2 : Kp [(143, none), (144, none)] m (pm (pm m 143 0 s v1) 144 0 s v2) := Kp.pm (Kp.pm (Kp.rf _ _) (Or.inl (by decide))) (Or.inl (by decide))
  have H2 := H.kp (Kp.rf [] c) K2 (by decide) rfl
  have C : ∀ kb, fX12_looksAtClocks_161 kb 0 l (clv c m l - 1) k (60 * l + k) s v2 s 0 (pm m 143 0 s v1) = fX12_looksAtClocks_269 kb 0 l (clv c m l - 1) k v3 (gm m 145 0 s) s 0 (pm (pm m 143 0 s v1) 144 0 s v2) := fun kb => by
    have x1 : ∀ j, gm (pm (pm m 143 0 s v1) 144 0 s v2) 135 0 j = gm m 135 0 j := fun j => rfl
    have x2 : ∀ j, gm (pm (pm m 143 0 s v1) 144 0 s v2) 138 0 j = gm m 138 0 j := fun j => rfl
    have x3 : ∀ j, gm (pm (pm m 143 0 s v1) 144 0 s v2) 137 0 j = gm m 137 0 j := fun j => rfl
    have x4 : ∀ j, gm (pm (pm m 143 0 s v1) 144 0 s v2) 145 0 j = gm m 145 0 j := fun j => rfl
    have x5 : gm (pm (pm m 143 0 s v1) 144 0 s v2) 134 0 l = gm m 134 0 l := rfl
    have u := fun q0 q1 => (H2.out (k := k - 1) hl q0 q1).2.2.2.1
    rw [x2, x3, x5] at u
    simp only [fX12_looksAtClocks_161, fX12_looksAtClocks_210, fX12_looksAtClocks_212, fX12_looksAtClocks_225, fX12_looksAtClocks_226, fX12_looksAtClocks_268, if_pos s10, w5, x1, x2, x4, if_pos hq, emIn, bnd_ok, if_true, if_neg i1]
    rw [hv3]
    by_cases c0 : 0 < k
    · have hq2 : 0 ≤ 60 * l + (k - 1) ∧ 60 * l + (k - 1) < 120 := by omega
      obtain ⟨r0, ⟨r1, -⟩, -, ⟨r3, r4, r5⟩, ⟨r6, r7, r8⟩, -⟩ := h7 (k - 1) (by omega) (by omega)
      have w6 : wr (wr (gm m 138 0 (60 * l + (k - 1)) - gm m 137 0 (60 * l + (k - 1)) + 1 - gm m 138 0 (60 * l + k)) - 1) = gm m 138 0 (60 * l + (k - 1)) - gm m 137 0 (60 * l + (k - 1)) + 1 - gm m 138 0 (60 * l + k) - 1 := by rw [wq (z := gm m 138 0 (60 * l + (k - 1)) - gm m 137 0 (60 * l + (k - 1)) + 1 - gm m 138 0 (60 * l + k)) (by omega) (by omega), wq (by omega) (by omega)]
      have kk : k - 1 + 1 = k := by omega
      rw [u (by omega) (by omega)]
      simp only [bnd_ok, if_pos c0, if_pos hq2, w6, x2]
      unfold gapP
      rw [kk, es]
      by_cases c1 : gm m 135 0 (60 * l + (k - 1)) = s
      · rw [if_pos c1]
        by_cases c2 : 0 ≤ gm m 138 0 (60 * l + k) ∧ gm m 138 0 (60 * l + k) ≤ clv c m l - 1
        · simp only [if_pos c2, if_neg i1]
          by_cases c3 : 0 ≤ gm m 138 0 (60 * l + (k - 1)) ∧ gm m 138 0 (60 * l + (k - 1)) ≤ clv c m l - 1
          · simp only [if_pos c3, if_neg i1]
            by_cases c4 : 6 < gm m 138 0 (60 * l + (k - 1)) - gm m 137 0 (60 * l + (k - 1)) + 1 - gm m 138 0 (60 * l + k) - 1
            · rw [if_pos c4, if_pos ⟨c0, k1, c1, c3, c2, c4⟩]
            · rw [if_neg c4, if_neg (fun z => c4 z.2.2.2.2.2)]
          · simp only [if_neg c3, if_true]
            rw [if_neg (fun z => c3 z.2.2.2.1)]
        · simp only [if_neg c2, if_true]
          rw [if_neg (fun z => c2 z.2.2.2.2.1)]
      · rw [if_neg c1, if_neg (fun z => c1 z.2.2.1)]
    · rw [if_neg c0, if_neg (fun z => c0 z.1)]
  have hv3b : 0 ≤ v3 ∧ v3 ≤ 1 := by rw [hv3]; split <;> omega
  have D : ∀ n, fX12_looksAtClocks_269 (kX12_looksAtClocks (n + 1)) 0 l (clv c m l - 1) k v3 (gm m 145 0 s) s 0 (pm (pm m 143 0 s v1) 144 0 s v2) = fX12_looksAtClocks_10 (kX12_looksAtClocks n) 0 l (clv c m l - 1) (k + 1) (pm (pm (pm m 143 0 s v1) 144 0 s v2) 145 0 s (gm m 145 0 s + v3)) := fun n => by
    have w7 : wr (gm m 145 0 s + v3) = gm m 145 0 s + v3 := wq (by omega) (by omega)
    simp only [fX12_looksAtClocks_269, if_pos s10, w1, w7]
    rw [uX12_looksAtClocks_10]
  have y3 : ∀ i, gm (pm (pm (pm m 143 0 s v1) 144 0 s v2) 145 0 s (gm m 145 0 s + v3)) 143 0 i = if i = s then v1 else gm m 143 0 i := fun i => by simp [gm_pm]
  have y4 : ∀ i, gm (pm (pm (pm m 143 0 s v1) 144 0 s v2) 145 0 s (gm m 145 0 s + v3)) 144 0 i = if i = s then v2 else gm m 144 0 i := fun i => by simp [gm_pm]
  have y5 : ∀ i, gm (pm (pm (pm m 143 0 s v1) 144 0 s v2) 145 0 s (gm m 145 0 s + v3)) 145 0 i = if i = s then gm m 145 0 s + v3 else gm m 145 0 i := fun i => by simp [gm_pm]
  refine ⟨_, fun n => by rw [A, B, C, D n], Kp.pm (Kp.pm (Kp.pm (Kp.rf _ _) (Or.inl (by decide))) (Or.inl (by decide))) (Or.inl (by decide)), rfl, fun i => ?_, fun i => ?_, fun i => ?_⟩
  · rw [y3]
    by_cases e : i = s
    · rw [if_pos e, hv1, e]
      by_cases z : gm m 143 0 s = -1 ∧ 0 ≤ gm m 138 0 (60 * l + k)
      · rw [if_pos z, if_pos ⟨rfl, z⟩]
      · rw [if_neg z, if_neg (fun y => z y.2)]
    · rw [if_neg e, if_neg (fun y => e y.1)]
  · rw [y4]
    by_cases e : i = s
    · rw [if_pos e, hv2, e]
      by_cases z : enP m l (clv c m l) k (gm m 144 0 s)
      · rw [if_pos z, if_pos ⟨rfl, z⟩]
      · rw [if_neg z, if_neg (fun y => z y.2)]
    · rw [if_neg e, if_neg (fun y => e y.1)]
  · rw [y5]
    by_cases e : i = s
    · rw [if_pos e, hv3, e]
      by_cases z : 0 < k ∧ gapP m l (clv c m l) (k - 1)
      · rw [if_pos z, if_pos ⟨rfl, z⟩]
      · rw [if_neg z, if_neg (fun y => z y.2), Int.add_zero]
    · rw [if_neg e, if_neg (fun y => e y.1)]
