/-! Floats. -/
theorem op_build {t : Int} {c m : St} (h : rl t c m) (p a b d e : Int) : Step t (cdn 3 1 2) c m (FX11_build 0 p a b d e c) (FX12_build 0 p a b d e m) := by
  have hn := h.n
  by_cases hp : 0 ≤ p ∧ p < gm m 12 0 1
  · have hp1 : ¬ p = -1 := by omega
    have hp9 : 0 ≤ p ∧ p < 10 := by omega
    by_cases hv : (1 ≤ a ∧ a ≤ 20) ∧ (1 ≤ b ∧ b ≤ 20) ∧ (1 ≤ d ∧ d ≤ 99) ∧ (1 ≤ e ∧ e ≤ 20)
    · obtain ⟨ha, hb, hd, he⟩ := hv
      obtain ⟨w1, w2, w3⟩ := h.hW.1 p hp9.1 hp9.2
      obtain ⟨w3, w4⟩ := w3 hp.2
      obtain ⟨-, o2, o3, -⟩ := h.hO.1 p hp9.1 hp9.2
      obtain ⟨o3, -⟩ := o3 hp.2
      by_cases hf : gm m 112 0 p < 3 ∧ gm m 124 0 p = 0
      · have ec : FX11_build 0 p a b d e c = some (0, gm m 112 0 p, pm (pm (alc 10 [a, b, d, e] c) 15 p (gm m 112 0 p) (c.2 10)) 6 p 10 (gm m 112 0 p + 1)) := by
          have x1 : gm (alc 10 [a, b, d, e] c) 6 p 10 = gm m 112 0 p := by rw [gm_alc10, if_neg (by omega)]; exact w3
          have hf2 : gm c 6 p 10 < 3 := by omega
          have hf3 : gm c 6 p 15 = 0 := by omega
          have hr : 0 ≤ gm m 112 0 p ∧ gm m 112 0 p ≤ 3 - 1 := by omega
          have hr2 : 0 ≤ gm m 112 0 p ∧ gm m 112 0 p < 3 := by omega
          simp only [FX11_build, fX11_build_0, fX11_build_22, fX11_build_64, fX11_build_74, fX11_build_91, fX11_build_101, FX6_addWagon, fX6_addWagon_0, fX6_addWagon_22, h.soc, ecWithin, bnd_ok, if_pos hp, if_neg hp1, if_pos ha, if_pos hb, if_pos hd, if_pos he, if_pos hp.1, if_pos hf2, if_pos hf3, x1]
          rw [wq (z := 3 - 1) (by omega) (by omega), wq (by omega) (by omega)]
          have hr5 : ¬ 2 < gm m 112 0 p := by omega
          simp [hr2, hr5, bnd_ok]
        have em : FX12_build 0 p a b d e m = some (0, gm m 112 0 p, pm (pm (pm (pm (pm (pm m 12 0 0 0) 113 0 (12 * p + 4 * gm m 112 0 p) a) 113 0 (12 * p + 4 * gm m 112 0 p + 1) b) 113 0 (12 * p + 4 * gm m 112 0 p + 2) d) 113 0 (12 * p + 4 * gm m 112 0 p + 3) e) 112 0 p (gm m 112 0 p + 1)) := by
          have hf2 : ¬ gm m 112 0 p = 3 := by omega
          have hr0 : 0 ≤ 12 * p + 4 * gm m 112 0 p ∧ 12 * p + 4 * gm m 112 0 p < 120 := by omega
          have hr1 : 0 ≤ 12 * p + 4 * gm m 112 0 p + 1 ∧ 12 * p + 4 * gm m 112 0 p + 1 < 120 := by omega
          have hr2 : 0 ≤ 12 * p + 4 * gm m 112 0 p + 2 ∧ 12 * p + 4 * gm m 112 0 p + 2 < 120 := by omega
          have hr3 : 0 ≤ 12 * p + 4 * gm m 112 0 p + 3 ∧ 12 * p + 4 * gm m 112 0 p + 3 < 120 := by omega
          have x1 : gm (pm m 12 0 0 0) 112 0 p = gm m 112 0 p := by simp [gm_pm]
          have ea : ∀ s, FX12_at p (gm m 112 0 p) s = some (0, 12 * p + 4 * gm m 112 0 p, s) := fun s => emAt (by omega) (by omega) (by omega) (by omega)
          simp only [FX12_build, fX12_build_0, fX12_build_53, fX12_build_54, fX12_build_66, fX12_build_75, fX12_build_94, fX12_build_98, fX12_build_99, fX12_build_107, h.isS, emIn, emHolds, bnd_ok, if_pos hp, if_pos ha, if_pos hb, if_pos hd, if_pos he, if_pos hp9, if_neg hf2, if_pos hf.2, x1, ea]
          rw [wq (z := 12 * p + 4 * gm m 112 0 p + 1) (by omega) (by omega), wq (z := 12 * p + 4 * gm m 112 0 p + 2) (by omega) (by omega), wq (z := 12 * p + 4 * gm m 112 0 p + 3) (by omega) (by omega)]
          simp [hr0, hr1, hr2, hr3, gm_pm]
          rw [wq (z := gm m 112 0 p + 1) (by omega) (by omega), wq (by omega) (by omega)]
          simp
        have kc : Kp [(10, none), (15, none), (6, some 10)] c (pm (pm (alc 10 [a, b, d, e] c) 15 p (gm m 112 0 p) (c.2 10)) 6 p 10 (gm m 112 0 p + 1)) := Kp.pm (Kp.pm ((Kp.alc10 _ c).wk (by decide)) (Or.inl (by decide))) (Or.inr (by decide))
        have km : Kp [(12, some 0), (113, none), (112, none)] m (pm (pm (pm (pm (pm (pm m 12 0 0 0) 113 0 (12 * p + 4 * gm m 112 0 p) a) 113 0 (12 * p + 4 * gm m 112 0 p + 1) b) 113 0 (12 * p + 4 * gm m 112 0 p + 2) d) 113 0 (12 * p + 4 * gm m 112 0 p + 3) e) 112 0 p (gm m 112 0 p + 1)) :=
          Kp.pm (Kp.pm (Kp.pm (Kp.pm (Kp.pm (Kp.pm (Kp.rf _ _) (Or.inr (by decide))) (Or.inl (by decide))) (Or.inl (by decide))) (Or.inl (by decide))) (Or.inl (by decide))) (Or.inl (by decide))
        refine Step.ok ec em kc km (by decide) (by decide) (by simp [gm_pm]) rfl ?_
        have n112 : ∀ j, gm (pm (pm (pm (pm (pm (pm m 12 0 0 0) 113 0 (12 * p + 4 * gm m 112 0 p) a) 113 0 (12 * p + 4 * gm m 112 0 p + 1) b) 113 0 (12 * p + 4 * gm m 112 0 p + 2) d) 113 0 (12 * p + 4 * gm m 112 0 p + 3) e) 112 0 p (gm m 112 0 p + 1)) 112 0 j = if j = p then gm m 112 0 p + 1 else gm m 112 0 j := fun j => by simp only [gm_pm]; simp
        have n113 : ∀ j, gm (pm (pm (pm (pm (pm (pm m 12 0 0 0) 113 0 (12 * p + 4 * gm m 112 0 p) a) 113 0 (12 * p + 4 * gm m 112 0 p + 1) b) 113 0 (12 * p + 4 * gm m 112 0 p + 2) d) 113 0 (12 * p + 4 * gm m 112 0 p + 3) e) 112 0 p (gm m 112 0 p + 1)) 113 0 j = if j = 12 * p + 4 * gm m 112 0 p + 3 then e else if j = 12 * p + 4 * gm m 112 0 p + 2 then d else if j = 12 * p + 4 * gm m 112 0 p + 1 then b else if j = 12 * p + 4 * gm m 112 0 p then a else gm m 113 0 j := fun j => by simp only [gm_pm]; simp
        have x10 : ∀ i j, gm (pm (pm (alc 10 [a, b, d, e] c) 15 p (gm m 112 0 p) (c.2 10)) 6 p 10 (gm m 112 0 p + 1)) 10 i j = if i = c.2 10 then [a, b, d, e].getD j.toNat 0 else gm c 10 i j := fun i j => by simp only [gm_pm, gm_alc10]; simp
        have x15 : ∀ i j, gm (pm (pm (alc 10 [a, b, d, e] c) 15 p (gm m 112 0 p) (c.2 10)) 6 p 10 (gm m 112 0 p + 1)) 15 i j = if i = p ∧ j = gm m 112 0 p then c.2 10 else gm c 15 i j := fun i j => by simp only [gm_pm, gm_alc10]; simp
        have x6 : ∀ i, gm (pm (pm (alc 10 [a, b, d, e] c) 15 p (gm m 112 0 p) (c.2 10)) 6 p 10 (gm m 112 0 p + 1)) 6 i 10 = if i = p then gm m 112 0 p + 1 else gm c 6 i 10 := fun i => by simp only [gm_pm, gm_alc10]; simp
        have xc : ∀ k, (pm (pm (alc 10 [a, b, d, e] c) 15 p (gm m 112 0 p) (c.2 10)) 6 p 10 (gm m 112 0 p + 1)).2 k = if k = 10 then c.2 10 + 1 else c.2 k := fun k => rfl
        generalize pm (pm (alc 10 [a, b, d, e] c) 15 p (gm m 112 0 p) (c.2 10)) 6 p 10 (gm m 112 0 p + 1) = c' at kc x10 x15 x6 xc
        generalize pm (pm (pm (pm (pm (pm m 12 0 0 0) 113 0 (12 * p + 4 * gm m 112 0 p) a) 113 0 (12 * p + 4 * gm m 112 0 p + 1) b) 113 0 (12 * p + 4 * gm m 112 0 p + 2) d) 113 0 (12 * p + 4 * gm m 112 0 p + 3) e) 112 0 p (gm m 112 0 p + 1) = m' at km n112 n113
        obtain ⟨⟨a1, a2⟩, ⟨b1, b2⟩, ⟨g1, g2⟩, f⟩ := h.hN
        refine rl.keep h kc km (by omega) (fun _ => xc 6) (fun _ => xc 8) (by rw [xc]; simp; omega) (by rw [xc]; simp) ⟨by rw [xc]; simp; omega, by rw [xc]; simp; omega, by rw [xc]; simp; omega, fun k => by rw [xc]; have := f k; split <;> omega⟩ ?_ ?_ ?_ ?_ ?_ ?_ ?_ ?_ ?_ ?_ ?_ ?_ ?_ ?_ <;> first | exact fun e => absurd e (by decide) | intro _
        have nN : gm m' 12 0 1 = gm m 12 0 1 := km.f (by decide) 0
        have xc10 : c'.2 10 = c.2 10 + 1 := by rw [xc]; simp
        obtain ⟨hW1, hW2⟩ := h.hW
        refine ⟨fun i i0 i1 => ?_, fun i k i' k' i0 i1 k0 k1 i2 i3 k2 k3 hk => ?_⟩
        · obtain ⟨z1, z2, z3⟩ := hW1 i i0 i1
          rw [nN, n112, xc10]
          simp only [x6, x15, x10, n113]
          by_cases ei : i = p
          · subst ei
            simp only [if_true, true_and]
            refine ⟨fun z => by omega, by omega, fun _ => ?_⟩
            refine fun k k0 k1 => ?_
            by_cases ek : k = gm m 112 0 i
            · subst ek
              simp only [if_true]
              refine ⟨by omega, fun f f0 f1 => ?_⟩
              rcases (show f = 0 ∨ f = 1 ∨ f = 2 ∨ f = 3 by omega) with rfl | rfl | rfl | rfl
              · rw [if_neg (by omega), if_neg (by omega), if_neg (by omega), if_pos (by omega)]
                exact ⟨rfl, by omega⟩
              · rw [if_neg (by omega), if_neg (by omega), if_pos (by omega)]
                exact ⟨rfl, by omega⟩
              · rw [if_neg (by omega), if_pos (by omega)]
                exact ⟨rfl, by omega⟩
              · rw [if_pos (by omega)]
                exact ⟨rfl, by omega⟩
            · obtain ⟨y1, y2⟩ := w4 k k0 (by omega)
              simp only [if_neg ek]
              refine ⟨by omega, fun f f0 f1 => ?_⟩
              rw [if_neg (by omega), if_neg (by omega), if_neg (by omega), if_neg (by omega), if_neg (by omega)]
              exact y2 f f0 f1
          · simp only [if_neg ei]
            refine ⟨z1, z2, fun hi => ?_⟩
            obtain ⟨y3, y4⟩ := z3 hi
            refine ⟨y3, fun k k0 k1 => ?_⟩
            obtain ⟨y1, y2⟩ := y4 k k0 k1
            simp only [if_neg (show ¬ (i = p ∧ k = gm m 112 0 p) from fun z => ei z.1)]
            refine ⟨by omega, fun f f0 f1 => ?_⟩
            rw [if_neg (by omega), if_neg (by omega), if_neg (by omega), if_neg (by omega), if_neg (by omega)]
            exact y2 f f0 f1
        · rw [n112] at k1 k3
          rw [x15, x15] at hk
          have live : ∀ i k : Int, 0 ≤ i → i < 10 → 0 ≤ k → k < gm m 112 0 i → gm c 15 i k < c.2 10 := fun i k i0 i1 k0 k1 => by
            obtain ⟨z1, z2, z3⟩ := hW1 i i0 i1
            have hi : i < gm m 12 0 1 := by
              by_cases hi : i < gm m 12 0 1
              · exact hi
              · have := z1 (by omega); omega
            exact ((z3 hi).2 k k0 k1).1.2
          have dn : ∀ i k : Int, ¬ (i = p ∧ k = gm m 112 0 p) → (k < if i = p then gm m 112 0 p + 1 else gm m 112 0 i) → k < gm m 112 0 i := fun i k n1 n2 => by
            by_cases q : i = p
            · rw [if_pos q] at n2; rw [q]; have := fun z => n1 ⟨q, z⟩; omega
            · rw [if_neg q] at n2; exact n2
          by_cases c1 : i = p ∧ k = gm m 112 0 p <;> by_cases c2 : i' = p ∧ k' = gm m 112 0 p
          · omega
          · exfalso
            rw [if_pos c1, if_neg c2] at hk
            have := live i' k' i2 i3 k2 (dn i' k' c2 k3)
            omega
          · exfalso
            rw [if_neg c1, if_pos c2] at hk
            have := live i k i0 i1 k0 (dn i k c1 k1)
            omega
          · rw [if_neg c1, if_neg c2] at hk
            exact hW2 i k i' k' i0 i1 k0 (dn i k c1 k1) i2 i3 k2 (dn i' k' c2 k3) hk
      · refine Step.thr h (o := 2) (v := 0) (x := 0) (k := 3) (by decide) ?_ ?_ rfl
        · simp only [FX11_build, fX11_build_0, fX11_build_22, fX11_build_64, fX11_build_74, fX11_build_91, fX11_build_101, h.soc, ecWithin, bnd_ok, if_pos hp, if_neg hp1, if_pos ha, if_pos hb, if_pos hd, if_pos he, if_pos hp.1, w3, o3]
          by_cases e1 : gm m 112 0 p < 3
          · have : ¬ gm m 124 0 p = 0 := fun z => hf ⟨e1, z⟩
            simp [e1, this]
          · simp [e1]
        · simp only [FX12_build, fX12_build_0, fX12_build_53, fX12_build_54, fX12_build_66, fX12_build_75, fX12_build_94, fX12_build_98, fX12_build_99, fX12_build_107, h.isS, emIn, emHolds, bnd_ok, if_pos hp, if_pos ha, if_pos hb, if_pos hd, if_pos he, if_pos hp9]
          by_cases e1 : gm m 112 0 p < 3
          · have e2 : ¬ gm m 124 0 p = 0 := fun z => hf ⟨e1, z⟩
            have : ¬ gm m 112 0 p = 3 := by omega
            simp [this, e2]
          · have : gm m 112 0 p = 3 := by omega
            simp [this]
    · refine Step.thr h (o := 1) (v := 0) (x := 0) (k := 2) (by decide) ?_ ?_ rfl
      · simp only [FX11_build, fX11_build_0, fX11_build_22, fX11_build_64, fX11_build_74, fX11_build_91, fX11_build_101, h.soc, ecWithin, bnd_ok, if_pos hp, if_neg hp1]
        clear h
        grind
      · simp only [FX12_build, fX12_build_0, fX12_build_53, fX12_build_54, fX12_build_66, fX12_build_75, fX12_build_94, fX12_build_98, fX12_build_99, fX12_build_107, h.isS, emIn, emHolds, bnd_ok, if_pos hp]
        clear h
        grind
  · refine Step.thr h (o := 3) (v := 0) (x := 0) (k := 1) (by decide) ?_ ?_ rfl
    · simp [FX11_build, fX11_build_0, fX11_build_22, fX11_build_64, fX11_build_74, fX11_build_91, fX11_build_101, h.soc, bnd_ok, hp]
    · simp only [FX12_build, fX12_build_0, fX12_build_53, fX12_build_54, fX12_build_66, fX12_build_75, fX12_build_94, fX12_build_98, fX12_build_99, fX12_build_107, h.isS, emIn, emHolds, bnd_ok, if_neg hp]
      clear h
      grind
theorem op_cut {t : Int} {c m : St} (h : rl t c m) (p k a b d e : Int) : Step t (cdn 3 1 2) c m (FX11_cut 0 p k a b d e c) (FX12_cut 0 p k a b d e m) := by
  have hn := h.n
  have isF := emIsFloat (a0 := 0) (a1 := p) (a2 := k) (s := m) hn.1 hn.2 (fun h0 h1 => (h.hW.1 p h0 (by omega)).2.1)
  by_cases hp : 0 ≤ p ∧ p < gm m 12 0 1
  · have hp1 : ¬ p = -1 := by omega
    have hp9 : 0 ≤ p ∧ p < 10 := by omega
    obtain ⟨w1, w2, w3⟩ := h.hW.1 p hp9.1 hp9.2
    obtain ⟨w3, w4⟩ := w3 hp.2
    obtain ⟨-, o2, o3, -⟩ := h.hO.1 p hp9.1 hp9.2
    obtain ⟨o3, -⟩ := o3 hp.2
    have ew := ecWagonAt (a0 := p) (a1 := k) (s := c) (by omega) (by omega)
    rw [w3] at ew
    by_cases hk : 0 ≤ k ∧ k < gm m 112 0 p
    · obtain ⟨g1, g2⟩ := w4 k hk.1 hk.2
      obtain ⟨f0, f0a, f0b⟩ := g2 0 (by omega) (by omega)
      obtain ⟨f1, f1a, f1b⟩ := g2 1 (by omega) (by omega)
      obtain ⟨f2, f2a, f2b⟩ := g2 2 (by omega) (by omega)
      obtain ⟨f3, f3a, f3b⟩ := g2 3 (by omega) (by omega)
      rw [Int.add_zero] at f0 f0a f0b
      have hg1 : ¬ gm c 15 p k = -1 := by omega
      have ea : ∀ s, FX12_at p k s = some (0, 12 * p + 4 * k, s) := fun s => emAt (by omega) (by omega) (by omega) (by omega)
      have hr0 : 0 ≤ 12 * p + 4 * k ∧ 12 * p + 4 * k < 120 := by omega
      have hr1 : 0 ≤ 12 * p + 4 * k + 1 ∧ 12 * p + 4 * k + 1 < 120 := by omega
      have hr2 : 0 ≤ 12 * p + 4 * k + 2 ∧ 12 * p + 4 * k + 2 < 120 := by omega
      have hr3 : 0 ≤ 12 * p + 4 * k + 3 ∧ 12 * p + 4 * k + 3 < 120 := by omega
      have v1 : wr (12 * p + 4 * k + 1) = 12 * p + 4 * k + 1 := wq (by omega) (by omega)
      have v2 : wr (12 * p + 4 * k + 2) = 12 * p + 4 * k + 2 := wq (by omega) (by omega)
      have v3 : wr (12 * p + 4 * k + 3) = 12 * p + 4 * k + 3 := wq (by omega) (by omega)
      by_cases hv : (1 ≤ a ∧ a ≤ gm m 113 0 (12 * p + 4 * k)) ∧ (1 ≤ b ∧ b ≤ gm m 113 0 (12 * p + 4 * k + 1)) ∧ (1 ≤ d ∧ d ≤ gm m 113 0 (12 * p + 4 * k + 2)) ∧ (1 ≤ e ∧ e ≤ gm m 113 0 (12 * p + 4 * k + 3))
      · obtain ⟨ha, hb, hd, he⟩ := hv
        by_cases hf : gm m 124 0 p = 0
        · generalize hg : gm c 15 p k = g at f0 f1 f2 f3 g1 hg1 ew
          have ec : FX11_cut 0 p k a b d e c = some (0, gm m 113 0 (12 * p + 4 * k) + gm m 113 0 (12 * p + 4 * k + 1) + gm m 113 0 (12 * p + 4 * k + 2) + gm m 113 0 (12 * p + 4 * k + 3) - a - b - d - e, pm (pm (pm (pm c 10 g 0 a) 10 g 1 b) 10 g 2 d) 10 g 3 e) := by
            simp only [FX11_cut, fX11_cut_0, fX11_cut_16, fX11_cut_22, fX11_cut_34, fX11_cut_44, fX11_cut_99, fX11_cut_109, fX11_cut_127, FX10_shrink, fX10_shrink_0, FX10_sum, fX10_sum_0, h.soc, ecWithin, bnd_ok, if_pos hp, if_neg hp1, if_pos hp.1, ew, if_pos hk, if_neg hg1, if_pos g1.1, f0, f1, f2, f3, if_pos ha, if_pos hb, if_pos hd, if_pos he, o3, if_pos hf]
            simp [gm_pm]
            simp (disch := omega) only [wq]
            omega
          have em : FX12_cut 0 p k a b d e m = some (0, gm m 113 0 (12 * p + 4 * k) + gm m 113 0 (12 * p + 4 * k + 1) + gm m 113 0 (12 * p + 4 * k + 2) + gm m 113 0 (12 * p + 4 * k + 3) - a - b - d - e, pm (pm (pm (pm (pm m 12 0 0 0) 113 0 (12 * p + 4 * k) a) 113 0 (12 * p + 4 * k + 1) b) 113 0 (12 * p + 4 * k + 2) d) 113 0 (12 * p + 4 * k + 3) e) := by
            simp only [FX12_cut, fX12_cut_0, fX12_cut_21, fX12_cut_22, fX12_cut_97, fX12_cut_98, fX12_cut_110, fX12_cut_119, fX12_cut_132, fX12_cut_133, fX12_cut_141, isF, emIn, emHolds, bnd_ok, if_pos (And.intro hp hk), ea, v1, v2, v3, if_pos hr0, if_pos hr1, if_pos hr2, if_pos hr3, if_pos ha, if_pos hb, if_pos hd, if_pos he, if_pos hp9, if_pos hf]
            simp [gm_pm]
            simp (disch := omega) only [wq]
          have kc : Kp [(10, none)] c (pm (pm (pm (pm c 10 g 0 a) 10 g 1 b) 10 g 2 d) 10 g 3 e) := Kp.pm (Kp.pm (Kp.pm (Kp.pm (Kp.rf _ _) (Or.inl (by decide))) (Or.inl (by decide))) (Or.inl (by decide))) (Or.inl (by decide))
          have km : Kp [(12, some 0), (113, none)] m (pm (pm (pm (pm (pm m 12 0 0 0) 113 0 (12 * p + 4 * k) a) 113 0 (12 * p + 4 * k + 1) b) 113 0 (12 * p + 4 * k + 2) d) 113 0 (12 * p + 4 * k + 3) e) := Kp.pm (Kp.pm (Kp.pm (Kp.pm (Kp.pm (Kp.rf _ _) (Or.inr (by decide))) (Or.inl (by decide))) (Or.inl (by decide))) (Or.inl (by decide))) (Or.inl (by decide))
          refine Step.ok ec em kc km (by decide) (by decide) (by simp [gm_pm]) rfl ?_
          have n113 : ∀ j, gm (pm (pm (pm (pm (pm m 12 0 0 0) 113 0 (12 * p + 4 * k) a) 113 0 (12 * p + 4 * k + 1) b) 113 0 (12 * p + 4 * k + 2) d) 113 0 (12 * p + 4 * k + 3) e) 113 0 j = if j = 12 * p + 4 * k + 3 then e else if j = 12 * p + 4 * k + 2 then d else if j = 12 * p + 4 * k + 1 then b else if j = 12 * p + 4 * k then a else gm m 113 0 j := fun j => by simp only [gm_pm]; simp
          have x10 : ∀ i j, gm (pm (pm (pm (pm c 10 g 0 a) 10 g 1 b) 10 g 2 d) 10 g 3 e) 10 i j = if i = g ∧ j = 3 then e else if i = g ∧ j = 2 then d else if i = g ∧ j = 1 then b else if i = g ∧ j = 0 then a else gm c 10 i j := fun i j => by simp only [gm_pm]; simp
          have hn2 : (pm (pm (pm (pm c 10 g 0 a) 10 g 1 b) 10 g 2 d) 10 g 3 e).2 = c.2 := rfl
          generalize pm (pm (pm (pm c 10 g 0 a) 10 g 1 b) 10 g 2 d) 10 g 3 e = c' at kc x10 hn2
          generalize pm (pm (pm (pm (pm m 12 0 0 0) 113 0 (12 * p + 4 * k) a) 113 0 (12 * p + 4 * k + 1) b) 113 0 (12 * p + 4 * k + 2) d) 113 0 (12 * p + 4 * k + 3) e = m' at km n113
          refine rl.keep0 h kc km hn2 ?_ ?_ ?_ ?_ ?_ ?_ ?_ ?_ ?_ ?_ ?_ ?_ ?_ ?_ <;> first | exact fun e => absurd e (by decide) | intro _
          have nN : gm m' 12 0 1 = gm m 12 0 1 := km.f (by decide) 0
          have n112 : ∀ n j, gm m' 112 n j = gm m 112 n j := km.k (by decide)
          have x6 : ∀ n, gm c' 6 n 10 = gm c 6 n 10 := kc.f (by decide)
          have x15 : ∀ n j, gm c' 15 n j = gm c 15 n j := kc.k (by decide)
          obtain ⟨hW1, hW2⟩ := h.hW
          simp only [rlW, nN, n112, x6, x15, hn2]
          refine ⟨fun i i0 i1 => ?_, hW2⟩
          obtain ⟨z1, z2, z3⟩ := hW1 i i0 i1
          refine ⟨z1, z2, fun hi => ?_⟩
          obtain ⟨y3, y4⟩ := z3 hi
          refine ⟨y3, fun k' k0 k1 => ?_⟩
          obtain ⟨y1, y2⟩ := y4 k' k0 k1
          refine ⟨y1, fun f f0 f1 => ?_⟩
          rw [x10, n113]
          by_cases ei : i = p ∧ k' = k
          · obtain ⟨rfl, rfl⟩ := ei
            rw [hg]
            rcases (show f = 0 ∨ f = 1 ∨ f = 2 ∨ f = 3 by omega) with rfl | rfl | rfl | rfl
            · rw [if_neg (by omega), if_neg (by omega), if_neg (by omega), if_pos (by omega), if_neg (by omega), if_neg (by omega), if_neg (by omega), if_pos (by omega)]
              exact ⟨rfl, by omega⟩
            · rw [if_neg (by omega), if_neg (by omega), if_pos (by omega), if_neg (by omega), if_neg (by omega), if_pos (by omega)]
              exact ⟨rfl, by omega⟩
            · rw [if_neg (by omega), if_pos (by omega), if_neg (by omega), if_pos (by omega)]
              exact ⟨rfl, by omega⟩
            · rw [if_pos (by omega), if_pos (by omega)]
              exact ⟨rfl, by omega⟩
          · have ne : gm c 15 i k' ≠ g := fun z => ei (by
              have := hW2 i k' p k i0 i1 k0 k1 hp9.1 hp9.2 hk.1 hk.2 (z.trans hg.symm)
              exact this)
            rw [if_neg (fun z => ne z.1), if_neg (fun z => ne z.1), if_neg (fun z => ne z.1), if_neg (fun z => ne z.1), if_neg (by omega), if_neg (by omega), if_neg (by omega), if_neg (by omega)]
            exact y2 f f0 f1
        · refine Step.thr h (o := 2) (v := 0) (x := 0) (k := 3) (by decide) ?_ ?_ rfl
          · simp only [FX11_cut, fX11_cut_0, fX11_cut_16, fX11_cut_22, fX11_cut_34, fX11_cut_44, fX11_cut_99, fX11_cut_109, fX11_cut_127, h.soc, ecWithin, bnd_ok, if_pos hp, if_neg hp1, if_pos hp.1, ew, if_pos hk, if_neg hg1, if_pos g1.1, f0, f1, f2, f3, if_pos ha, if_pos hb, if_pos hd, if_pos he, o3, if_neg hf]
            simp
          · simp only [FX12_cut, fX12_cut_0, fX12_cut_21, fX12_cut_22, fX12_cut_97, fX12_cut_98, fX12_cut_110, fX12_cut_119, fX12_cut_132, fX12_cut_133, fX12_cut_141, isF, emIn, emHolds, bnd_ok, if_pos (And.intro hp hk), ea, v1, v2, v3, if_pos hr0, if_pos hr1, if_pos hr2, if_pos hr3, if_pos ha, if_pos hb, if_pos hd, if_pos he, if_pos hp9, if_neg hf]
            simp
      · refine Step.thr h (o := 1) (v := 0) (x := 0) (k := 2) (by decide) ?_ ?_ rfl
        · simp only [FX11_cut, fX11_cut_0, fX11_cut_16, fX11_cut_22, fX11_cut_34, fX11_cut_44, fX11_cut_99, fX11_cut_109, fX11_cut_127, h.soc, ecWithin, bnd_ok, if_pos hp, if_neg hp1, if_pos hp.1, ew, if_pos hk, if_neg hg1, if_pos g1.1, f0, f1, f2, f3]
          by_cases c1 : 1 ≤ a ∧ a ≤ gm m 113 0 (12 * p + 4 * k)
          · by_cases c2 : 1 ≤ b ∧ b ≤ gm m 113 0 (12 * p + 4 * k + 1)
            · by_cases c3 : 1 ≤ d ∧ d ≤ gm m 113 0 (12 * p + 4 * k + 2)
              · have c4 : ¬ (1 ≤ e ∧ e ≤ gm m 113 0 (12 * p + 4 * k + 3)) := fun z => hv ⟨c1, c2, c3, z⟩
                simp only [if_pos c1, if_pos c2, if_pos c3, if_neg c4]
                simp
              · simp only [if_pos c1, if_pos c2, if_neg c3]
                simp
            · simp only [if_pos c1, if_neg c2]
              simp
          · simp only [if_neg c1]
            simp
        · simp only [FX12_cut, fX12_cut_0, fX12_cut_21, fX12_cut_22, fX12_cut_97, fX12_cut_98, fX12_cut_110, fX12_cut_119, fX12_cut_132, fX12_cut_133, fX12_cut_141, isF, emIn, emHolds, bnd_ok, if_pos (And.intro hp hk), ea, v1, v2, v3, if_pos hr0, if_pos hr1, if_pos hr2, if_pos hr3]
          by_cases c1 : 1 ≤ a ∧ a ≤ gm m 113 0 (12 * p + 4 * k)
          · by_cases c2 : 1 ≤ b ∧ b ≤ gm m 113 0 (12 * p + 4 * k + 1)
            · by_cases c3 : 1 ≤ d ∧ d ≤ gm m 113 0 (12 * p + 4 * k + 2)
              · have c4 : ¬ (1 ≤ e ∧ e ≤ gm m 113 0 (12 * p + 4 * k + 3)) := fun z => hv ⟨c1, c2, c3, z⟩
                simp only [if_pos c1, if_pos c2, if_pos c3, if_neg c4]
                simp
              · simp only [if_pos c1, if_pos c2, if_neg c3]
                simp
            · simp only [if_pos c1, if_neg c2]
              simp
          · simp only [if_neg c1]
            simp
    · refine Step.thr h (o := 3) (v := 0) (x := 0) (k := 1) (by decide) ?_ ?_ rfl
      · simp only [FX11_cut, fX11_cut_0, fX11_cut_16, fX11_cut_22, fX11_cut_34, fX11_cut_44, fX11_cut_99, fX11_cut_109, fX11_cut_127, h.soc, bnd_ok, if_pos hp, if_neg hp1, if_pos hp.1, ew, if_neg hk]
        simp
      · simp only [FX12_cut, fX12_cut_0, fX12_cut_21, fX12_cut_22, fX12_cut_97, fX12_cut_98, fX12_cut_110, fX12_cut_119, fX12_cut_132, fX12_cut_133, fX12_cut_141, isF, emIn, emHolds, bnd_ok, if_neg (fun z : (0 ≤ p ∧ p < gm m 12 0 1) ∧ 0 ≤ k ∧ k < gm m 112 0 p => hk z.2)]
        rw [wq (z := (0 : Int) + 1) (by omega) (by omega), wq (z := (0 : Int) + 2) (by omega) (by omega), wq (z := (0 : Int) + 3) (by omega) (by omega)]
        simp
  · refine Step.thr h (o := 3) (v := 0) (x := 0) (k := 1) (by decide) ?_ ?_ rfl
    · simp [FX11_cut, fX11_cut_0, fX11_cut_16, fX11_cut_22, fX11_cut_34, fX11_cut_44, fX11_cut_99, fX11_cut_109, fX11_cut_127, h.soc, bnd_ok, hp]
    · simp only [FX12_cut, fX12_cut_0, fX12_cut_21, fX12_cut_22, fX12_cut_97, fX12_cut_98, fX12_cut_110, fX12_cut_119, fX12_cut_132, fX12_cut_133, fX12_cut_141, isF, emIn, emHolds, bnd_ok, if_neg (fun z : (0 ≤ p ∧ p < gm m 12 0 1) ∧ 0 ≤ k ∧ k < gm m 112 0 p => hp z.1)]
      rw [wq (z := (0 : Int) + 1) (by omega) (by omega), wq (z := (0 : Int) + 2) (by omega) (by omega), wq (z := (0 : Int) + 3) (by omega) (by omega)]
      simp
