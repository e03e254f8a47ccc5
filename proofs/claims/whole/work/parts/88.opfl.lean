/-! Floats. -/
theorem op_build {t : Int} {c m : St} (h : rl t c m) (p a b d e : Int) : Step t (cdn 3 1 2) c m (FX11_build 0 p a b d e c) (FX12_build 0 p a b d e m) := by
  have hn := h.n
  by_cases hp : 0 ≤ p ∧ p < gm m 12 0 1
  · have hp1 : ¬ p = -1 := by omega
    have hp9 : 0 ≤ p ∧ p < 10 := by omega
    by_cases hv : (1 ≤ a ∧ a ≤ 20) ∧ (1 ≤ b ∧ b ≤ 20) ∧ (1 ≤ d ∧ d ≤ 99) ∧ (1 ≤ e ∧ e ≤ 20)
    · obtain ⟨ha, hb, hd, he⟩ := hv
      obtain ⟨w1, w2, w3⟩ := h.hW.1 p hp9.1 hp9.2
      obtain ⟨w3, w4⟩ := w3 hp.2
      obtain ⟨-, o2, o3, -⟩ := h.hO.1 p hp9.1 hp9.2
      obtain ⟨o3, -⟩ := o3 hp.2
      by_cases hf : gm m 112 0 p < 3 ∧ gm m 124 0 p = 0
      · have ec : FX11_build 0 p a b d e c = some (0, gm m 112 0 p, pm (pm (alc 10 [a, b, d, e] c) 15 p (gm m 112 0 p) (c.2 10)) 6 p 10 (gm m 112 0 p + 1)) := by
          have x1 : gm (alc 10 [a, b, d, e] c) 6 p 10 = gm m 112 0 p := by rw [gm_alc10, if_neg (by omega)]; exact w3
          have hf2 : gm c 6 p 10 < 3 := by omega
          have hf3 : gm c 6 p 15 = 0 := by omega
          have hr : 0 ≤ gm m 112 0 p ∧ gm m 112 0 p ≤ 3 - 1 := by omega
          have hr2 : 0 ≤ gm m 112 0 p ∧ gm m 112 0 p < 3 := by omega
          simp only [FX11_build, fX11_build_0, fX11_build_22, fX11_build_64, fX11_build_74, fX11_build_91, fX11_build_101, FX6_addWagon, fX6_addWagon_0, fX6_addWagon_22, h.soc, ecWithin, bnd_ok, if_pos hp, if_neg hp1, if_pos ha, if_pos hb, if_pos hd, if_pos he, if_pos hp.1, if_pos hf2, if_pos hf3, x1]
          rw [wq (z := 3 - 1) (by omega) (by omega), wq (by omega) (by omega)]
          simp [hr2, hr, bnd_ok]
        have em : FX12_build 0 p a b d e m = some (0, gm m 112 0 p, pm (pm (pm (pm (pm (pm m 12 0 0 0) 113 0 (12 * p + 4 * gm m 112 0 p) a) 113 0 (12 * p + 4 * gm m 112 0 p + 1) b) 113 0 (12 * p + 4 * gm m 112 0 p + 2) d) 113 0 (12 * p + 4 * gm m 112 0 p + 3) e) 112 0 p (gm m 112 0 p + 1)) := by
          have hf2 : ¬ gm m 112 0 p = 3 := by omega
          have hr0 : 0 ≤ 12 * p + 4 * gm m 112 0 p ∧ 12 * p + 4 * gm m 112 0 p < 120 := by omega
          have hr1 : 0 ≤ 12 * p + 4 * gm m 112 0 p + 1 ∧ 12 * p + 4 * gm m 112 0 p + 1 < 120 := by omega
          have hr2 : 0 ≤ 12 * p + 4 * gm m 112 0 p + 2 ∧ 12 * p + 4 * gm m 112 0 p + 2 < 120 := by omega
          have hr3 : 0 ≤ 12 * p + 4 * gm m 112 0 p + 3 ∧ 12 * p + 4 * gm m 112 0 p + 3 < 120 := by omega
          have x1 : gm (pm m 12 0 0 0) 112 0 p = gm m 112 0 p := by simp [gm_pm]
          have ea : ∀ s, FX12_at p (gm m 112 0 p) s = some (0, 12 * p + 4 * gm m 112 0 p, s) := fun s => emAt (by omega) (by omega) (by omega) (by omega)
          simp only [FX12_build, fX12_build_0, fX12_build_53, fX12_build_54, fX12_build_66, fX12_build_75, fX12_build_94, fX12_build_98, fX12_build_99, fX12_build_107, h.isS, emIn, emHolds, bnd_ok, if_pos hp, if_pos ha, if_pos hb, if_pos hd, if_pos he, if_pos hp9, if_neg hf2, if_pos hf.2, x1, ea]
          simp only [gm_pm]
          simp (disch := omega) only [wq]
          simp [hr0, hr1, hr2, hr3]
        have kc : Kp [(10, none), (15, none), (6, some 10)] c (pm (pm (alc 10 [a, b, d, e] c) 15 p (gm m 112 0 p) (c.2 10)) 6 p 10 (gm m 112 0 p + 1)) := Kp.pm (Kp.pm ((Kp.alc10 _ c).wk (by decide)) (Or.inl (by decide))) (Or.inr (by decide))
        have km : Kp [(12, some 0), (113, none), (112, none)] m (pm (pm (pm (pm (pm (pm m 12 0 0 0) 113 0 (12 * p + 4 * gm m 112 0 p) a) 113 0 (12 * p + 4 * gm m 112 0 p + 1) b) 113 0 (12 * p + 4 * gm m 112 0 p + 2) d) 113 0 (12 * p + 4 * gm m 112 0 p + 3) e) 112 0 p (gm m 112 0 p + 1)) :=
          Kp.pm (Kp.pm (Kp.pm (Kp.pm (Kp.pm (Kp.pm (Kp.rf _ _) (Or.inr (by decide))) (Or.inl (by decide))) (Or.inl (by decide))) (Or.inl (by decide))) (Or.inl (by decide))) (Or.inl (by decide))
        refine Step.ok ec em kc km (by decide) (by decide) (by simp [gm_pm]) rfl ?_
        have n112 : ∀ j, gm (pm (pm (pm (pm (pm (pm m 12 0 0 0) 113 0 (12 * p + 4 * gm m 112 0 p) a) 113 0 (12 * p + 4 * gm m 112 0 p + 1) b) 113 0 (12 * p + 4 * gm m 112 0 p + 2) d) 113 0 (12 * p + 4 * gm m 112 0 p + 3) e) 112 0 p (gm m 112 0 p + 1)) 112 0 j = if j = p then gm m 112 0 p + 1 else gm m 112 0 j := fun j => by simp only [gm_pm]; simp
        have n113 : ∀ j, gm (pm (pm (pm (pm (pm (pm m 12 0 0 0) 113 0 (12 * p + 4 * gm m 112 0 p) a) 113 0 (12 * p + 4 * gm m 112 0 p + 1) b) 113 0 (12 * p + 4 * gm m 112 0 p + 2) d) 113 0 (12 * p + 4 * gm m 112 0 p + 3) e) 112 0 p (gm m 112 0 p + 1)) 113 0 j = if j = 12 * p + 4 * gm m 112 0 p + 3 then e else if j = 12 * p + 4 * gm m 112 0 p + 2 then d else if j = 12 * p + 4 * gm m 112 0 p + 1 then b else if j = 12 * p + 4 * gm m 112 0 p then a else gm m 113 0 j := fun j => by simp only [gm_pm]; simp
        have x10 : ∀ i j, gm (pm (pm (alc 10 [a, b, d, e] c) 15 p (gm m 112 0 p) (c.2 10)) 6 p 10 (gm m 112 0 p + 1)) 10 i j = if i = c.2 10 then [a, b, d, e].getD j.toNat 0 else gm c 10 i j := fun i j => by simp only [gm_pm, gm_alc10]; simp
        have x15 : ∀ i j, gm (pm (pm (alc 10 [a, b, d, e] c) 15 p (gm m 112 0 p) (c.2 10)) 6 p 10 (gm m 112 0 p + 1)) 15 i j = if i = p ∧ j = gm m 112 0 p then c.2 10 else gm c 15 i j := fun i j => by simp only [gm_pm, gm_alc10]; simp
        have x6 : ∀ i, gm (pm (pm (alc 10 [a, b, d, e] c) 15 p (gm m 112 0 p) (c.2 10)) 6 p 10 (gm m 112 0 p + 1)) 6 i 10 = if i = p then gm m 112 0 p + 1 else gm c 6 i 10 := fun i => by simp only [gm_pm, gm_alc10]; simp
        have xc : ∀ k, (pm (pm (alc 10 [a, b, d, e] c) 15 p (gm m 112 0 p) (c.2 10)) 6 p 10 (gm m 112 0 p + 1)).2 k = if k = 10 then c.2 10 + 1 else c.2 k := fun k => rfl
        generalize pm (pm (alc 10 [a, b, d, e] c) 15 p (gm m 112 0 p) (c.2 10)) 6 p 10 (gm m 112 0 p + 1) = c' at kc x10 x15 x6 xc
        generalize pm (pm (pm (pm (pm (pm m 12 0 0 0) 113 0 (12 * p + 4 * gm m 112 0 p) a) 113 0 (12 * p + 4 * gm m 112 0 p + 1) b) 113 0 (12 * p + 4 * gm m 112 0 p + 2) d) 113 0 (12 * p + 4 * gm m 112 0 p + 3) e) 112 0 p (gm m 112 0 p + 1) = m' at km n112 n113
        obtain ⟨⟨a1, a2⟩, ⟨b1, b2⟩, ⟨g1, g2⟩, f⟩ := h.hN
        refine rl.keep h kc km (by omega) (fun _ => xc 6) (fun _ => xc 8) (by rw [xc]; simp; omega) (by rw [xc]; simp) ⟨by rw [xc]; simp; omega, by rw [xc]; simp; omega, by rw [xc]; simp; omega, fun k => by rw [xc]; have := f k; split <;> omega⟩ ?_ ?_ ?_ ?_ ?_ ?_ ?_ ?_ ?_ ?_ ?_ ?_ ?_ ?_ <;> first | exact fun e => absurd e (by decide) | intro _
        have nN : gm m' 12 0 1 = gm m 12 0 1 := km.f (by decide) 0
        have xc10 : c'.2 10 = c.2 10 + 1 := by rw [xc]; simp
        obtain ⟨hW1, hW2⟩ := h.hW
        refine ⟨fun i i0 i1 => ?_, fun i k i' k' i0 i1 k0 k1 i2 i3 k2 k3 hk => ?_⟩
        · obtain ⟨z1, z2, z3⟩ := hW1 i i0 i1
          rw [nN, n112, xc10]
          simp only [x6, x15, x10, n113]
          by_cases ei : i = p
          · subst ei
            simp only [if_true, true_and]
            refine ⟨fun z => by omega, by omega, fun _ => ?_⟩
            refine fun k k0 k1 => ?_
            by_cases ek : k = gm m 112 0 i
            · subst ek
              simp only [if_true]
              refine ⟨by omega, fun f f0 f1 => ?_⟩
              rcases (show f = 0 ∨ f = 1 ∨ f = 2 ∨ f = 3 by omega) with rfl | rfl | rfl | rfl
              · rw [if_neg (by omega), if_neg (by omega), if_neg (by omega), if_pos (by omega)]
                exact ⟨rfl, by omega⟩
              · rw [if_neg (by omega), if_neg (by omega), if_pos (by omega)]
                exact ⟨rfl, by omega⟩
              · rw [if_neg (by omega), if_pos (by omega)]
                exact ⟨rfl, by omega⟩
              · rw [if_pos (by omega)]
                exact ⟨rfl, by omega⟩
            · obtain ⟨y1, y2⟩ := w4 k k0 (by omega)
              rw [if_neg ek, if_neg (by omega)]
              refine ⟨by omega, fun f f0 f1 => ?_⟩
              rw [if_neg (by omega), if_neg (by omega), if_neg (by omega), if_neg (by omega)]
              exact y2 f f0 f1
          · simp only [if_neg ei]
            refine ⟨z1, z2, fun hi => ?_⟩
            obtain ⟨y3, y4⟩ := z3 hi
            refine ⟨y3, fun k k0 k1 => ?_⟩
            obtain ⟨y1, y2⟩ := y4 k k0 k1
            rw [if_neg (fun z => ei z.1), if_neg (by omega)]
            refine ⟨by omega, fun f f0 f1 => ?_⟩
            rw [if_neg (by omega), if_neg (by omega), if_neg (by omega), if_neg (by omega)]
            exact y2 f f0 f1
        · rw [n112] at k1 k3
          rw [x15, x15] at hk
          have live : ∀ i k : Int, 0 ≤ i → i < 10 → 0 ≤ k → k < gm m 112 0 i → gm c 15 i k < c.2 10 := fun i k i0 i1 k0 k1 => by
            obtain ⟨z1, z2, z3⟩ := hW1 i i0 i1
            have hi : i < gm m 12 0 1 := by
              by_cases hi : i < gm m 12 0 1
              · exact hi
              · have := z1 (by omega); omega
            exact ((z3 hi).2 k k0 k1).1.2
          by_cases c1 : i = p ∧ k = gm m 112 0 p <;> by_cases c2 : i' = p ∧ k' = gm m 112 0 p
          · omega
          · exfalso
            rw [if_pos c1, if_neg c2] at hk
            have := live i' k' i2 i3 k2 (by split at k3 <;> omega)
            omega
          · exfalso
            rw [if_neg c1, if_pos c2] at hk
            have := live i k i0 i1 k0 (by split at k1 <;> omega)
            omega
          · rw [if_neg c1, if_neg c2] at hk
            exact hW2 i k i' k' i0 i1 k0 (by split at k1 <;> omega) i2 i3 k2 (by split at k3 <;> omega) hk
      · refine Step.thr h (o := 2) (v := 0) (x := 0) (k := 3) (by decide) ?_ ?_ rfl
        · simp only [FX11_build, fX11_build_0, fX11_build_22, fX11_build_64, fX11_build_74, fX11_build_91, fX11_build_101, h.soc, ecWithin, bnd_ok, if_pos hp, if_neg hp1, if_pos ha, if_pos hb, if_pos hd, if_pos he, if_pos hp.1, w3, o3]
          by_cases e1 : gm m 112 0 p < 3
          · have : ¬ gm m 124 0 p = 0 := fun z => hf ⟨e1, z⟩
            simp [e1, this]
          · simp [e1]
        · simp only [FX12_build, fX12_build_0, fX12_build_53, fX12_build_54, fX12_build_66, fX12_build_75, fX12_build_94, fX12_build_98, fX12_build_99, fX12_build_107, h.isS, emIn, emHolds, bnd_ok, if_pos hp, if_pos ha, if_pos hb, if_pos hd, if_pos he, if_pos hp9]
          by_cases e1 : gm m 112 0 p < 3
          · have e2 : ¬ gm m 124 0 p = 0 := fun z => hf ⟨e1, z⟩
            have : ¬ gm m 112 0 p = 3 := by omega
            simp [this, e2]
          · have : gm m 112 0 p = 3 := by omega
            simp [this]
    · refine Step.thr h (o := 1) (v := 0) (x := 0) (k := 2) (by decide) ?_ ?_ rfl
      · simp only [FX11_build, fX11_build_0, fX11_build_22, fX11_build_64, fX11_build_74, fX11_build_91, fX11_build_101, h.soc, ecWithin, bnd_ok, if_pos hp, if_neg hp1]
        clear h
        grind
      · simp only [FX12_build, fX12_build_0, fX12_build_53, fX12_build_54, fX12_build_66, fX12_build_75, fX12_build_94, fX12_build_98, fX12_build_99, fX12_build_107, h.isS, emIn, emHolds, bnd_ok, if_pos hp]
        clear h
        grind
  · refine Step.thr h (o := 3) (v := 0) (x := 0) (k := 1) (by decide) ?_ ?_ rfl
    · simp [FX11_build, fX11_build_0, fX11_build_22, fX11_build_64, fX11_build_74, fX11_build_91, fX11_build_101, h.soc, bnd_ok, hp]
    · simp only [FX12_build, fX12_build_0, fX12_build_53, fX12_build_54, fX12_build_66, fX12_build_75, fX12_build_94, fX12_build_98, fX12_build_99, fX12_build_107, h.isS, emIn, emHolds, bnd_ok, if_neg hp]
      clear h
      grind
