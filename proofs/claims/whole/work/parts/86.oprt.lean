/-! Calls of streets and routes. -/
theorem gm_alc8 (xs : List Int) (s : St) (k : Nat) (n j : Int) : gm (alc 8 xs s) k n j = if k = 8 ∧ n = s.2 8 then xs.getD j.toNat 0 else gm s k n j := rfl
theorem gm_alc10 (xs : List Int) (s : St) (k : Nat) (n j : Int) : gm (alc 10 xs s) k n j = if k = 10 ∧ n = s.2 10 then xs.getD j.toNat 0 else gm s k n j := rfl
theorem Kp.alc8 (xs : List Int) (s : St) : Kp [(8, none)] s (alc 8 xs s) := fun k n j hh => by
  rw [gm_alc8, if_neg]
  rintro ⟨rfl, -⟩
  exact hh ⟨_, List.mem_singleton_self _, rfl, Or.inl rfl⟩
theorem Kp.alc10 (xs : List Int) (s : St) : Kp [(10, none)] s (alc 10 xs s) := fun k n j hh => by
  rw [gm_alc10, if_neg]
  rintro ⟨rfl, -⟩
  exact hh ⟨_, List.mem_singleton_self _, rfl, Or.inl rfl⟩
theorem alc8_2 (xs : List Int) (s : St) (k : Nat) : (alc 8 xs s).2 k = if k = 8 then s.2 8 + 1 else s.2 k := rfl
theorem alc10_2 (xs : List Int) (s : St) (k : Nat) : (alc 10 xs s).2 k = if k = 10 then s.2 10 + 1 else s.2 k := rfl
theorem rl.bnd {t : Int} {c m : St} (h : rl t c m) {l : Int} (hl : 0 ≤ l ∧ l < 2) : FX0_isRouteFixed l c = some (0, if 0 < gm m 130 0 l ∨ 0 < gm m 126 0 l then 1 else 0, c) ∧ FX12_isBound 0 l m = some (0, if 0 < gm m 130 0 l ∨ 0 < gm m 126 0 l then 1 else 0, m) := by
  obtain ⟨o1, -⟩ := h.hO.2 l hl.1 hl.2
  obtain ⟨l1, -⟩ := h.hL.1 l hl.1 hl.2
  refine ⟨?_, emIsBound hl.1 hl.2⟩
  rw [ecRouteFixed, o1.1]
  congr 3
  split <;> split <;> omega
theorem op_street {t : Int} {c m : St} (h : rl t c m) (a b p q r s : Int) : Step t (cdn 3 1 2) c m (FX11_street 0 a b p q r s c) (FX12_street 0 a b p q r s m) := by
  by_cases hc : (0 ≤ a ∧ a < 12) ∧ (0 ≤ b ∧ b < 12)
  · obtain ⟨ha, hb⟩ := hc
    by_cases hv : a ≠ b ∧ (1 ≤ p ∧ p ≤ 30) ∧ (3 ≤ q ∧ q ≤ 30) ∧ (2 ≤ r ∧ r ≤ 30) ∧ (1 ≤ s ∧ s ≤ 99)
    · obtain ⟨hab, hp, hq, hr, hs⟩ := hv
      obtain ⟨⟨d1, d2, d3, d4⟩, d5, d6, d7⟩ := h.hD
      obtain ⟨u, e1, e2, e3⟩ := h.hD.btw a b
      by_cases hf : gm m 12 0 14 < 16 ∧ u = -1
      · obtain ⟨hf, hu⟩ := hf
        have hno : ∀ j, 0 ≤ j → j < gm m 12 0 14 → ¬ jns m j a b := by
          rcases e3 with ⟨-, e3⟩ | ⟨e3, -⟩
          · exact e3
          · omega
        have hS : 0 ≤ gm m 12 0 14 ∧ gm m 12 0 14 < 16 := ⟨d2, hf⟩
        have ec : FX11_street 0 a b p q r s c = some (0, gm m 12 0 14 + 1, pm (pm (alc 8 [a, b, p, q, r, s] c) 22 0 (gm m 12 0 14) (gm m 12 0 14)) 9 0 2 (gm m 12 0 14 + 1)) := by
          have hS' : 0 ≤ gm m 12 0 14 ∧ gm m 12 0 14 ≤ 16 - 1 := by omega
          have x1 : gm (alc 8 [a, b, p, q, r, s] c) 9 0 2 = gm m 12 0 14 := by rw [gm_alc8, if_neg (by omega)]; exact d1
          have hf2 : ¬ 16 ≤ gm c 9 0 2 := by omega
          simp only [FX11_street, fX11_street_0, fX11_street_14, fX11_street_24, fX11_street_72, fX11_street_82, fX11_street_104, fX11_street_114, FX9_lay, fX9_lay_0, fX9_lay_38, ecIsCorner, ecWithin, ecTownFull, bnd_ok, if_pos ha, if_pos hb, if_neg hab, if_pos hp, if_pos hq, if_pos hr, if_pos hs, e1, hu, if_neg hf2, d4, x1]
          rw [wq (z := 16 - 1) (by omega) (by omega)]
          simp only [if_pos hS', if_pos hS]
          simp [gm_pm, x1]
          rw [wq (by omega) (by omega)]
          rfl
        have em : FX12_street 0 a b p q r s m = some (0, gm m 12 0 14 + 1, pm (pm (pm (pm (pm (pm (pm (pm m 12 0 0 0) 115 0 (gm m 12 0 14) a) 116 0 (gm m 12 0 14) b) 117 0 (gm m 12 0 14) p) 118 0 (gm m 12 0 14) q) 119 0 (gm m 12 0 14) r) 120 0 (gm m 12 0 14) s) 12 0 14 (gm m 12 0 14 + 1)) := by
          have hf2 : ¬ gm m 12 0 14 = 16 := by omega
          simp only [FX12_street, fX12_street_0, fX12_street_18, fX12_street_19, fX12_street_73, fX12_street_74, fX12_street_86, fX12_street_95, fX12_street_114, fX12_street_118, fX12_street_119, fX12_street_127, emIsCorner, emIn, emHolds, bnd_ok, if_pos ha, if_pos hb, if_neg hab, if_pos hp, if_pos hq, if_pos hr, if_pos hs, e2, hu, if_neg hf2]
          simp only [gm_pm]
          simp [hS]
          rw [wq (by omega) (by omega)]
          simp
        have kc : Kp [(8, none), (22, none), (9, some 2)] c (pm (pm (alc 8 [a, b, p, q, r, s] c) 22 0 (gm m 12 0 14) (gm m 12 0 14)) 9 0 2 (gm m 12 0 14 + 1)) := Kp.pm (Kp.pm ((Kp.alc8 _ c).wk (by decide)) (Or.inl (by decide))) (Or.inr (by decide))
        have km : Kp [(12, some 0), (115, none), (116, none), (117, none), (118, none), (119, none), (120, none), (12, some 14)] m (pm (pm (pm (pm (pm (pm (pm (pm m 12 0 0 0) 115 0 (gm m 12 0 14) a) 116 0 (gm m 12 0 14) b) 117 0 (gm m 12 0 14) p) 118 0 (gm m 12 0 14) q) 119 0 (gm m 12 0 14) r) 120 0 (gm m 12 0 14) s) 12 0 14 (gm m 12 0 14 + 1)) :=
          Kp.pm (Kp.pm (Kp.pm (Kp.pm (Kp.pm (Kp.pm (Kp.pm (Kp.pm (Kp.rf _ _) (Or.inr (by decide))) (Or.inl (by decide))) (Or.inl (by decide))) (Or.inl (by decide))) (Or.inl (by decide))) (Or.inl (by decide))) (Or.inl (by decide))) (Or.inr (by decide))
        refine Step.ok ec em kc km (by decide) (by decide) (by simp [gm_pm]) rfl ?_
        have n115 : ∀ j, gm (pm (pm (pm (pm (pm (pm (pm (pm m 12 0 0 0) 115 0 (gm m 12 0 14) a) 116 0 (gm m 12 0 14) b) 117 0 (gm m 12 0 14) p) 118 0 (gm m 12 0 14) q) 119 0 (gm m 12 0 14) r) 120 0 (gm m 12 0 14) s) 12 0 14 (gm m 12 0 14 + 1)) 115 0 j = if j = gm m 12 0 14 then a else gm m 115 0 j := fun j => by simp only [gm_pm]; simp
        have n116 : ∀ j, gm (pm (pm (pm (pm (pm (pm (pm (pm m 12 0 0 0) 115 0 (gm m 12 0 14) a) 116 0 (gm m 12 0 14) b) 117 0 (gm m 12 0 14) p) 118 0 (gm m 12 0 14) q) 119 0 (gm m 12 0 14) r) 120 0 (gm m 12 0 14) s) 12 0 14 (gm m 12 0 14 + 1)) 116 0 j = if j = gm m 12 0 14 then b else gm m 116 0 j := fun j => by simp only [gm_pm]; simp
        have n117 : ∀ j, gm (pm (pm (pm (pm (pm (pm (pm (pm m 12 0 0 0) 115 0 (gm m 12 0 14) a) 116 0 (gm m 12 0 14) b) 117 0 (gm m 12 0 14) p) 118 0 (gm m 12 0 14) q) 119 0 (gm m 12 0 14) r) 120 0 (gm m 12 0 14) s) 12 0 14 (gm m 12 0 14 + 1)) 117 0 j = if j = gm m 12 0 14 then p else gm m 117 0 j := fun j => by simp only [gm_pm]; simp
        have n118 : ∀ j, gm (pm (pm (pm (pm (pm (pm (pm (pm m 12 0 0 0) 115 0 (gm m 12 0 14) a) 116 0 (gm m 12 0 14) b) 117 0 (gm m 12 0 14) p) 118 0 (gm m 12 0 14) q) 119 0 (gm m 12 0 14) r) 120 0 (gm m 12 0 14) s) 12 0 14 (gm m 12 0 14 + 1)) 118 0 j = if j = gm m 12 0 14 then q else gm m 118 0 j := fun j => by simp only [gm_pm]; simp
        have n119 : ∀ j, gm (pm (pm (pm (pm (pm (pm (pm (pm m 12 0 0 0) 115 0 (gm m 12 0 14) a) 116 0 (gm m 12 0 14) b) 117 0 (gm m 12 0 14) p) 118 0 (gm m 12 0 14) q) 119 0 (gm m 12 0 14) r) 120 0 (gm m 12 0 14) s) 12 0 14 (gm m 12 0 14 + 1)) 119 0 j = if j = gm m 12 0 14 then r else gm m 119 0 j := fun j => by simp only [gm_pm]; simp
        have n120 : ∀ j, gm (pm (pm (pm (pm (pm (pm (pm (pm m 12 0 0 0) 115 0 (gm m 12 0 14) a) 116 0 (gm m 12 0 14) b) 117 0 (gm m 12 0 14) p) 118 0 (gm m 12 0 14) q) 119 0 (gm m 12 0 14) r) 120 0 (gm m 12 0 14) s) 12 0 14 (gm m 12 0 14 + 1)) 120 0 j = if j = gm m 12 0 14 then s else gm m 120 0 j := fun j => by simp only [gm_pm]; simp
        have n14 : gm (pm (pm (pm (pm (pm (pm (pm (pm m 12 0 0 0) 115 0 (gm m 12 0 14) a) 116 0 (gm m 12 0 14) b) 117 0 (gm m 12 0 14) p) 118 0 (gm m 12 0 14) q) 119 0 (gm m 12 0 14) r) 120 0 (gm m 12 0 14) s) 12 0 14 (gm m 12 0 14 + 1)) 12 0 14 = gm m 12 0 14 + 1 := by simp only [gm_pm]; simp
        have x8 : ∀ i j, gm (pm (pm (alc 8 [a, b, p, q, r, s] c) 22 0 (gm m 12 0 14) (gm m 12 0 14)) 9 0 2 (gm m 12 0 14 + 1)) 8 i j = if i = gm m 12 0 14 then [a, b, p, q, r, s].getD j.toNat 0 else gm c 8 i j := fun i j => by
          simp only [gm_pm, gm_alc8, d4]; simp
        have x22 : ∀ i, gm (pm (pm (alc 8 [a, b, p, q, r, s] c) 22 0 (gm m 12 0 14) (gm m 12 0 14)) 9 0 2 (gm m 12 0 14 + 1)) 22 0 i = if i = gm m 12 0 14 then gm m 12 0 14 else gm c 22 0 i := fun i => by
          simp only [gm_pm, gm_alc8]; simp
        have x9 : gm (pm (pm (alc 8 [a, b, p, q, r, s] c) 22 0 (gm m 12 0 14) (gm m 12 0 14)) 9 0 2 (gm m 12 0 14 + 1)) 9 0 2 = gm m 12 0 14 + 1 := by
          simp only [gm_pm]; simp
        have xc : ∀ k, (pm (pm (alc 8 [a, b, p, q, r, s] c) 22 0 (gm m 12 0 14) (gm m 12 0 14)) 9 0 2 (gm m 12 0 14 + 1)).2 k = if k = 8 then c.2 8 + 1 else c.2 k := fun k => rfl
        generalize pm (pm (alc 8 [a, b, p, q, r, s] c) 22 0 (gm m 12 0 14) (gm m 12 0 14)) 9 0 2 (gm m 12 0 14 + 1) = c' at kc x8 x22 x9 xc
        generalize pm (pm (pm (pm (pm (pm (pm (pm m 12 0 0 0) 115 0 (gm m 12 0 14) a) 116 0 (gm m 12 0 14) b) 117 0 (gm m 12 0 14) p) 118 0 (gm m 12 0 14) q) 119 0 (gm m 12 0 14) r) 120 0 (gm m 12 0 14) s) 12 0 14 (gm m 12 0 14 + 1) = m' at km n115 n116 n117 n118 n119 n120 n14
        obtain ⟨⟨a1, a2⟩, ⟨b1, b2⟩, ⟨g1, g2⟩, f⟩ := h.hN
        refine rl.keep h kc km (by omega) (fun _ => xc 6) (fun e => absurd e (by decide)) (by rw [xc]; simp) (by rw [xc]; simp) ⟨by rw [xc]; simp; omega, by rw [xc]; simp; omega, by rw [xc]; simp; omega, fun k => by rw [xc]; have := f k; split <;> omega⟩ ?_ ?_ ?_ ?_ ?_ ?_ ?_ ?_ ?_ ?_ ?_ ?_ ?_ ?_ <;> first | exact fun e => absurd e (by decide) | intro _
        · have jn : ∀ i x y, i ≠ gm m 12 0 14 → (jns m' i x y ↔ jns m i x y) := fun i x y hi => by
            unfold jns
            rw [n115, n116, if_neg hi, if_neg hi]
          have jS : ∀ x y, jns m' (gm m 12 0 14) x y ↔ (a = x ∧ b = y) ∨ (a = y ∧ b = x) := fun x y => by
            unfold jns
            rw [n115, n116, if_pos rfl, if_pos rfl]
          refine ⟨⟨by rw [x9, n14], by omega, by omega, by rw [xc, n14]; simp; omega⟩, fun i i0 i1 => ?_, fun i i0 i1 => ?_, fun i i' x y i0 i1 i2 i3 j1 j2 => ?_⟩
          · rw [x22, n14]
            by_cases e : i = gm m 12 0 14
            · rw [if_pos e, if_pos (by omega)]; exact e.symm
            · rw [if_neg e, d5 i i0 i1]
              by_cases e2 : i < gm m 12 0 14
              · rw [if_pos e2, if_pos (by omega)]
              · rw [if_neg e2, if_neg (by omega)]
          · rw [n14] at i1
            simp only [x8, n115, n116, n117, n118, n119, n120]
            by_cases e : i = gm m 12 0 14
            · simp only [if_pos e]
              refine ⟨⟨rfl, rfl, rfl, rfl, rfl, rfl⟩, hp, hq, hr, hs, ha, hb⟩
            · simp only [if_neg e]
              exact d6 i i0 (by omega)
          · rw [n14] at i1 i3
            by_cases e : i = gm m 12 0 14 <;> by_cases e' : i' = gm m 12 0 14
            · rw [e, e']
            · exfalso
              rw [e, jS] at j1
              rw [jn i' x y e'] at j2
              refine hno i' i2 (by omega) ?_
              rcases j1 with ⟨z1, z2⟩ | ⟨z1, z2⟩
              · rw [z1, z2]; exact j2
              · rw [z1, z2]
                rcases j2 with ⟨w1, w2⟩ | ⟨w1, w2⟩
                · exact Or.inr ⟨w1, w2⟩
                · exact Or.inl ⟨w1, w2⟩
            · exfalso
              rw [e', jS] at j2
              rw [jn i x y e] at j1
              refine hno i i0 (by omega) ?_
              rcases j2 with ⟨z1, z2⟩ | ⟨z1, z2⟩
              · rw [z1, z2]; exact j1
              · rw [z1, z2]
                rcases j1 with ⟨w1, w2⟩ | ⟨w1, w2⟩
                · exact Or.inr ⟨w1, w2⟩
                · exact Or.inl ⟨w1, w2⟩
            · rw [jn i x y e] at j1
              rw [jn i' x y e'] at j2
              exact d7 i i' x y i0 (by omega) i2 (by omega) j1 j2
        · intro l l0 l1
          obtain ⟨r1, r2, r3, r4, r5⟩ := h.hR l l0 l1
          have z1 : ∀ n j, gm c' 3 n j = gm c 3 n j := kc.k (by decide)
          have z2 : ∀ n j, gm c' 25 n j = gm c 25 n j := kc.k (by decide)
          have z3 : ∀ n j, gm c' 24 n j = gm c 24 n j := kc.k (by decide)
          have z4 : ∀ n j, gm c' 26 n j = gm c 26 n j := kc.k (by decide)
          have z5 : ∀ n j, gm m' 121 n j = gm m 121 n j := km.k (by decide)
          have z6 : ∀ n j, gm m' 122 n j = gm m 122 n j := km.k (by decide)
          simp only [z1, z2, z3, z4, z5, z6, n14, n117, jns, n115, n116]
          refine ⟨r1, r2, r3, fun k k0 k1 => ?_, r5⟩
          obtain ⟨⟨s1, s2⟩, s3, s4⟩ := r4 k k0 k1
          have e : ¬ gm c 26 l k = gm m 12 0 14 := by omega
          simp only [if_neg e]
          exact ⟨⟨s1, by omega⟩, s3, s4⟩
      · refine Step.thr h (o := 2) (v := 0) (x := 0) (k := 3) (by decide) ?_ ?_ rfl
        · simp only [FX11_street, fX11_street_0, fX11_street_14, fX11_street_24, fX11_street_72, fX11_street_82, fX11_street_104, fX11_street_114, ecIsCorner, ecWithin, ecTownFull, bnd_ok, if_pos ha, if_pos hb, if_neg hab, if_pos hp, if_pos hq, if_pos hr, if_pos hs, e1, d1]
          by_cases e : gm m 12 0 14 < 16
          · have : ¬ u = -1 := fun z => hf ⟨e, z⟩
            simp [this]
          · have : 16 ≤ gm m 12 0 14 := by omega
            simp [this]
        · simp only [FX12_street, fX12_street_0, fX12_street_18, fX12_street_19, fX12_street_73, fX12_street_74, fX12_street_86, fX12_street_95, fX12_street_114, fX12_street_118, fX12_street_119, fX12_street_127, emIsCorner, emIn, emHolds, bnd_ok, if_pos ha, if_pos hb, if_neg hab, if_pos hp, if_pos hq, if_pos hr, if_pos hs, e2]
          by_cases e : gm m 12 0 14 < 16
          · have e9 : ¬ u = -1 := fun z => hf ⟨e, z⟩
            have : ¬ gm m 12 0 14 = 16 := by omega
            simp [this, e9]
          · have : gm m 12 0 14 = 16 := by omega
            simp [this]
    · refine Step.thr h (o := 1) (v := 0) (x := 0) (k := 2) (by decide) ?_ ?_ rfl
      · simp only [FX11_street, fX11_street_0, fX11_street_14, fX11_street_24, fX11_street_72, fX11_street_82, fX11_street_104, fX11_street_114, ecIsCorner, ecWithin, bnd_ok, if_pos ha, if_pos hb]
        clear h
        grind
      · simp only [FX12_street, fX12_street_0, fX12_street_18, fX12_street_19, fX12_street_73, fX12_street_74, fX12_street_86, fX12_street_95, fX12_street_114, fX12_street_118, fX12_street_119, fX12_street_127, emIsCorner, emIn, emHolds, bnd_ok, if_pos ha, if_pos hb]
        clear h
        grind
  · refine Step.thr h (o := 3) (v := 0) (x := 0) (k := 1) (by decide) ?_ ?_ rfl
    · simp only [FX11_street, fX11_street_0, fX11_street_14, fX11_street_24, fX11_street_72, fX11_street_82, fX11_street_104, fX11_street_114, ecIsCorner, bnd_ok]
      clear h
      grind
    · simp only [FX12_street, fX12_street_0, fX12_street_18, fX12_street_19, fX12_street_73, fX12_street_74, fX12_street_86, fX12_street_95, fX12_street_114, fX12_street_118, fX12_street_119, fX12_street_127, emIsCorner, emIn, emHolds, bnd_ok]
      clear h
      grind
