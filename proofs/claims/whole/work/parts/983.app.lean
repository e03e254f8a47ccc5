/-! A part is put into the line. -/
def apI (c : St) : Prop := (∀ l k : Int, 0 ≤ l → l < 2 → 0 ≤ k → k < 60 → -1 ≤ gm c 28 l k ∧ gm c 28 l k < c.2 2) ∧ (∀ l k l' k' : Int, 0 ≤ l → l < 2 → 0 ≤ k → k < 60 → 0 ≤ l' → l' < 2 → 0 ≤ k' → k' < 60 → 0 ≤ gm c 28 l k → gm c 28 l k = gm c 28 l' k' → l = l' ∧ k = k') ∧ 0 ≤ c.2 2
theorem gm_alc2 (s : St) (k : Nat) (n j : Int) : gm (alc 2 [] s) k n j = if k = 2 ∧ n = s.2 2 then sel [-1] 0 j else gm s k n j := rfl
theorem alc2_2 (s : St) (k : Nat) : (alc 2 [] s).2 k = if k = 2 then s.2 2 + 1 else s.2 k := rfl
def apS (s : St) (l e y p w n : Int) : St := pm (pm (pm (pm (pm (pm (pm (pm s 2 y 0 p) 2 y 1 w) 2 y 3 n) 2 y 2 (-1)) 2 y 4 0) 2 y 5 0) 28 l e y) 1 l 2 (e + 1)
def apM (m : St) (l e p w n : Int) : St := pm (pm (pm (pm (pm (pm (pm m 135 0 (60 * l + e) p) 136 0 (60 * l + e) w) 137 0 (60 * l + e) n) 138 0 (60 * l + e) (-1)) 139 0 (60 * l + e) 0) 140 0 (60 * l + e) 0) 134 0 l (e + 1)
theorem apS_kp (s : St) (l e y p w n : Int) : Kp [(2, none), (28, none), (1, some 2)] s (apS s l e y p w n) :=
  Kp.pm (Kp.pm (Kp.pm (Kp.pm (Kp.pm (Kp.pm (Kp.pm (Kp.pm (Kp.rf _ _) (Or.inl (by decide))) (Or.inl (by decide))) (Or.inl (by decide))) (Or.inl (by decide))) (Or.inl (by decide))) (Or.inl (by decide))) (Or.inl (by decide))) (Or.inr (by decide))
theorem apM_kp (m : St) (l e p w n : Int) : Kp [(135, none), (136, none), (137, none), (138, none), (139, none), (140, none), (134, none)] m (apM m l e p w n) :=
  Kp.pm (Kp.pm (Kp.pm (Kp.pm (Kp.pm (Kp.pm (Kp.pm (Kp.rf _ _) (Or.inl (by decide))) (Or.inl (by decide))) (Or.inl (by decide))) (Or.inl (by decide))) (Or.inl (by decide))) (Or.inl (by decide))) (Or.inl (by decide))
/-- both lines, one part longer -/
def apR (l e p w n : Int) (c m c' m' : St) : Prop := Kp [(2, none), (28, none), (1, some 2)] c c' ∧ Kp [(135, none), (136, none), (137, none), (138, none), (139, none), (140, none), (134, none)] m m' ∧ apI c' ∧ (c.2 2 ≤ c'.2 2 ∧ c'.2 2 ≤ c.2 2 + 1 ∧ ∀ k, k ≠ 2 → c'.2 k = c.2 k) ∧ m'.2 = m.2 ∧
  (∀ z, gm c' 1 z 2 = if z = l then e + 1 else gm c 1 z 2) ∧ (∀ z, gm m' 134 0 z = if z = l then e + 1 else gm m 134 0 z) ∧ (∀ z k : Int, ¬ (z = l ∧ k = e) → gm c' 28 z k = gm c 28 z k) ∧
  (0 ≤ gm c' 28 l e ∧ gm c' 2 (gm c' 28 l e) 0 = p ∧ gm c' 2 (gm c' 28 l e) 1 = w ∧ gm c' 2 (gm c' 28 l e) 3 = n ∧ gm c' 2 (gm c' 28 l e) 2 = -1 ∧ gm c' 2 (gm c' 28 l e) 4 = 0 ∧ gm c' 2 (gm c' 28 l e) 5 = 0) ∧
  (∀ z k f : Int, 0 ≤ z → z < 2 → 0 ≤ k → k < 60 → ¬ (z = l ∧ k = e) → 0 ≤ gm c 28 z k → gm c' 2 (gm c 28 z k) f = gm c 2 (gm c 28 z k) f) ∧
  (gm m' 135 0 (60 * l + e) = p ∧ gm m' 136 0 (60 * l + e) = w ∧ gm m' 137 0 (60 * l + e) = n ∧ gm m' 138 0 (60 * l + e) = -1 ∧ gm m' 139 0 (60 * l + e) = 0 ∧ gm m' 140 0 (60 * l + e) = 0) ∧
  ∀ (k : Nat) (j : Int), 135 ≤ k → k ≤ 140 → j ≠ 60 * l + e → gm m' k 0 j = gm m k 0 j
theorem emAdds {m : St} {l e p w n : Int} (hl : 0 ≤ l ∧ l < 2) (he : gm m 134 0 l = e) (he2 : 0 ≤ e ∧ e < 60) : FX12_adds 0 l p w n m = some (0, 0, apM m l e p w n) := by
  have w1 : wr (wr (60 * l) + e) = 60 * l + e := by rw [wq (z := 60 * l) (by omega) (by omega), wq (by omega) (by omega)]
  have hr : 0 ≤ 60 * l + e ∧ 60 * l + e < 120 := by omega
  have x1 : ∀ a b d f g h : Int, gm (pm (pm (pm (pm (pm (pm m 135 0 (60 * l + e) a) 136 0 (60 * l + e) b) 137 0 (60 * l + e) d) 138 0 (60 * l + e) f) 139 0 (60 * l + e) g) 140 0 (60 * l + e) h) 134 0 l = e := fun a b d f g h => by simp [gm_pm, he]
  simp only [FX12_adds, fX12_adds_0, he, w1, if_pos hl, if_pos hr, x1]
  rw [wq (by omega) (by omega), if_pos ⟨hr, by simp⟩]
  rfl
theorem apS_at {s : St} {l e y p w n : Int} (k : Nat) (i j : Int) : gm (apS s l e y p w n) k i j = if k = 1 ∧ i = l ∧ j = 2 then e + 1 else if k = 28 ∧ i = l ∧ j = e then y else if k = 2 ∧ i = y ∧ j = 5 then 0 else if k = 2 ∧ i = y ∧ j = 4 then 0 else if k = 2 ∧ i = y ∧ j = 2 then -1 else if k = 2 ∧ i = y ∧ j = 3 then n else if k = 2 ∧ i = y ∧ j = 1 then w else if k = 2 ∧ i = y ∧ j = 0 then p else gm s k i j := rfl
theorem ap_one {c m : St} {l e p w n : Int} (hl : 0 ≤ l ∧ l < 2) (hI : apI c) (hc : gm c 1 l 2 = e) (he : gm m 134 0 l = e) (he2 : 0 ≤ e ∧ e < 60) : ∃ c' m', FX1_append l p w n c = some (0, 0, c') ∧ FX12_adds 0 l p w n m = some (0, 0, m') ∧ apR l e p w n c m c' m' := by
  obtain ⟨i1, i2, i3⟩ := id hI
  have key : ∀ (s : St) (y : Int), 0 ≤ y → Kp [(2, none)] c s → (∀ a j, a ≠ y → gm s 2 a j = gm c 2 a j) → (∀ z k : Int, 0 ≤ z → z < 2 → 0 ≤ k → k < 60 → ¬ (z = l ∧ k = e) → gm c 28 z k ≠ y) → y < s.2 2 → (c.2 2 ≤ s.2 2 ∧ s.2 2 ≤ c.2 2 + 1 ∧ ∀ k, k ≠ 2 → s.2 k = c.2 k) → apR l e p w n c m (apS s l e y p w n) (apM m l e p w n) := by
    intro s y y0 hs hs2 hy hy2 hn
    have x28 : ∀ z k, gm (apS s l e y p w n) 28 z k = if z = l ∧ k = e then y else gm c 28 z k := fun z k => by
      rw [apS_at, hs.k (by decide)]; simp
    refine ⟨(hs.wk (by decide)).tr (apS_kp s l e y p w n), apM_kp m l e p w n, ⟨fun z k z0 z1 k0 k1 => ?_, fun z k z' k' z0 z1 k0 k1 z2 z3 k2 k3 hk hk2 => ?_, ?_⟩, hn, rfl, fun z => ?_, fun z => ?_, fun z k hz => ?_, ?_, fun z k f z0 z1 k0 k1 hz hk => ?_, ?_, fun k j k0 k1 hj => ?_⟩
    · rw [x28]
      have := i1 z k z0 z1 k0 k1
      show _ ∧ _ < s.2 2
      split <;> omega
    · rw [x28] at hk hk2
      rw [x28] at hk2
      by_cases e1 : z = l ∧ k = e
      · rw [if_pos e1] at hk2
        by_cases e2 : z' = l ∧ k' = e
        · omega
        · rw [if_neg e2] at hk2
          exact absurd hk2.symm (hy z' k' z2 z3 k2 k3 e2)
      · rw [if_neg e1] at hk hk2
        by_cases e2 : z' = l ∧ k' = e
        · rw [if_pos e2] at hk2
          exact absurd hk2 (hy z k z0 z1 k0 k1 e1)
        · rw [if_neg e2] at hk2
          exact i2 z k z' k' z0 z1 k0 k1 z2 z3 k2 k3 hk hk2
    · show 0 ≤ s.2 2
      omega
    · rw [apS_at, hs.k (by decide)]; simp
    · simp [apM, gm_pm]
    · rw [x28, if_neg hz]
    · rw [x28, if_pos ⟨rfl, rfl⟩]
      refine ⟨y0, ?_, ?_, ?_, ?_, ?_, ?_⟩ <;> rw [apS_at] <;> simp
    · have e1 := hy z k z0 z1 k0 k1 hz
      rw [apS_at]
      simp [e1]
      exact hs2 _ _ e1
    · simp [apM, gm_pm]
    · have hk : k ≠ 134 := by omega
      simp [apM, gm_pm, hj, hk]
  have eM := emAdds (p := p) (w := w) (n := n) hl he he2
  have w9 : wr (60 - 1) = 59 := by rw [wq (by omega) (by omega)]; omega
  have hr : 0 ≤ e ∧ e ≤ 59 := by omega
  by_cases h1 : gm c 28 l e = -1
  · have x1 : gm (alc 2 [] c) 1 l 2 = e := by rw [gm_alc2, if_neg (by omega)]; exact hc
    refine ⟨apS (alc 2 [] c) l e (c.2 2) p w n, _, ?_, eM, key _ _ i3 ?_ (fun a j ha => by rw [gm_alc2, if_neg (fun z => ha z.2)]) (fun z k z0 z1 k0 k1 hz => by have := (i1 z k z0 z1 k0 k1).2; omega) (by rw [alc2_2]; simp; omega) ⟨by rw [alc2_2]; simp; omega, by rw [alc2_2]; simp, fun k hk => by rw [alc2_2, if_neg hk]⟩⟩
    · simp only [FX1_append, fX1_append_0, fX1_append_19, fX1_append_41, fX1_append_50, hc, ecWithin, bnd_ok, w9, if_pos hr, if_neg (show ¬ (1 : Int) = 0 by omega), if_pos he2, if_pos h1, if_pos i3, FX2_set, fX2_set_0, z01, o01, if_true]
      simp [gm_pm, x1, he2, bnd_ok]
      rw [wq (by omega) (by omega)]
      rfl
    · intro k a j hh
      rw [gm_alc2, if_neg]
      rintro ⟨rfl, -⟩
      exact hh ⟨_, List.mem_singleton_self _, rfl, Or.inl rfl⟩
  · have y0 : 0 ≤ gm c 28 l e := by have := i1 l e hl.1 hl.2 he2.1 he2.2; omega
    refine ⟨apS c l e (gm c 28 l e) p w n, _, ?_, eM, key c _ y0 (Kp.rf _ _) (fun _ _ _ => rfl) (fun z k z0 z1 k0 k1 hz hk => hz (by have := i2 l e z k hl.1 hl.2 he2.1 he2.2 z0 z1 k0 k1 y0 hk.symm; omega)) (i1 l e hl.1 hl.2 he2.1 he2.2).2 ⟨Int.le_refl _, by omega, fun _ _ => rfl⟩⟩
    simp only [FX1_append, fX1_append_0, fX1_append_19, fX1_append_41, fX1_append_50, hc, ecWithin, bnd_ok, w9, if_pos hr, if_neg (show ¬ (1 : Int) = 0 by omega), if_pos he2, if_neg h1, if_pos y0, FX2_set, fX2_set_0, z01, o01, if_true]
    simp [gm_pm, hc, he2, bnd_ok]
    rw [wq (by omega) (by omega)]
    rfl
