/-! A march begins. -/
theorem begs {t : Int} {c m : St} (h : rl t c m) {l a b : Int} (hl : 0 ≤ l ∧ l < 2) (h0 : gm m 130 0 l = 0) (h6 : gm m 126 0 l ≠ 0) (ha : 1 ≤ a ∧ a ≤ 200) (hb : 1 ≤ b ∧ b ≤ 200) : ∃ c' m' v, FX1_form l (2 * l) a b c = some (0, v, c') ∧ fX12_begin_77 (kX12_begin 9999) 0 l a b m = some (0, v, m') ∧ Kp [(2, none), (28, none), (29, none), (1, none)] c c' ∧ Kp [(130, none), (131, none), (132, none), (133, none), (141, none), (135, none), (136, none), (137, none), (138, none), (139, none), (140, none), (134, none)] m m' ∧ m'.2 = m.2 ∧ rl (t + 1) c' m' := by
  have hn := h.n
  obtain ⟨⟨b1, b2, b3⟩, b4, b5, b6, b7⟩ := h.hO.2 l hl.1 hl.2
  obtain ⟨-, N2, N3⟩ := id h.hL
  obtain ⟨c2, d1, d2, d3, d4⟩ := ecClr_lp (l := l) 12 9999 0 (pm (pm (pm (pm c 1 l 2 0) 1 l 3 0) 1 l 6 0) 1 l 7 0) (by omega) (by omega) (by omega)
  obtain ⟨m2, f1, f2, f3, f4⟩ := emClr_lp hl 12 0 (pm (pm (pm (pm (pm m 130 0 l 1) 131 0 l 0) 132 0 l a) 133 0 l b) 134 0 l 0) (by omega) (by omega)
  have kc3 : Kp [(29, none), (1, none)] c (pm (pm (pm c2 1 l 4 a) 1 l 5 b) 1 l 6 1) := (((Kp.pm (Kp.pm (Kp.pm (Kp.pm (T := [(29, none), (1, none)]) (Kp.rf _ c) (Or.inl (by decide))) (Or.inl (by decide))) (Or.inl (by decide))) (Or.inl (by decide))).tr (d2.wk (by decide))).pm (Or.inl (by decide)) |>.pm (Or.inl (by decide)) |>.pm (Or.inl (by decide)))
  have km2 : Kp [(130, none), (131, none), (132, none), (133, none), (134, none), (141, none)] m m2 := (Kp.pm (Kp.pm (Kp.pm (Kp.pm (Kp.pm (T := [(130, none), (131, none), (132, none), (133, none), (134, none), (141, none)]) (Kp.rf _ m) (Or.inl (by decide))) (Or.inl (by decide))) (Or.inl (by decide))) (Or.inl (by decide))) (Or.inl (by decide))).tr (f2.wk (by decide))
  have c1f : ∀ z f, gm (pm (pm (pm c2 1 l 4 a) 1 l 5 b) 1 l 6 1) 1 z f = if z = l ∧ f = 6 then 1 else if z = l ∧ f = 5 then b else if z = l ∧ f = 4 then a else if z = l ∧ f = 7 then 0 else if z = l ∧ f = 3 then 0 else if z = l ∧ f = 2 then 0 else gm c 1 z f := fun z f => by
    simp only [gm_pm, d2.k (show frk _ 1 = true by decide)]
    by_cases e : z = l
    · simp only [e, true_and]
      by_cases e6 : f = 6
      · simp [e6]
      · simp [e6]
    · simp [e]
  have c29 : ∀ z j, gm (pm (pm (pm c2 1 l 4 a) 1 l 5 b) 1 l 6 1) 29 z j = if z = l ∧ 0 ≤ j ∧ j < 12 then 0 else gm c 29 z j := fun z j => by
    simp only [gm_pm]
    simp
    rw [d4]
    simp [gm_pm]
  have cc : (pm (pm (pm c2 1 l 4 a) 1 l 5 b) 1 l 6 1).2 = c.2 := d3
  have m134 : ∀ z, gm m2 134 0 z = if z = l then 0 else gm m 134 0 z := fun z => by rw [f2.k (by decide)]; simp [gm_pm]
  have m130 : ∀ z, gm m2 130 0 z = if z = l then 1 else gm m 130 0 z := fun z => by rw [f2.k (by decide)]; simp [gm_pm]
  have m131 : ∀ z, gm m2 131 0 z = if z = l then 0 else gm m 131 0 z := fun z => by rw [f2.k (by decide)]; simp [gm_pm]
  have m132 : ∀ z, gm m2 132 0 z = if z = l then a else gm m 132 0 z := fun z => by rw [f2.k (by decide)]; simp [gm_pm]
  have m133 : ∀ z, gm m2 133 0 z = if z = l then b else gm m 133 0 z := fun z => by rw [f2.k (by decide)]; simp [gm_pm]
  have m141 : ∀ j, gm m2 141 0 j = if 12 * l ≤ j ∧ j < 12 * l + 12 then 0 else gm m 141 0 j := fun j => by rw [f4]; simp [gm_pm]
  have mm : m2.2 = m.2 := f3
  have EC : FX1_form l (2 * l) a b c = fX1_form_22 (kX1_form 9999) l (2 * l) 0 (pm (pm (pm c2 1 l 4 a) 1 l 5 b) 1 l 6 1) := by
    have e1 : FX1_clear l c = some (0, 0, c2) := by
      simp only [FX1_clear, fX1_clear_0, z01, o01, if_true]
      simpa using d1
    simp only [FX1_form, fX1_form_0, e1, bnd_ok]
    simp
  have EM : fX12_begin_77 (kX12_begin 9999) 0 l a b m = fX12_begin_144 (kX12_begin 9987) 0 l 0 m2 := by
    have e1 := f1 9987
    simp only [fX12_begin_77, if_pos hl]
    rw [e1]
    simp only [fX12_begin_141]
  rw [EC, EM]
  generalize pm (pm (pm c2 1 l 4 a) 1 l 5 b) 1 l 6 1 = c3 at kc3 c1f c29 cc ⊢
  have hI : apI c3 := by
    refine ⟨fun z k z0 z1 k0 k1 => ?_, fun z k z' k' z0 z1 k0 k1 z2 z3 k2 k3 q1 q2 => ?_, ?_⟩
    · rw [kc3.k (by decide), cc]; exact N2 z k z0 z1 k0 k1
    · rw [kc3.k (by decide)] at q1 q2
      rw [kc3.k (by decide)] at q2
      exact N3 z k z' k' z0 z1 k0 k1 z2 z3 k2 k3 q1 q2
    · rw [cc]; exact h.hN.1.1
  have hP : lnP l 0 c3 m2 := ⟨by rw [c1f]; simp, by rw [m134]; simp, hI, fun k k0 k1 => by omega⟩
  have hW : rwW l (gm m 126 0 l) c3 m2 := by
    refine ⟨by rw [kc3.k (by decide)]; exact b1, by rw [km2.k (by decide)], ⟨b2, b3⟩, fun k k' q0 q1 q2 q3 q4 => b6 k k' q0 q1 q2 q3 (by rw [km2.k (by decide), km2.k (by decide)] at q4; exact q4), fun k k0 k1 => ?_⟩
    obtain ⟨x1, x2, x3, x4⟩ := b5 k k0 k1
    rw [kc3.k (by decide), km2.k (by decide)]
    refine ⟨x1, by omega, ?_⟩
    obtain ⟨s1, s2, s3, s4⟩ := h.so x2.1 x2.2
    obtain ⟨w1, w2, w3⟩ := h.hW.1 _ x2.1 (by omega)
    obtain ⟨w3, w4⟩ := w3 x2.2
    have W : lnW (gm m 127 0 (10 * l + k)) c m := ⟨w3, w2, fun i i0 i1 => by
      obtain ⟨y1, y2⟩ := w4 i i0 i1
      have := y2 3 (by omega) (by omega)
      exact ⟨y1.1, this.1, this.2⟩, s2, s3⟩
    exact W.kp kc3 km2 (by decide) (by decide)
  obtain ⟨c', m', v, g1, g2, g3, g4, ⟨g5, g6⟩, g7⟩ := form_lp hl (gm m 126 0 l).toNat 9999 0 0 c3 m2 (by omega) (by omega) (by omega) hW hP ⟨by omega, by omega⟩ ⟨fun k k0 k1 => by omega, fun k k' r r' k0 k1 k2 => by omega, fun r r0 r1 => by omega⟩
  obtain ⟨G1, G2, ⟨G3, G4, G5⟩, G6, G7, G8, G9, G10, -⟩ := g4
  have kc : Kp [(2, none), (28, none), (29, none), (1, none)] c c' := (kc3.wk (by decide)).tr (G1.wk (by decide))
  have km : Kp [(130, none), (131, none), (132, none), (133, none), (141, none), (135, none), (136, none), (137, none), (138, none), (139, none), (140, none), (134, none)] m m' := (km2.wk (by decide)).tr (G2.wk (by decide))
  refine ⟨c', m', v, g1, ?_, kc, km, G6.trans mm, ?_⟩
  · obtain ⟨n2, hn2⟩ : ∃ n2, 9987 = n2 + 5 * (gm m 126 0 l).toNat := ⟨9987 - 5 * (gm m 126 0 l).toNat, by omega⟩
    rw [hn2]
    exact g2 n2
  · have hcn := h.hN
    have t0 : 0 ≤ t := by have := hcn.2.1; omega
    rw [cc] at G3 G4 G5
    refine rl.keep h kc km (by omega) (fun _ => G5 6 (by decide)) (fun _ => G5 8 (by decide)) (by rw [G5 10 (by decide)]; exact Int.le_refl _) G3 ⟨by have := hcn.1; omega, by rw [G5 10 (by decide)]; have := hcn.2.1; omega, by rw [G5 19 (by decide)]; have := hcn.2.2.1; omega, fun k => by
      by_cases e : k = 2
      · rw [e]; have := hcn.1; omega
      · rw [G5 k e]; exact hcn.2.2.2 k⟩ ?_ ?_ ?_ ?_ ?_ ?_ ?_ ?_ ?_ ?_ ?_ ?_ ?_ ?_ <;> first | exact fun e => absurd e (by decide) | intro _
    · have hL := h.hL.mono (show t ≤ t + 1 by omega)
      have p130 : ∀ z, gm m' 130 0 z = if z = l then 1 else gm m 130 0 z := fun z => by rw [G2.k (by decide)]; exact m130 z
      have p131 : ∀ z, gm m' 131 0 z = if z = l then 0 else gm m 131 0 z := fun z => by rw [G2.k (by decide)]; exact m131 z
      have p132 : ∀ z, gm m' 132 0 z = if z = l then a else gm m 132 0 z := fun z => by rw [G2.k (by decide)]; exact m132 z
      have p133 : ∀ z, gm m' 133 0 z = if z = l then b else gm m 133 0 z := fun z => by rw [G2.k (by decide)]; exact m133 z
      have p141 : ∀ j, gm m' 141 0 j = if 12 * l ≤ j ∧ j < 12 * l + 12 then 0 else gm m 141 0 j := fun j => by rw [G2.k (by decide)]; exact m141 j
      have q29 : ∀ z j, gm c' 29 z j = if z = l ∧ 0 ≤ j ∧ j < 12 then 0 else gm c 29 z j := fun z j => by rw [G1.k (by decide)]; exact c29 z j
      have q1 : ∀ z f, f ≠ 2 → gm c' 1 z f = gm c3 1 z f := fun z f hf => G1.f (by simp [fre]; omega) z
      have x127 : ∀ j, gm m' 127 0 j = gm m 127 0 j := fun j => km.k (by decide) _ _
      obtain ⟨P1, P2, ⟨P3, P4, -⟩, P5⟩ := g3
      obtain ⟨o1, o2, o3⟩ := g7
      have v0 : 0 < v := by
        obtain ⟨k, k0, -⟩ := o3 0 (by omega) (by omega)
        omega
      obtain ⟨-, -, r3, -⟩ := h.hR l hl.1 hl.2
      obtain ⟨L1, L2, L3⟩ := hL
      refine ⟨fun z z0 z1 => ?_, P3, P4⟩
      by_cases ez : z = l
      · subst ez
        have u : ∀ f, f ≠ 2 → gm c' 1 z f = if f = 6 then 1 else if f = 5 then b else if f = 4 then a else if f = 7 then 0 else if f = 3 then 0 else gm c 1 z f := fun f hf => by
          rw [q1 z f hf, c1f]; simp [hf]
        have own1 : ∀ k : Int, 0 ≤ k → k < v → ∃ r : Int, (0 ≤ r ∧ r < gm m 126 0 z) ∧ gm m' 135 0 (60 * z + k) = gm m 127 0 (10 * z + r) := fun k k0 k1 => by
          obtain ⟨r, e1, e2⟩ := o1 k k0 k1
          exact ⟨r, e1, by rw [e2, x127]⟩
        refine ⟨Or.inr (Or.inl ⟨by rw [p130]; simp, by rw [u 6 (by omega)]; simp, by rw [u 7 (by omega)]; simp, by rw [P2]; exact v0, by rw [km.k (by decide)]; omega⟩), ⟨by rw [P1, P2], by rw [P2]; omega, by rw [P2]; omega⟩, fun _ => ?_, fun k k0 k1 => ?_, fun k k0 k1 => ?_, fun _ j j0 j1 => ?_, fun _ => ⟨fun k k0 k1 k2 => ?_, fun k k' j k0 k1 k2 k3 k4 => ?_, fun i i0 i1 i2 i3 => ?_, fun k k0 k1 k2 => ?_⟩⟩
        · rw [p131, p132, p133, u 3 (by omega), u 4 (by omega), u 5 (by omega)]
          simp
          omega
        · rw [P2] at k1
          obtain ⟨y1, y2, y3, ⟨y4, y5⟩, ⟨y6, y7⟩, ⟨y8, y9⟩, y10, y11⟩ := P5 k k0 k1
          obtain ⟨r, e1, e2⟩ := own1 k k0 k1
          obtain ⟨-, x2, x3, x4⟩ := b5 r e1.1 e1.2
          refine ⟨y1, ⟨y2, ?_, ?_, ?_⟩, y3, ⟨by rw [y4, y5], by omega, by omega⟩, ⟨y6, y7⟩, ⟨by rw [y8, y9], by omega, by omega⟩, by rw [y10, y11], Or.inl y11⟩
          · rw [e2, km.k (show frk _ 12 = true by decide)]; exact x2
          · rw [e2, km.k (show frk _ 102 = true by decide)]; exact x3
          · rw [e2, km.k (show frk _ 124 = true by decide)]; exact x4
        · rw [q29, p141, if_pos ⟨rfl, k0, k1⟩, if_pos (by omega)]
          omega
        · rw [km.k (by decide)] at j1
          obtain ⟨-, y1, y2⟩ := r3 j j0 j1
          rw [km.k (by decide), q29, p141, if_pos ⟨rfl, y1, y2⟩, if_pos (by omega)]
        · rw [P2] at k1
          have := (P5 (k + 1) (by omega) k1).2.2.2.1.2
          omega
        · rw [P2] at k1
          obtain ⟨r, e1, e2⟩ := o1 k k0 (by omega)
          obtain ⟨r', e3, e4⟩ := o1 j (by omega) (by omega)
          have e5 := o2 k j r r' k0 k2 (by omega) e1.1 e1.2 e3.1 e3.2 e2 e4
          have e6 := o2 j k' r' r (by omega) k3 k1 e3.1 e3.2 e1.1 e1.2 e4 (by rw [← k4]; exact e2)
          rw [e4, e2, show r' = r by omega]
        · rw [km.k (by decide)] at i1 i2 i3
          obtain ⟨r, e1, e2, e3⟩ := b7 i i0 i1 i2 i3
          obtain ⟨k, e4, e5⟩ := o3 r e1 e2
          exact ⟨k, e4.1, by rw [P2]; exact e4.2, by rw [e5, x127]; exact e3⟩
        · rw [P2] at k1
          have := (P5 k k0 k1).2.2.2.1.2
          omega
      · have A := L1 z z0 z1
        have u : ∀ f, gm c' 1 z f = gm c 1 z f := fun f => by
          by_cases hf : f = 2
          · rw [hf, (G7 z ez).1, c1f, if_neg (fun w => ez w.1), if_neg (fun w => ez w.1), if_neg (fun w => ez w.1), if_neg (fun w => ez w.1), if_neg (fun w => ez w.1), if_neg (fun w => ez w.1)]
          · rw [q1 z f hf, c1f, if_neg (fun w => ez w.1), if_neg (fun w => ez w.1), if_neg (fun w => ez w.1), if_neg (fun w => ez w.1), if_neg (fun w => ez w.1), if_neg (fun w => ez w.1)]
        have u28 : ∀ k, gm c' 28 z k = gm c 28 z k := fun k => by rw [G8 z k ez, kc3.k (by decide)]
        have u29 : ∀ k, gm c' 29 z k = gm c 29 z k := fun k => by rw [q29, if_neg (fun w => ez w.1)]
        have u2 : ∀ k f : Int, 0 ≤ k → k < 60 → 0 ≤ gm c 28 z k → gm c' 2 (gm c 28 z k) f = gm c 2 (gm c 28 z k) f := fun k f k0 k1 hk => by
          have e1 := G9 z k f z0 z1 k0 k1 ez (by rw [kc3.k (by decide)]; exact hk)
          rw [kc3.k (by decide), kc3.k (by decide)] at e1
          exact e1
        have u134 : gm m' 134 0 z = gm m 134 0 z := by rw [(G7 z ez).2, m134, if_neg ez]
        have mo : ∀ (n : Nat) (k : Int), 135 ≤ n → n ≤ 140 → 0 ≤ k → k < 60 → gm m' n 0 (60 * z + k) = gm m n 0 (60 * z + k) := fun n k n0 n1 k0 k1 => by
          rw [G10 n (60 * z + k) n0 n1 (by omega)]
          exact km2.k (by simp [frk]; omega) _ _
        have u141 : ∀ k : Int, 0 ≤ k → k < 12 → gm m' 141 0 (12 * z + k) = gm m 141 0 (12 * z + k) := fun k k0 k1 => by rw [p141, if_neg (by omega)]
        obtain ⟨-, -, rz, -⟩ := h.hR z z0 z1
        simp only [u, u28, u29, u134, p130, p131, p132, p133, if_neg ez, rlP, km.k (show frk _ 12 = true by decide), km.k (show frk _ 126 = true by decide), km.k (show frk _ 121 = true by decide), km.k (show frk _ 122 = true by decide), km.k (show frk _ 102 = true by decide), km.k (show frk _ 124 = true by decide), km.k (show frk _ 143 = true by decide)] at A ⊢
        obtain ⟨a1, a2, a3, a4, a5, a6, a7⟩ := A
        refine ⟨a1, a2, a3, fun k k0 k1 => ?_, fun k k0 k1 => ?_, fun w j j0 j1 => ?_, fun w => ?_⟩
        · have y := a4 k k0 k1
          rw [u2 k 0 k0 (by omega) y.1, u2 k 1 k0 (by omega) y.1, u2 k 2 k0 (by omega) y.1, u2 k 3 k0 (by omega) y.1, u2 k 4 k0 (by omega) y.1, u2 k 5 k0 (by omega) y.1, mo 135 k (by omega) (by omega) k0 (by omega), mo 136 k (by omega) (by omega) k0 (by omega), mo 137 k (by omega) (by omega) k0 (by omega), mo 138 k (by omega) (by omega) k0 (by omega), mo 139 k (by omega) (by omega) k0 (by omega), mo 140 k (by omega) (by omega) k0 (by omega)]
          exact y
        · rw [u141 k k0 k1]; exact a5 k k0 k1
        · obtain ⟨-, y1, y2⟩ := rz j j0 j1
          rw [u141 _ y1 y2]; exact a6 w j j0 j1
        · obtain ⟨y1, y2, y3, y4⟩ := a7 w
          refine ⟨fun k k0 k1 k2 => ?_, fun k k' j k0 k1 k2 k3 k4 => ?_, fun i i0 i1 i2 i3 => ?_, fun k k0 k1 k2 => ?_⟩
          · rw [mo 138 (k + 1) (by omega) (by omega) (by omega) (by omega)] at k2
            rw [mo 138 k (by omega) (by omega) k0 (by omega)]
            exact y1 k k0 k1 k2
          · rw [mo 135 k (by omega) (by omega) k0 (by omega), mo 135 k' (by omega) (by omega) (by omega) (by omega)] at k4
            rw [mo 135 k (by omega) (by omega) k0 (by omega), mo 135 j (by omega) (by omega) (by omega) (by omega)]
            exact y2 k k' j k0 k1 k2 k3 k4
          · obtain ⟨k, e1, e2, e3⟩ := y3 i i0 i1 i2 i3
            exact ⟨k, e1, e2, by rw [mo 135 k (by omega) (by omega) e1 (by omega)]; exact e3⟩
          · rw [mo 138 k (by omega) (by omega) k0 (by omega)] at k2
            rw [mo 135 k (by omega) (by omega) k0 (by omega)]
            exact y4 k k0 k1 k2
    · intro i i0 i1
      obtain ⟨a1, a2⟩ := h.hH i i0 i1
      have p130 : ∀ z, gm m' 130 0 z = if z = l then 1 else gm m 130 0 z := fun z => by rw [G2.k (by decide)]; exact m130 z
      simp only [kc.k (show frk _ 5 = true by decide), kc.k (show frk _ 18 = true by decide), kc.k (show frk _ 19 = true by decide), kc.k (show frk _ 20 = true by decide), kc.k (show frk _ 21 = true by decide), km.k (show frk _ 12 = true by decide), km.k (show frk _ 146 = true by decide), km.k (show frk _ 147 = true by decide), km.k (show frk _ 148 = true by decide), km.k (show frk _ 149 = true by decide), km.k (show frk _ 150 = true by decide), km.k (show frk _ 124 = true by decide), km.k (show frk _ 102 = true by decide), p130]
      refine ⟨a1, fun i2 => ?_⟩
      obtain ⟨y1, y2, y3, y4⟩ := a2 i2
      refine ⟨y1, y2, y3, fun w => ?_⟩
      obtain ⟨y5, y6⟩ := y4 w
      refine ⟨y5, ?_⟩
      rw [if_neg (fun e => by rw [e] at y6; omega)]
      exact y6
