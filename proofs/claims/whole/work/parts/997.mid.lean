/-! A march within a call, and the call. -/
theorem rl.toLin {t : Int} {c m : St} (h : rl t c m) {l : Int} (hl : 0 ≤ l ∧ l < 2) (h1 : gm m 130 0 l = 1) : lin t l c m := by
  obtain ⟨a1, a2, a3, a4, a5, a6, a7⟩ := h.hL.1 l hl.1 hl.2
  obtain ⟨-, b2, -⟩ := h.hO.2 l hl.1 hl.2
  obtain ⟨-, -, ⟨d1, -⟩, -⟩ := h.hC
  refine ⟨⟨h.hD, h.hR, h.hJ⟩, b2 (by omega), ⟨a2.1, by omega, a2.2.2⟩, d1, a4, fun k k' k0 k1 k2 k3 e => ?_, a5, a6 h1, (a7 (by omega)).1⟩
  exact (h.hL.2.2 l k l k' hl.1 hl.2 k0 (by omega) hl.1 hl.2 k2 (by omega) (a4 k k0 k1).1 e).2
theorem rl.toX {t : Int} {c m : St} (h : rl t c m) {l : Int} (hl : 0 ≤ l ∧ l < 2) (h1 : gm m 130 0 l = 1) : mvX t l (60 * t) (3600 * t) c m := by
  obtain ⟨a1, a2, a3, a4, a5, a6, a7⟩ := h.hL.1 l hl.1 hl.2
  exact ⟨h.toLin hl h1, fun i i0 i1 => (h.hK i i0 (by have := h.n; omega)).2 i1, (a3 (by omega)).1, (a7 (by omega)).2.2.2⟩
theorem rl.mid {t l B G : Int} {c m c' m' : St} (h : rl t c m) (hl : 0 ≤ l ∧ l < 2) (h1 : gm m 130 0 l = 1) (X : mvX t l B G c' m') (F : mvF l c m c' m') (hB : B ≤ 60 * (t + 1)) (hG : G ≤ 3600 * (t + 1)) : rl (t + 1) c' m' := by
  obtain ⟨⟨hc, hm, n1, n2⟩, f1, f2, f3, f4, f5, f6, f7, f8⟩ := F
  obtain ⟨H, X1, X2, X3⟩ := X
  obtain ⟨-, -, ⟨g1, g2, g3⟩, -, g7, -, g9, g10, g11⟩ := H
  refine rl.keep0 h hc hm n1 ?_ ?_ ?_ ?_ ?_ ?_ ?_ ?_ ?_ ?_ ?_ ?_ ?_ ?_ <;> first | exact fun e => absurd e (by decide) | intro _
  · have hL := h.hL.mono (show t ≤ t + 1 by omega)
    obtain ⟨L1, L2, L3⟩ := hL
    refine ⟨fun z z0 z1 => ?_, fun z k z0 z1 k0 k1 => by rw [hc.k (by decide), n1]; exact L2 z k z0 z1 k0 k1, fun z k z' k' q1 q2 q3 q4 q5 q6 q7 q8 q9 q10 => by
      rw [hc.k (by decide)] at q9 q10
      rw [hc.k (by decide)] at q10
      exact L3 z k z' k' q1 q2 q3 q4 q5 q6 q7 q8 q9 q10⟩
    obtain ⟨a1, a2, a3, a4, a5, a6, a7⟩ := L1 z z0 z1
    by_cases ez : z = l
    · subst ez
      refine ⟨?_, ⟨g1, by omega, g3⟩, fun _ => ?_, fun k k0 k1 => ⟨(g7 k k0 k1).1, (g7 k k0 k1).2.mono (by omega)⟩, g9, fun _ => g10, fun _ => ⟨g11, ?_, ?_, X3⟩⟩
      · rw [hc.f (show fre _ 1 6 = true by decide), hc.f (show fre _ 1 7 = true by decide), hm.k (show frk _ 130 = true by decide), hm.k (show frk _ 134 = true by decide), hm.k (show frk _ 126 = true by decide)]
        exact a1
      · obtain ⟨-, b2, b3⟩ := a3 (by omega)
        rw [hc.f (show fre _ 1 4 = true by decide), hc.f (show fre _ 1 5 = true by decide), hm.k (show frk _ 132 = true by decide), hm.k (show frk _ 133 = true by decide)]
        exact ⟨by omega, b2, b3⟩
      · have := (a7 (by omega)).2.1
        intro k k' j
        rw [hm.k (show frk _ 134 = true by decide), hm.k (show frk _ 135 = true by decide), hm.k (show frk _ 135 = true by decide), hm.k (show frk _ 135 = true by decide)]
        exact this k k' j
      · have := (a7 (by omega)).2.2.1
        intro i i0 i1 i2 i3
        rw [hm.k (by decide)] at i1 i2 i3
        obtain ⟨k, k0, k1, k2⟩ := this i i0 i1 i2 i3
        exact ⟨k, k0, by rw [hm.k (by decide)]; exact k1, by rw [hm.k (by decide)]; exact k2⟩
    · have u2 : ∀ k f : Int, 0 ≤ k → k < 60 → 0 ≤ gm c 28 z k → gm c' 2 (gm c 28 z k) f = gm c 2 (gm c 28 z k) f := fun k f k0 k1 hk => f4 _ f (fun k' q0 q1 q2 => by
        obtain ⟨-, y1, -⟩ := L1 l hl.1 hl.2
        have := (L3 z k l k' z0 z1 k0 k1 hl.1 hl.2 q0 (by omega) hk q2).1
        exact ez this)
      have mo : ∀ (n : Nat) (k : Int), (n = 138 ∨ n = 139 ∨ n = 140) → 0 ≤ k → k < 60 → gm m' n 0 (60 * z + k) = gm m n 0 (60 * z + k) := fun n k hn k0 k1 => by
        obtain ⟨y1, y2, y3⟩ := f5 (60 * z + k) (by omega)
        rcases hn with rfl | rfl | rfl
        · exact y1
        · exact y2
        · exact y3
      have u141 : ∀ k : Int, 0 ≤ k → k < 12 → gm m' 141 0 (12 * z + k) = gm m 141 0 (12 * z + k) := fun k k0 k1 => f6 _ (by omega)
      obtain ⟨-, -, rz, -⟩ := h.hR z z0 z1
      simp only [rlP] at a4 ⊢
      simp only [f1 z _ ez, f2 z _ ez, f3 z ez, hc.k (show frk _ 28 = true by decide), hm.k (show frk _ 12 = true by decide), hm.k (show frk _ 130 = true by decide), hm.k (show frk _ 132 = true by decide), hm.k (show frk _ 133 = true by decide), hm.k (show frk _ 134 = true by decide), hm.k (show frk _ 135 = true by decide), hm.k (show frk _ 136 = true by decide), hm.k (show frk _ 137 = true by decide), hm.k (show frk _ 126 = true by decide), hm.k (show frk _ 121 = true by decide), hm.k (show frk _ 122 = true by decide), hm.k (show frk _ 102 = true by decide), hm.k (show frk _ 124 = true by decide)]
      refine ⟨a1, a2, a3, fun k k0 k1 => ?_, fun k k0 k1 => ?_, fun w j j0 j1 => ?_, fun w => ?_⟩
      · have y := a4 k k0 k1
        rw [u2 k 0 k0 (by omega) y.1, u2 k 1 k0 (by omega) y.1, u2 k 2 k0 (by omega) y.1, u2 k 3 k0 (by omega) y.1, u2 k 4 k0 (by omega) y.1, u2 k 5 k0 (by omega) y.1, mo 138 k (by omega) k0 (by omega), mo 139 k (by omega) k0 (by omega), mo 140 k (by omega) k0 (by omega)]
        exact y
      · rw [u141 k k0 k1]; exact a5 k k0 k1
      · obtain ⟨-, y1, y2⟩ := rz j j0 j1
        rw [u141 _ y1 y2]; exact a6 w j j0 j1
      · obtain ⟨y1, y2, y3, y4⟩ := a7 w
        refine ⟨fun k k0 k1 k2 => ?_, y2, y3, fun k k0 k1 k2 => ?_⟩
        · rw [mo 138 (k + 1) (by omega) (by omega) (by omega)] at k2
          rw [mo 138 k (by omega) k0 (by omega)]
          exact y1 k k0 k1 k2
        · rw [mo 138 k (by omega) k0 (by omega)] at k2
          exact f7 _ (y4 k k0 k1 k2)
  · intro i i0 i1
    obtain ⟨a1, a2⟩ := h.hK i i0 i1
    refine ⟨fun hi => ?_, fun hi => ?_⟩
    · rw [hm.k (by decide)] at hi
      rw [f8 i hi]
      exact a1 hi
    · obtain ⟨⟨b1, b2, b3⟩, ⟨b4, b5, b6⟩, b7, b8, b9⟩ := X1 i i0 hi
      exact ⟨⟨b1, b2, by omega⟩, ⟨b4, b5, by omega⟩, b7, b8, by omega⟩
def enT : List (Nat × Option Int) := [(19, none), (20, none), (21, none), (5, some 4), (1, some 7)]
def enU : List (Nat × Option Int) := [(148, none), (149, none), (150, none), (147, none), (130, none)]
theorem rl.end {t : Int} (ht : t ≤ 1000) {c m : St} (h : rl t c m) {l : Int} (hl : 0 ≤ l ∧ l < 2) (h1 : gm m 130 0 l = 1) :
    ∃ c' m', FX1_end l c = some (0, 0, c') ∧ FX12_ends 0 l m = some (0, 0, m') ∧ rl t c' m' ∧ Kp enT c c' ∧ Kp enU m m' ∧ m'.2 = m.2 ∧ gm c' 1 l 7 = 1 ∧ gm m' 130 0 l = 2 := by
  have hn := h.n
  obtain ⟨a1, a2, a3, a4, a5, a6, a7⟩ := h.hL.1 l hl.1 hl.2
  obtain ⟨b1, b2, b3⟩ := a3 (by omega)
  obtain ⟨b4, b5, b6, b7⟩ := a7 (by omega)
  have H := h.toLin hl h1
  have kA : Kp [(1, some 7)] c (pm c 1 l 7 1) := Kp.pm (Kp.rf _ _) (Or.inr (by decide))
  have kA' : Kp [(130, none)] m (pm m 130 0 l 2) := Kp.pm (Kp.rf _ _) (Or.inl (by decide))
  have xA : ∀ z f, gm (pm c 1 l 7 1) 1 z f = if z = l ∧ f = 7 then 1 else gm c 1 z f := fun z f => by simp [gm_pm]
  have yA : ∀ z, gm (pm m 130 0 l 2) 130 0 z = if z = l then 2 else gm m 130 0 z := fun z => by simp [gm_pm]
  have nA : (pm c 1 l 7 1).2 = c.2 := rfl
  have nA' : (pm m 130 0 l 2).2 = m.2 := rfl
  have EC : FX1_end l c = fX1_end_7 (kX1_end 9999) l 0 (pm c 1 l 7 1) := by
    simp only [FX1_end, fX1_end_0, o01, or_true, true_or, if_true]
  have EM : FX12_ends 0 l m = fX12_ends_9 (kX12_ends 9999) 0 l 0 (pm m 130 0 l 2) := by
    simp only [FX12_ends, fX12_ends_0, if_pos hl]
  rw [EC, EM]
  generalize pm c 1 l 7 1 = cA at kA xA nA ⊢
  generalize pm m 130 0 l 2 = mA at kA' yA nA' ⊢
  have HA := H.kp kA (Kp.rf [] m) (by decide) (by rw [nA])
  -- nobody has a penalty yet
  have z0 : ∀ s : Int, 0 ≤ s → s < gm m 12 0 1 → gm m 102 0 s = l → gm m 147 0 s = 0 ∧ gm c 5 s 4 = 0 ∧ (gm c 6 s 12 = gm m 143 0 s ∧ -1 ≤ gm m 143 0 s ∧ gm m 143 0 s ≤ 400000) ∧ (gm c 6 s 13 = gm m 144 0 s ∧ -1 ≤ gm m 144 0 s ∧ gm m 144 0 s ≤ 400000) ∧ gm c 6 s 14 = gm m 145 0 s ∧ gm m 145 0 s ≤ 4000000 := fun s s0 s1 s2 => by
    obtain ⟨y1, -, -, y2⟩ := (h.hH s s0 (by omega)).2 s1
    obtain ⟨y3, y4, y5⟩ := (h.hK s s0 (by omega)).2 s1
    have y6 : gm m 147 0 s = 0 := by
      by_cases e : gm m 147 0 s = 0
      · exact e
      · have := (y2 e).2
        rw [s2] at this
        omega
    omega
  have own : ∀ s : Int, nwP (fun j => gm m 135 0 (60 * l + j)) (gm m 134 0 l) 0 s ↔ (0 ≤ s ∧ s < gm m 12 0 1 ∧ gm m 102 0 s = l ∧ ¬ gm m 124 0 s = 0) := fun s => by
    refine ⟨fun ⟨⟨j, j0, j1, j2⟩, _⟩ => ?_, fun ⟨s0, s1, s2, s3⟩ => ?_⟩
    · obtain ⟨-, ⟨-, y1, y2, y3⟩, -⟩ := a4 j j0 j1
      have j3 : gm m 135 0 (60 * l + j) = s := j2
      rw [j3] at y1 y2 y3
      omega
    · have := (h.hO.1 s s0 (by omega)).2.1
      obtain ⟨k, k0, k1, k2⟩ := b6 s s0 s1 s2 (by omega)
      exact ⟨⟨k, k0, k1, k2⟩, fun j j0 j1 => by omega⟩
  obtain ⟨c', g1, g2, g3⟩ := ecEnd_lp (t := t) (a := gm m 132 0 l) (b := gm m 133 0 l) hl rfl (by omega) (by omega) b5 (gm m 134 0 l).toNat 9999 0 cA HA (by rw [xA, if_neg (by omega)]; exact b2.1) (by rw [xA, if_neg (by omega)]; exact b3.1) (fun s hs => by
    obtain ⟨s0, s1, s2, s3⟩ := (own s).mp hs
    have := z0 s s0 s1 s2
    rw [kA.k (show frk _ 5 = true by decide), kA.k (show frk _ 6 = true by decide), kA.k (show frk _ 6 = true by decide)]
    omega) (by omega) (by omega) (by omega)
  have m12 : gm mA 12 0 1 = gm m 12 0 1 := kA'.k (by decide) _ _
  obtain ⟨m', f1, f2, f3⟩ := emEnd_lp (a := gm m 132 0 l) (b := gm m 133 0 l) hl (by omega) (by omega) (gm m 12 0 1).toNat 9999 0 mA (by rw [m12]; exact hn.2) (kA'.k (by decide) _ _) (kA'.k (by decide) _ _) (fun s s0 s1 s2 s3 => by
    rw [m12] at s1
    rw [kA'.k (by decide)] at s2 s3
    have := z0 s s0 s1 s2
    rw [kA'.k (show frk _ 147 = true by decide), kA'.k (show frk _ 143 = true by decide), kA'.k (show frk _ 144 = true by decide)]
    omega) (by omega) (by omega) (by rw [m12]; omega)
  have kc : Kp enT c c' := (kA.wk (by decide)).tr (g3.1.wk (by decide))
  have km : Kp enU m m' := (kA'.wk (by decide)).tr (f3.1.wk (by decide))
  have n1 : c'.2 = c.2 := g3.2.1.trans nA
  have x1 : ∀ z f, gm c' 1 z f = if z = l ∧ f = 7 then 1 else gm c 1 z f := fun z f => by rw [g3.1.k (by decide), xA]
  have y1 : ∀ z, gm m' 130 0 z = if z = l then 2 else gm m 130 0 z := fun z => by rw [f3.1.k (by decide), yA]
  refine ⟨c', m', g1, f1, ?_, kc, km, f3.2.1.trans nA', by rw [x1, if_pos ⟨rfl, rfl⟩], by rw [y1, if_pos rfl]⟩
  refine rl.keep h kc km (Int.le_refl _) (fun _ => by rw [n1]) (fun _ => by rw [n1]) (by rw [n1]; exact Int.le_refl _) (by rw [n1]; exact Int.le_refl _) (by unfold rlN; rw [n1]; exact h.hN) ?_ ?_ ?_ ?_ ?_ ?_ ?_ ?_ ?_ ?_ ?_ ?_ ?_ ?_ <;> first | exact fun e => absurd e (by decide) | intro _
  · have hL := h.hL
    simp only [rlL, rlP] at hL ⊢
    obtain ⟨h1', h2, h3⟩ := hL
    simp only [kc.k (show frk _ 28 = true by decide), n1]
    refine ⟨fun z w0 w1 => ?_, h2, h3⟩
    have A := h1' z w0 w1
    simp only [kc.k (show frk _ 2 = true by decide), kc.k (show frk _ 29 = true by decide), x1, y1, km.k (show frk _ 12 = true by decide), km.k (show frk _ 131 = true by decide), km.k (show frk _ 132 = true by decide), km.k (show frk _ 133 = true by decide), km.k (show frk _ 134 = true by decide), km.k (show frk _ 135 = true by decide), km.k (show frk _ 136 = true by decide), km.k (show frk _ 137 = true by decide), km.k (show frk _ 138 = true by decide), km.k (show frk _ 139 = true by decide), km.k (show frk _ 140 = true by decide), km.k (show frk _ 141 = true by decide), km.k (show frk _ 143 = true by decide), km.k (show frk _ 126 = true by decide), km.k (show frk _ 121 = true by decide), km.k (show frk _ 122 = true by decide), km.k (show frk _ 102 = true by decide), km.k (show frk _ 124 = true by decide)]
    by_cases ez : z = l
    · subst ez
      obtain ⟨q1, q2, q3, q4, q5, q6, q7⟩ := A
      rw [if_pos rfl, if_neg (show ¬ (z = z ∧ (6 : Int) = 7) by omega), if_pos ⟨rfl, trivial⟩, if_neg (show ¬ (z = z ∧ (2 : Int) = 7) by omega), if_neg (show ¬ (z = z ∧ (3 : Int) = 7) by omega), if_neg (show ¬ (z = z ∧ (4 : Int) = 7) by omega), if_neg (show ¬ (z = z ∧ (5 : Int) = 7) by omega)]
      exact ⟨by omega, q2, fun _ => q3 (by omega), q4, q5, fun y => by omega, fun _ => q7 (by omega)⟩
    · simp only [if_neg ez, if_neg (fun (y : z = l ∧ _) => ez y.1)]
      exact A
  · intro i i0 i1
    obtain ⟨q1, q2⟩ := h.hH i i0 i1
    have e102 : gm m' 102 0 i = gm m 102 0 i := km.k (by decide) _ _
    have e124 : gm m' 124 0 i = gm m 124 0 i := km.k (by decide) _ _
    have e12 : gm m' 12 0 1 = gm m 12 0 1 := km.k (by decide) _ _
    have e146 : ∀ j, gm m' 146 0 j = gm m 146 0 j := fun j => km.k (by decide) _ _
    have e18 : ∀ j, gm c' 18 i j = gm c 18 i j := fun j => kc.k (by decide) _ _
    rw [e12, e102, e124, y1]
    by_cases own1 : 0 ≤ i ∧ i < gm m 12 0 1 ∧ gm m 102 0 i = l ∧ ¬ gm m 124 0 i = 0
    · refine ⟨fun y => by omega, fun hi => ?_⟩
      obtain ⟨r1, r2, r3, r4⟩ := q2 hi
      have C := g2 i ((own i).mpr own1)
      have M := f2 i own1.1 (by rw [m12]; exact hi) (by rw [kA'.k (by decide)]; exact own1.2.2.1) (by rw [kA'.k (by decide)]; exact own1.2.2.2)
      rw [kA'.k (show frk _ 143 = true by decide), kA'.k (show frk _ 144 = true by decide), kA'.k (show frk _ 145 = true by decide)] at M
      rw [kA.k (show frk _ 6 = true by decide), kA.k (show frk _ 6 = true by decide), kA.k (show frk _ 6 = true by decide)] at C
      obtain ⟨-, -, ⟨s1, s2, s3⟩, ⟨s4, s5, s6⟩, s7, s8⟩ := z0 i i0 hi own1.2.2.1
      rw [s1, s4, s7] at C
      have tb : -1000000 ≤ tmV (gm m 143 0 i) (gm m 144 0 i) ∧ tmV (gm m 143 0 i) (gm m 144 0 i) ≤ 1000000 := by unfold tmV; split <;> omega
      have L3 := pnL_le (gm m 132 0 l) (gm m 133 0 l) (tmV (gm m 143 0 i) (gm m 144 0 i)) (gm m 145 0 i)
      have Lm := pnL_mem (a := gm m 132 0 l) (b := gm m 133 0 l) (tm := tmV (gm m 143 0 i) (gm m 144 0 i)) (g := gm m 145 0 i) (by omega) (by omega) tb s8
      generalize pnL (gm m 132 0 l) (gm m 133 0 l) (tmV (gm m 143 0 i) (gm m 144 0 i)) (gm m 145 0 i) = L at C M L3 Lm
      obtain ⟨C1, C2⟩ := C
      obtain ⟨M1, M2⟩ := M
      refine ⟨⟨by rw [C1, M1], by omega, by omega⟩, fun j j0 j1 => by rw [e18, e146]; exact r2 j j0 j1, fun k k0 k1 => ?_, fun _ => ⟨by have := (h.hO.1 i i0 i1).2.1; omega, by rw [if_pos own1.2.2.1]⟩⟩
      rw [M1] at k1
      obtain ⟨u1, u2, u3⟩ := C2 k.toNat (by omega)
      obtain ⟨v1, v2, v3⟩ := M2 k.toNat (by omega)
      have w := Lm k.toNat (by omega)
      have ek : ((k.toNat : Nat) : Int) = k := by omega
      rw [ek] at u1 u2 u3 v1 v2 v3
      rw [u1, u2, u3, v1, v2, v3]
      exact ⟨rfl, ⟨rfl, w⟩, rfl, Or.inl rfl⟩
    · obtain ⟨u1, u2⟩ := g3.2.2 i (fun y => own1 ((own i).mp y))
      obtain ⟨v1, v2⟩ := f3.2.2 i (fun y => own1 (by
        obtain ⟨y1, y2, y3, y4⟩ := y
        rw [m12] at y2
        rw [kA'.k (by decide)] at y3 y4
        exact ⟨y1, y2, y3, y4⟩))
      rw [kA.k (by decide)] at u1
      rw [kA'.k (by decide)] at v1
      rw [v1]
      refine ⟨fun hi => ?_, fun hi => ?_⟩
      · obtain ⟨r1, r2⟩ := q1 hi
        exact ⟨r1, fun j j0 j1 => by rw [e146]; exact r2 j j0 j1⟩
      · obtain ⟨r1, r2, r3, r4⟩ := q2 hi
        refine ⟨by rw [u1]; exact r1, fun j j0 j1 => by rw [e18, e146]; exact r2 j j0 j1, fun k k0 k1 => ?_, fun y => ?_⟩
        · obtain ⟨w1, w2, w3⟩ := u2 k
          obtain ⟨w4, w5, w6⟩ := v2 (20 * i + k) (by omega) (by omega)
          rw [w1, w2, w3, w4, w5, w6, kA.k (show frk _ 19 = true by decide), kA.k (show frk _ 20 = true by decide), kA.k (show frk _ 21 = true by decide), kA'.k (show frk _ 148 = true by decide), kA'.k (show frk _ 149 = true by decide), kA'.k (show frk _ 150 = true by decide)]
          exact r3 k k0 k1
        · obtain ⟨w1, w2⟩ := r4 y
          refine ⟨w1, ?_⟩
          split
          · rfl
          · exact w2
