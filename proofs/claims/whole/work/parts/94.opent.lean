/-! A society enters. -/
theorem lets_lp {t : Int} {c m : St} (h : rl t c m) {p : Int} (h0 : 0 ≤ p) (h1 : p < gm m 12 0 1) : ∀ (d n n2 : Nat) (k : Int), d < n → d < n2 → 0 ≤ k → k + d = gm m 112 0 p →
    ∃ v : Int, (v = 0 ∨ v = 1) ∧ fX3_letsAll_2 (kX3_letsAll n) (gm m 102 0 p) p k c = some (0, if v = 1 ∧ 1 < gm m 121 0 (gm m 102 0 p) then 1 else 0, c) ∧ fX12_canEnter_44 (kX12_canEnter n2) 0 p 1 k m = some (0, v, m)
  | 0, n, n2, k, hn, hn2, hk, hd => by
    have hN := h.n
    obtain ⟨-, -, -, s5, s6⟩ := h.so h0 h1
    obtain ⟨w1, w2, w3⟩ := h.hW.1 p h0 (by omega)
    obtain ⟨w3, w4⟩ := w3 h1
    obtain ⟨⟨r1, -⟩, -⟩ := h.hR _ s6.1 s6.2
    refine ⟨1, Or.inr rfl, ?_, ?_⟩
    · simp only [fX3_letsAll_2, fX3_letsAll_36, fX3_letsAll_48, fX3_letsAll_49, z01, o01, if_true]
      rw [if_pos h0, w3, if_neg (by omega), r1]
      simp only [true_and]
      split <;> rfl
    · simp only [fX12_canEnter_44, fX12_canEnter_73, z01, o01, if_true]
      rw [if_pos (by omega), if_neg (by omega)]
      simp
  | d + 1, n, n2, k, hn, hn2, hk, hd => by
    obtain ⟨n, rfl⟩ : ∃ n', n = n' + 1 := ⟨n - 1, by omega⟩
    obtain ⟨n2, rfl⟩ : ∃ n', n2 = n' + 1 := ⟨n2 - 1, by omega⟩
    have hN := h.n
    obtain ⟨-, -, -, s5, s6⟩ := h.so h0 h1
    obtain ⟨w1, w2, w3⟩ := h.hW.1 p h0 (by omega)
    obtain ⟨w3, w4⟩ := w3 h1
    obtain ⟨g1, g2⟩ := w4 k hk (by omega)
    obtain ⟨f1, f2⟩ := h.fit h0 h1 hk (show k < gm m 112 0 p by omega)
    have ew := ecWagonAt (a0 := p) (a1 := k) (s := c) (by omega) (by omega)
    rw [w3, if_pos (by omega)] at ew
    have wk : wr (k + 1) = k + 1 := wq (by omega) (by omega)
    have fv : fitw c m p k = 0 ∨ fitw c m p k = 1 := fitv_01 c m _ _ _ _ _
    rcases fv with fv | fv
    · refine ⟨0, Or.inl rfl, ?_, ?_⟩
      · simp only [fX3_letsAll_2, fX3_letsAll_30, z01, o01, if_true, ew, bnd_ok]
        rw [if_pos h0, w3, if_pos (by omega), if_pos h0, if_neg (by omega), f1]
        simp only [bnd_ok]
        rw [if_pos fv]
        simp
      · simp only [fX12_canEnter_44]
        rw [if_pos (by omega), if_pos (by omega), if_neg (by omega), f2]
        simp only [bnd_ok, uX12_canEnter_44, fv]
        simp only [fX12_canEnter_44, fX12_canEnter_73, z01, o01, if_true]
        rw [if_pos (by omega)]
        split <;> rfl
    · obtain ⟨v, v1, v2, v3⟩ := lets_lp h h0 h1 d n n2 (k + 1) (by omega) (by omega) (by omega) (by omega)
      refine ⟨v, v1, ?_, ?_⟩
      · simp only [fX3_letsAll_2, fX3_letsAll_30, z01, o01, if_true, ew, bnd_ok]
        rw [if_pos h0, w3, if_pos (by omega), if_pos h0, if_neg (by omega), f1]
        simp only [bnd_ok]
        rw [if_neg (by omega), uX3_letsAll_2, wk]
        exact v2
      · simp only [fX12_canEnter_44]
        rw [if_pos (by omega), if_pos (by omega), if_neg (by omega), f2]
        simp only [bnd_ok, uX12_canEnter_44, fv, wk]
        exact v3
theorem rl.inC {t : Int} {c m : St} (h : rl t c m) {l : Int} (hl : 0 ≤ l ∧ l < 2) : inC l c m := by
  obtain ⟨⟨a1, a2, a3, a4⟩, b, d, e1, e2, e3, e4⟩ := id h.1
  obtain ⟨c1, c2, c3, c4, c5⟩ := h.hC
  refine ⟨⟨a2, a3⟩, fun i i0 i1 => ?_, ?_, ?_, b⟩
  · obtain ⟨s1, s2, s3, s4, s5⟩ := d i i0 i1
    obtain ⟨o1, o2, o3, o4, o5⟩ := h.hO.1 i i0 (by omega)
    exact ⟨s1, (o3 i1).2, o5, s4, (o3 i1).1, o2⟩
  · rcases (show l = 0 ∨ l = 1 by omega) with rfl | rfl
    · exact c4
    · exact c5
  · rcases (show l = 0 ∨ l = 1 by omega) with rfl | rfl
    · exact e3
    · exact e4
theorem canEnter {t : Int} {c m : St} (h : rl t c m) {p : Int} (h0 : 0 ≤ p) (h1 : p < gm m 12 0 1) : ∃ v : Int, (v = 0 ∨ v = 1) ∧ FX3_letsAll (gm m 102 0 p) p c = some (0, if v = 1 ∧ 1 < gm m 121 0 (gm m 102 0 p) then 1 else 0, c) ∧ FX12_canEnter 0 p m = some (0, if v = 1 ∧ gm m 124 0 p = 0 ∧ gm m 130 0 (gm m 102 0 p) = 0 ∧ 1 < gm m 121 0 (gm m 102 0 p) then 1 else 0, m) := by
  have hN := h.n
  obtain ⟨-, -, -, s5, s6⟩ := h.so h0 h1
  obtain ⟨w1, w2, w3⟩ := h.hW.1 p h0 (by omega)
  obtain ⟨v, v1, v2, v3⟩ := lets_lp h h0 h1 (gm m 112 0 p).toNat 9999 9999 0 (by omega) (by omega) (by omega) (by omega)
  refine ⟨v, v1, ?_, ?_⟩
  · simp only [FX3_letsAll, fX3_letsAll_0]
    exact v2
  · have z : fX12_canEnter_44 (kX12_canEnter 9999) 0 p 0 0 m = some (0, 0, m) := by
      simp only [fX12_canEnter_44, fX12_canEnter_73, z01, o01, if_true]
      rw [if_pos (by omega)]
      split <;> simp
    simp only [FX12_canEnter, fX12_canEnter_0, fX12_canEnter_39, fX12_canEnter_40, v3, z]
    rw [if_pos (by omega), if_pos (by omega)]
    by_cases c1 : gm m 124 0 p = 0
    · rw [if_pos c1, if_pos s6]
      by_cases c2 : gm m 130 0 (gm m 102 0 p) = 0
      · rw [if_pos c2, if_pos s6]
        by_cases c3 : 1 < gm m 121 0 (gm m 102 0 p)
        · rw [if_pos c3]
          rcases v1 with v1 | v1
          · rw [v1]; simp
          · rw [v1, if_pos ⟨rfl, c1, c2, c3⟩]
        · rw [if_neg c3, if_neg (fun w => c3 w.2.2.2)]
      · rw [if_neg c2, if_neg (fun w => c2 w.2.2.1)]
    · rw [if_neg c1, if_neg (fun w => c1 w.2.1)]
theorem rlL.en {t : Int} {p l : Int} {c m c' m' : St} (h : rlL t c m) (hc : Kp [(6, some 15), (6, some 11), (27, none), (4, some 1)] c c') (hm : Kp [(12, some 0), (124, none), (125, none), (127, none), (126, none)] m m') (n2 : c'.2 = c.2) (hl : gm m 102 0 p = l) (hz : gm m 130 0 l = 0) (e4 : ∀ i, gm m' 124 0 i = if i = p then 1 else gm m 124 0 i) (e6 : ∀ z, z ≠ l → gm m' 126 0 z = gm m 126 0 z) : rlL t c' m' := by
  simp only [rlL, rlP] at h ⊢
  obtain ⟨h1, h2, h3⟩ := h
  simp only [hc.k (show frk _ 28 = true by decide), n2]
  refine ⟨fun z z0 z1 => ?_, h2, h3⟩
  obtain ⟨a1, a2, a3, a4, a5, a6, a7⟩ := h1 z z0 z1
  have u := hm.f (k := 12) (j := 1) (by decide) 0
  simp only [hc.f (show fre _ 1 6 = true by decide), hc.f (show fre _ 1 7 = true by decide), hc.f (show fre _ 1 2 = true by decide), hc.f (show fre _ 1 3 = true by decide), hc.f (show fre _ 1 4 = true by decide), hc.f (show fre _ 1 5 = true by decide), hc.k (show frk _ 2 = true by decide), hc.k (show frk _ 29 = true by decide), u,
    hm.k (show frk _ 130 = true by decide), hm.k (show frk _ 134 = true by decide), hm.k (show frk _ 131 = true by decide), hm.k (show frk _ 132 = true by decide), hm.k (show frk _ 133 = true by decide), hm.k (show frk _ 135 = true by decide), hm.k (show frk _ 136 = true by decide), hm.k (show frk _ 137 = true by decide), hm.k (show frk _ 138 = true by decide), hm.k (show frk _ 139 = true by decide), hm.k (show frk _ 140 = true by decide), hm.k (show frk _ 141 = true by decide), hm.k (show frk _ 121 = true by decide), hm.k (show frk _ 122 = true by decide), hm.k (show frk _ 102 = true by decide), hm.k (show frk _ 143 = true by decide), e4]
  refine ⟨?_, a2, a3, fun k k0 k1 => ?_, a5, a6, fun w => ?_⟩
  · by_cases ez : z = l
    · subst ez
      exact Or.inl (by omega)
    · rw [e6 z ez]; exact a1
  · obtain ⟨b0, ⟨b1, b2, b3, b4⟩, b5⟩ := a4 k k0 k1
    exact ⟨b0, ⟨b1, b2, b3, by split <;> first | rfl | exact b4⟩, b5⟩
  · obtain ⟨b1, b2, b3, b4⟩ := a7 w
    refine ⟨b1, b2, fun i i0 i1 i2 i3 => ?_, b4⟩
    by_cases ei : i = p
    · subst ei
      exact absurd (i2 ▸ hl ▸ hz : gm m 130 0 z = 0) w
    · rw [if_neg ei] at i3
      exact b3 i i0 i1 i2 i3
theorem rlH.en {p : Int} {c m c' m' : St} (h : rlH c m) (hc : Kp [(6, some 15), (6, some 11), (27, none), (4, some 1)] c c') (hm : Kp [(12, some 0), (124, none), (125, none), (127, none), (126, none)] m m') (e4 : ∀ i, gm m' 124 0 i = if i = p then 1 else gm m 124 0 i) : rlH c' m' := by
  simp only [rlH] at h ⊢
  have u := hm.f (k := 12) (j := 1) (by decide) 0
  simp only [hc.f (show fre _ 5 4 = true by decide), hc.k (show frk _ 18 = true by decide), hc.k (show frk _ 19 = true by decide), hc.k (show frk _ 20 = true by decide), hc.k (show frk _ 21 = true by decide), u, hm.k (show frk _ 146 = true by decide), hm.k (show frk _ 147 = true by decide), hm.k (show frk _ 148 = true by decide), hm.k (show frk _ 149 = true by decide), hm.k (show frk _ 150 = true by decide), hm.k (show frk _ 130 = true by decide), hm.k (show frk _ 102 = true by decide), e4]
  intro i i0 i1
  obtain ⟨a1, a2⟩ := h i i0 i1
  refine ⟨a1, fun i2 => ?_⟩
  obtain ⟨b1, b2, b3, b4⟩ := a2 i2
  refine ⟨b1, b2, b3, fun w => ⟨?_, (b4 w).2⟩⟩
  split
  · rfl
  · exact (b4 w).1
theorem op_enter {t : Int} {c m : St} (h : rl t c m) (p a : Int) : Step t (cdn 3 1 2) c m (FX11_enter 0 p a c) (FX12_enter 0 p a m) := by
  have hn := h.n
  by_cases hp : 0 ≤ p ∧ p < gm m 12 0 1
  · have hp1 : ¬ p = -1 := by omega
    have hp9 : 0 ≤ p ∧ p < 10 := by omega
    obtain ⟨-, -, -, s5, s6⟩ := h.so hp.1 hp.2
    obtain ⟨l, hl⟩ : ∃ l, l = gm m 102 0 p := ⟨_, rfl⟩
    rw [← hl] at s5 s6
    have hl1 : ¬ l = -1 := by omega
    by_cases ha : 0 ≤ a ∧ a ≤ 99
    · obtain ⟨v, v1, v2, v3⟩ := canEnter h hp.1 hp.2
      obtain ⟨v', v1', -, v3'⟩ := canEnter (h.z 0) (p := p) hp.1 hp.2
      obtain ⟨o1, o2, o3, o4, o5⟩ := h.hO.1 p hp9.1 hp9.2
      obtain ⟨o3, o6⟩ := o3 hp.2
      obtain ⟨L1, L2⟩ := h.hL.1 l s6.1 s6.2
      have L3 : gm c 1 l 6 = 0 ↔ gm m 130 0 l = 0 := by omega
      rw [← hl] at v2 v3
      by_cases hc : v = 1 ∧ gm m 124 0 p = 0 ∧ gm m 130 0 l = 0 ∧ 1 < gm m 121 0 l
      · obtain ⟨hv, hc4, hc0, hc1⟩ := hc
        have k1 : Kp [(6, some 15), (6, some 11), (27, none), (4, some 1)] c (pm (pm c 6 p 15 1) 6 p 11 a) := Kp.pm (Kp.pm (Kp.rf _ _) (Or.inr (by decide))) (Or.inr (by decide))
        have k2 : Kp [(12, some 0), (124, none), (125, none), (127, none), (126, none)] m (pm (pm (pm m 12 0 0 0) 124 0 p 1) 125 0 p a) := Kp.pm (Kp.pm (Kp.pm (Kp.rf _ _) (Or.inr (by decide))) (Or.inl (by decide))) (Or.inl (by decide))
        have q1 : inC l (pm (pm c 6 p 15 1) 6 p 11 a) (pm (pm (pm m 12 0 0 0) 124 0 p 1) 125 0 p a) := by
          obtain ⟨i1, i2, i3, i4, i5⟩ := h.inC s6
          refine ⟨by rw [k2.f (by decide)]; exact i1, fun i i0 i1 => ?_, by rw [k1.k (by decide), k2.k (by decide)]; exact i3, by rw [k1.k (by decide)]; exact i4, fun i i0 i1 => by rw [k1.k (by decide), k2.f (by decide)]; exact i5 i i0 i1⟩
          rw [k2.f (by decide)] at i1
          have := i2 i i0 i1
          simp only [gm_pm]
          simp
          by_cases ei : i = p
          · simp [ei]
            rw [ei] at this
            exact ⟨this.1, by omega, this.2.2.2.1⟩
          · simp [ei]
            exact this
        have q2 : rlF (pm (pm c 6 p 15 1) 6 p 11 a) (pm (pm (pm m 12 0 0 0) 124 0 p 1) 125 0 p a) := h.hF.kp k1 k2 (by decide)
        obtain ⟨e, c', m', F1, F2, K1, K2, A1, A2, A3, A4, A5, A6, A7, A8, A9⟩ := finds s6 q1 q2
        have kc := k1.tr (K1.wk (by decide))
        have km := k2.tr (K2.wk (by decide))
        have nN : gm m' 12 0 1 = gm m 12 0 1 := km.f (by decide) 0
        have e4 : ∀ i, gm m' 124 0 i = if i = p then 1 else gm m 124 0 i := fun i => by rw [K2.k (by decide)]; simp [gm_pm]
        have e5 : ∀ i, gm m' 125 0 i = if i = p then a else gm m 125 0 i := fun i => by rw [K2.k (by decide)]; simp [gm_pm]
        have x15 : ∀ i, gm c' 6 i 15 = if i = p then 1 else gm c 6 i 15 := fun i => by rw [K1.k (by decide)]; simp [gm_pm]
        have x11 : ∀ i, gm c' 6 i 11 = if i = p then a else gm c 6 i 11 := fun i => by rw [K1.k (by decide)]; simp [gm_pm]
        have up : gm c 11 0 5 = gm m 12 0 28 := h.hC.2.1
        refine Step.ok (v := e) (c' := c') (m' := m') ?_ ?_ kc km (by decide) (by decide) (by rw [K2.f (by decide)]; simp [gm_pm]) A9 ?_
        · have u15 : gm c 6 p 15 = 0 := by omega
          have u6 : gm c 1 l 6 = 0 := L3.mpr hc0
          have v4 := v2
          rw [if_pos ⟨hv, hc1⟩] at v4
          have up2 : gm (pm (pm c 6 p 15 1) 6 p 11 a) 11 0 5 = gm (pm (pm (pm m 12 0 0 0) 124 0 p 1) 125 0 p a) 12 0 28 := by simp [gm_pm, up]
          have r4 : gm c' 4 (2 * l) 1 = e := A5.1
          simp only [FX11_enter, fX11_enter_0, fX11_enter_20, fX11_enter_40, fX11_enter_85, fX11_enter_96, h.soc, ecWithin, bnd_ok, if_pos hp, if_neg hp1, if_pos ha, if_pos hp.1, s5, h.lea, if_pos s6, if_neg hl1, u15, if_pos s6.1, u6, v4, z01, o01, up2, F1, r4, if_true]
          simp
        · have v4 := v3
          rw [if_pos ⟨hv, hc4, hc0, hc1⟩] at v4
          have h02 : gm m' 102 0 p = l := by rw [km.k (by decide)]; exact hl.symm
          have h03 : gm (pm (pm (pm m 12 0 0 0) 124 0 p 1) 125 0 p a) 102 0 p = l := by simp [gm_pm]; exact hl.symm
          simp only [FX12_enter, fX12_enter_0, fX12_enter_15, fX12_enter_29, fX12_enter_41, fX12_enter_42, fX12_enter_50, h.isS, emIn, emHolds, bnd_ok, if_pos hp, if_pos ha, v4, if_neg (show ¬ (1 : Int) = 0 by omega), if_pos hp9, z01, o01, if_true, h03, F2, h02, if_pos s6, A4]
          simp [hp9]
        · refine rl.keep0 h kc km A8 ?_ ?_ ?_ ?_ ?_ ?_ ?_ ?_ ?_ ?_ ?_ ?_ ?_ ?_ <;> first | exact fun e => absurd e (by decide) | intro _
          · refine ⟨fun i i0 i1 => ?_, fun z z0 z1 => ?_⟩
            · obtain ⟨b1, b2, b3, b4, b5⟩ := h.hO.1 i i0 i1
              rw [nN, e4, e5, x15, x11]
              by_cases ei : i = p
              · rw [if_pos ei, if_pos ei, if_pos ei, if_pos ei]
                exact ⟨fun w => by omega, Or.inr rfl, fun _ => ⟨rfl, rfl⟩, fun w => by omega, ha⟩
              · rw [if_neg ei, if_neg ei, if_neg ei, if_neg ei]
                exact ⟨b1, b2, b3, b4, b5⟩
            · rw [nN]
              by_cases ez : z = l
              · subst ez
                have r6 : ∀ q, mem m' z e q ↔ (0 ≤ q ∧ q < gm m 12 0 1) ∧ gm m 102 0 q = z ∧ gm m' 124 0 q = 1 := fun q => by
                  rw [A7 q, k2.f (by decide), k2.k (by decide), K2.k (by decide)]
                obtain ⟨R1, R2, R3⟩ := A5
                rw [nN] at R3
                refine ⟨by rw [A4]; exact ⟨R1, R2⟩, fun _ => by rw [km.k (by decide)]; omega, fun k k0 k1 => ?_, fun k k' k0 k1 k2 k3 => ?_, fun i i0 i1 i2 i3 => ?_⟩
                · rw [A4] at k1
                  obtain ⟨y1, y2⟩ := R3 k k0 k1
                  obtain ⟨y3, y4, y5⟩ := (r6 _).mp ⟨k, k0, k1, rfl⟩
                  exact ⟨y1, y2, by rw [km.k (by decide)]; exact y4, y5⟩
                · rw [A4] at k1 k3
                  exact A6 k k' k0 k1 k2 k3
                · rw [km.k (by decide)] at i2
                  rw [A4]
                  exact (r6 i).mpr ⟨⟨i0, i1⟩, i2, i3⟩
              · obtain ⟨b1, b2, b3, b4, b5⟩ := h.hO.2 z z0 z1
                have y1 := fun i => (A1 (2 * z) i (by omega))
                have y2 : ∀ k : Int, 0 ≤ k → k < gm m 126 0 z → gm m' 127 0 (10 * z + k) = gm m 127 0 (10 * z + k) := fun k k0 k1 => by
                  rw [A2 (10 * z + k) (by omega)]; simp [gm_pm]
                have y3 : gm m' 126 0 z = gm m 126 0 z := by rw [A3 z ez]; simp [gm_pm]
                have y4 : gm c' 4 (2 * z) 1 = gm c 4 (2 * z) 1 := by rw [(y1 0).2]; simp [gm_pm]
                have y5 : ∀ k, gm c' 27 (2 * z) k = gm c 27 (2 * z) k := fun k => by rw [(y1 k).1]; simp [gm_pm]
                rw [y3, y4, km.k (by decide)]
                refine ⟨b1, b2, fun k k0 k1 => ?_, fun k k' k0 k1 k2 k3 => ?_, fun i i0 i1 i2 i3 => ?_⟩
                · obtain ⟨d1, d2, d3, d4⟩ := b3 k k0 k1
                  rw [y2 k k0 k1, y5, km.k (by decide), e4]
                  exact ⟨d1, d2, d3, by rw [d4]; split <;> rfl⟩
                · rw [y2 k k0 k1, y2 k' k2 k3]
                  exact b4 k k' k0 k1 k2 k3
                · rw [km.k (by decide)] at i2
                  rw [e4, if_neg (fun w => ez (by rw [← i2, w]; exact hl.symm))] at i3
                  obtain ⟨k, d1, d2, d3⟩ := b5 i i0 i1 i2 i3
                  exact ⟨k, d1, d2, by rw [y2 k d1 d2]; exact d3⟩
          · exact (h.hL.en kc km A8 hl.symm hc0 e4 (fun z hz => by rw [A3 z hz]; simp [gm_pm])).mono (by omega)
          · exact h.hH.en kc km e4
      · refine Step.thr h (o := 2) (v := 0) (x := 0) (k := 3) (by decide) ?_ ?_ rfl
        · by_cases d1 : gm m 124 0 p = 0
          · have u15 : gm c 6 p 15 = 0 := by omega
            by_cases d2 : gm m 130 0 l = 0
            · have u6 : gm c 1 l 6 = 0 := L3.mpr d2
              have v4 := v2
              rw [if_neg (fun w => hc ⟨w.1, d1, d2, w.2⟩)] at v4
              simp only [FX11_enter, fX11_enter_0, fX11_enter_20, fX11_enter_40, fX11_enter_85, fX11_enter_96, h.soc, ecWithin, bnd_ok, if_pos hp, if_neg hp1, if_pos ha, if_pos hp.1, s5, h.lea, if_pos s6, if_neg hl1, u15, if_pos s6.1, u6, v4, if_true]
              simp
            · have u6 : ¬ gm c 1 l 6 = 0 := fun w => d2 (L3.mp w)
              simp only [FX11_enter, fX11_enter_0, fX11_enter_20, fX11_enter_40, fX11_enter_85, fX11_enter_96, h.soc, ecWithin, bnd_ok, if_pos hp, if_neg hp1, if_pos ha, if_pos hp.1, s5, h.lea, if_pos s6, if_neg hl1, u15, if_pos s6.1, if_neg u6, if_true]
              simp
          · have u15 : ¬ gm c 6 p 15 = 0 := by omega
            simp only [FX11_enter, fX11_enter_0, fX11_enter_20, fX11_enter_40, fX11_enter_85, fX11_enter_96, h.soc, ecWithin, bnd_ok, if_pos hp, if_neg hp1, if_pos ha, if_pos hp.1, s5, h.lea, if_pos s6, if_neg hl1, if_neg u15]
            simp
        · have v4 := v3
          rw [if_neg hc] at v4
          simp only [FX12_enter, fX12_enter_0, fX12_enter_15, fX12_enter_29, fX12_enter_41, fX12_enter_42, fX12_enter_50, h.isS, emIn, emHolds, bnd_ok, if_pos hp, if_pos ha, v4, if_true]
          simp
    · refine Step.thr h (o := 1) (v := 0) (x := 0) (k := 2) (by decide) ?_ ?_ rfl
      · simp only [FX11_enter, fX11_enter_0, fX11_enter_20, fX11_enter_40, fX11_enter_85, fX11_enter_96, h.soc, ecWithin, bnd_ok, if_pos hp, if_neg hp1, if_neg ha]
        simp
      · simp only [FX12_enter, fX12_enter_0, fX12_enter_15, fX12_enter_29, fX12_enter_41, fX12_enter_42, fX12_enter_50, h.isS, emHolds, emIn, bnd_ok, if_pos hp, if_neg ha]
        simp
  · refine Step.thr h (o := 3) (v := 0) (x := 0) (k := 1) (by decide) ?_ ?_ rfl
    · simp only [FX11_enter, fX11_enter_0, fX11_enter_20, fX11_enter_40, fX11_enter_85, fX11_enter_96, h.soc, bnd_ok, if_neg hp]
      simp
    · simp only [FX12_enter, fX12_enter_0, fX12_enter_15, fX12_enter_29, fX12_enter_41, fX12_enter_42, fX12_enter_50, h.isS, emHolds, bnd_ok, if_neg hp]
      simp
