/-! A society is put into the line. -/
def lnP (l e : Int) (c m : St) : Prop := gm c 1 l 2 = e ∧ gm m 134 0 l = e ∧ apI c ∧ ∀ k : Int, 0 ≤ k → k < e → 0 ≤ gm c 28 l k ∧ gm c 2 (gm c 28 l k) 0 = gm m 135 0 (60 * l + k) ∧ gm c 2 (gm c 28 l k) 1 = gm m 136 0 (60 * l + k) ∧ (gm c 2 (gm c 28 l k) 2 = -1 ∧ gm m 138 0 (60 * l + k) = -1) ∧ (gm c 2 (gm c 28 l k) 3 = gm m 137 0 (60 * l + k) ∧ 1 ≤ gm m 137 0 (60 * l + k) ∧ gm m 137 0 (60 * l + k) ≤ 99) ∧ (gm c 2 (gm c 28 l k) 4 = 0 ∧ gm m 139 0 (60 * l + k) = 0) ∧ (gm c 2 (gm c 28 l k) 5 = 0 ∧ gm m 140 0 (60 * l + k) = 0)
def lnF (l e e' : Int) (c m c' m' : St) : Prop := Kp [(2, none), (28, none), (1, some 2)] c c' ∧ Kp [(135, none), (136, none), (137, none), (138, none), (139, none), (140, none), (134, none)] m m' ∧ (c.2 2 ≤ c'.2 2 ∧ c'.2 2 ≤ c.2 2 + (e' - e) ∧ ∀ k, k ≠ 2 → c'.2 k = c.2 k) ∧ m'.2 = m.2 ∧
  (∀ z : Int, z ≠ l → gm c' 1 z 2 = gm c 1 z 2 ∧ gm m' 134 0 z = gm m 134 0 z) ∧ (∀ z k : Int, z ≠ l → gm c' 28 z k = gm c 28 z k) ∧ (∀ z k f : Int, 0 ≤ z → z < 2 → 0 ≤ k → k < 60 → z ≠ l → 0 ≤ gm c 28 z k → gm c' 2 (gm c 28 z k) f = gm c 2 (gm c 28 z k) f) ∧
  (∀ (k : Nat) (j : Int), 135 ≤ k → k ≤ 140 → (j < 60 * l ∨ 60 * l + 60 ≤ j) → gm m' k 0 j = gm m k 0 j) ∧ ∀ k : Int, 0 ≤ k → k < e → gm m' 135 0 (60 * l + k) = gm m 135 0 (60 * l + k)
theorem lnF.rf (l e : Int) (c m : St) : lnF l e e c m c m := ⟨Kp.rf _ _, Kp.rf _ _, ⟨Int.le_refl _, by omega, fun _ _ => rfl⟩, rfl, fun _ _ => ⟨rfl, rfl⟩, fun _ _ _ => rfl, fun _ _ _ _ _ _ _ _ _ => rfl, fun _ _ _ _ _ => rfl, fun _ _ _ => rfl⟩
theorem lnF.tr {l e e1 e2 : Int} {c m c' m' c2 m2 : St} (h : lnF l e e1 c m c' m') (g : lnF l e1 e2 c' m' c2 m2) (he : e ≤ e1) : lnF l e e2 c m c2 m2 := by
  obtain ⟨h1, h2, ⟨h3, h4, h5⟩, h6, h7, h8, h9, h10, h11⟩ := h
  obtain ⟨g1, g2, ⟨g3, g4, g5⟩, g6, g7, g8, g9, g10, g11⟩ := g
  refine ⟨h1.tr g1, h2.tr g2, ⟨by omega, by omega, fun k hk => (g5 k hk).trans (h5 k hk)⟩, g6.trans h6, fun z hz => ⟨(g7 z hz).1.trans (h7 z hz).1, (g7 z hz).2.trans (h7 z hz).2⟩, fun z k hz => (g8 z k hz).trans (h8 z k hz), fun z k f z0 z1 k0 k1 hz hk => ?_, fun k j k0 k1 hj => (g10 k j k0 k1 hj).trans (h10 k j k0 k1 hj), fun k k0 k1 => (g11 k k0 (by omega)).trans (h11 k k0 k1)⟩
  have e1 := h8 z k hz
  have e2 := g9 z k f z0 z1 k0 k1 hz (by rw [e1]; exact hk)
  rw [e1] at e2
  rw [e2]
  exact h9 z k f z0 z1 k0 k1 hz hk
theorem lnF.ap {l e p w n : Int} {c m c' m' : St} (h : apR l e p w n c m c' m') (hl : 0 ≤ l ∧ l < 2) (he : 0 ≤ e ∧ e < 60) (hn : 1 ≤ n ∧ n ≤ 99) (g : lnP l e c m) : lnF l e (e + 1) c m c' m' ∧ lnP l (e + 1) c' m' ∧ gm m' 135 0 (60 * l + e) = p := by
  obtain ⟨h1, h2, h3, ⟨h4, h5, h6⟩, h7, h8, h9, h10, ⟨h11, h12, h13, h14, h15, h16, h17⟩, h18, ⟨m1, m2, m3, m4, m5, m6⟩, h19⟩ := h
  obtain ⟨g1, g2, g3, g4⟩ := g
  refine ⟨⟨h1, h2, ⟨h4, by omega, h6⟩, h7, fun z hz => ⟨by rw [h8, if_neg hz], by rw [h9, if_neg hz]⟩, fun z k hz => h10 z k (fun w => hz w.1), fun z k f z0 z1 k0 k1 hz hk => h18 z k f z0 z1 k0 k1 (fun w => hz w.1) hk, fun k j k0 k1 hj => h19 k j k0 k1 (by omega), fun k k0 k1 => h19 135 _ (by omega) (by omega) (by omega)⟩, ⟨by rw [h8, if_pos rfl], by rw [h9, if_pos rfl], h3, fun k k0 k1 => ?_⟩, m1⟩
  by_cases ek : k = e
  · subst ek
    rw [m1, m2, m3, m4, m5, m6]
    exact ⟨h11, h12, h13, ⟨h15, rfl⟩, ⟨h14, hn.1, hn.2⟩, ⟨h16, rfl⟩, ⟨h17, rfl⟩⟩
  · have k2 : k < e := by omega
    have q := g4 k k0 k2
    have z := fun f => h18 l k f hl.1 hl.2 k0 (by omega) (fun w => ek w.2) q.1
    have y := fun (a : Nat) (a0 : 135 ≤ a) (a1 : a ≤ 140) => h19 a (60 * l + k) a0 a1 (by omega)
    rw [h10 l k (fun w => ek w.2), z, z, z, z, z, z, y 135 (by omega) (by omega), y 136 (by omega) (by omega), y 137 (by omega) (by omega), y 138 (by omega) (by omega), y 139 (by omega) (by omega), y 140 (by omega) (by omega)]
    exact q
/-- what the line takes of a society -/
def lnW (p : Int) (c m : St) : Prop := gm c 6 p 10 = gm m 112 0 p ∧ (0 ≤ gm m 112 0 p ∧ gm m 112 0 p ≤ 3) ∧ (∀ k : Int, 0 ≤ k → k < gm m 112 0 p → 0 ≤ gm c 15 p k ∧ gm c 10 (gm c 15 p k) 3 = gm m 113 0 (12 * p + 4 * k + 3) ∧ 1 ≤ gm m 113 0 (12 * p + 4 * k + 3) ∧ gm m 113 0 (12 * p + 4 * k + 3) ≤ 99) ∧ gm c 6 p 1 = gm m 103 0 p ∧ 1 ≤ gm m 103 0 p ∧ gm m 103 0 p ≤ 200
theorem lnW.kp {T U : List (Nat × Option Int)} {p : Int} {c c' m m' : St} (h : lnW p c m) (hc : Kp T c c') (hm : Kp U m m') (d1 : (frk T 6 && frk T 15 && frk T 10) = true) (d2 : (frk U 112 && frk U 113 && frk U 103) = true) : lnW p c' m' := by
  simp only [Bool.and_eq_true] at d1 d2
  obtain ⟨⟨a1, a2⟩, a3⟩ := d1
  obtain ⟨⟨b1, b2⟩, b3⟩ := d2
  unfold lnW
  simp only [hc.k a1, hc.k a2, hc.k a3, hm.k b1, hm.k b2, hm.k b3]
  exact h
def wgl (m : St) (p : Int) : Int := min (gm m 103 0 p / 10 + 1) 9
theorem up_lp {l p r : Int} (hl : 0 ≤ l ∧ l < 2) (hp : 0 ≤ p ∧ p < 10) : ∀ (d n : Nat) (i e : Int) (c m : St), d < n → 0 ≤ i → i + d = gm m 112 0 p → lnW p c m → lnP l e c m → 0 ≤ e → e + 2 * d + (if gm m 112 0 p = 0 then 1 else 0) ≤ 60 →
    ∃ c' m' e', fX1_lineUp_2 (kX1_lineUp n) l p i c = some (0, 0, c') ∧ (∀ n2, fX12_begin_202 (kX12_begin (n2 + d)) 0 l r p (wgl m p) i m = fX12_begin_273 (kX12_begin n2) 0 l r m') ∧ lnP l e' c' m' ∧ lnF l e e' c m c' m' ∧ (e ≤ e' ∧ e' ≤ e + 2 * d + (if gm m 112 0 p = 0 then 1 else 0)) ∧ (0 < d ∨ gm m 112 0 p = 0 → e < e') ∧ ∀ k : Int, e ≤ k → k < e' → gm m' 135 0 (60 * l + k) = p
  | 0, n, i, e, c, m, hn, h0, hi, hW, hP, he, he2 => by
    obtain ⟨w1, ⟨w2, w3⟩, w4, w5, w6, w7⟩ := id hW
    by_cases hz : gm m 112 0 p = 0
    · rw [if_pos hz] at he2
      have ew := ecWing (a0 := p) (s := c) (by omega) (by omega)
      have hw : 1 ≤ wgl m p ∧ wgl m p ≤ 99 := by unfold wgl; omega
      obtain ⟨c1, m1, a1, a2, a3⟩ := ap_one (p := p) (w := -1) (n := wgl m p) hl hP.2.2.1 hP.1 hP.2.1 ⟨he, by omega⟩
      obtain ⟨a4, a5, a6⟩ := lnF.ap a3 hl ⟨he, by omega⟩ hw hP
      have ew2 : min (gm c 6 p 1 / 10 + 1) 9 = wgl m p := by unfold wgl; rw [w5]
      rw [ew2] at ew
      refine ⟨c1, m1, e + 1, ?_, fun n2 => ?_, a5, a4, by rw [if_pos hz]; omega, fun _ => by omega, fun k k0 k1 => by rw [show k = e by omega]; exact a6⟩
      · simp only [fX1_lineUp_2, fX1_lineUp_46, fX1_lineUp_63, w1]
        rw [if_pos hp.1, if_neg (by omega), if_pos hp.1, if_pos hz, if_pos hp.1, ew]
        simp only [bnd_ok, a1]
      · simp only [fX12_begin_202, fX12_begin_253]
        rw [if_pos hp, if_neg (by omega), if_pos hp, if_pos hz, a2]
        rfl
    · refine ⟨c, m, e, ?_, fun n2 => ?_, hP, lnF.rf l e c m, by rw [if_neg hz]; omega, fun w => by omega, fun k k0 k1 => by omega⟩
      · simp only [fX1_lineUp_2, fX1_lineUp_46, fX1_lineUp_63, w1]
        rw [if_pos hp.1, if_neg (by omega), if_pos hp.1, if_neg hz]
      · simp only [fX12_begin_202, fX12_begin_253]
        rw [if_pos hp, if_neg (by omega), if_pos hp, if_neg hz]
        rfl
  | d + 1, n, i, e, c, m, hn, h0, hi, hW, hP, he, he2 => by
    obtain ⟨n, rfl⟩ : ∃ n', n = n' + 1 := ⟨n - 1, by omega⟩
    obtain ⟨w1, ⟨w2, w3⟩, w4, w5, w6, w7⟩ := id hW
    obtain ⟨g1, g2, g3, g4⟩ := w4 i h0 (by omega)
    have hz : ¬ gm m 112 0 p = 0 := by omega
    rw [if_neg hz] at he2
    have hw : 1 ≤ wgl m p ∧ wgl m p ≤ 99 := by unfold wgl; omega
    obtain ⟨c1, m1, a1, a2, a3⟩ := ap_one (p := p) (w := i) (n := gm m 113 0 (12 * p + 4 * i + 3)) hl hP.2.2.1 hP.1 hP.2.1 ⟨he, by omega⟩
    obtain ⟨a4, a5, a6⟩ := lnF.ap a3 hl ⟨he, by omega⟩ ⟨g3, g4⟩ hP
    obtain ⟨c2, m2, b1, b2, b3⟩ := ap_one (p := p) (w := -1) (n := wgl m p) hl a5.2.2.1 a5.1 a5.2.1 ⟨by omega, by omega⟩
    obtain ⟨b4, b5, b6⟩ := lnF.ap b3 hl ⟨by omega, by omega⟩ hw a5
    have L := a4.tr b4 (by omega)
    have hW2 := hW.kp L.1 L.2.1 (by decide) (by decide)
    have x1 : gm m2 112 0 p = gm m 112 0 p := L.2.1.k (by decide) _ _
    have x2 : wgl m2 p = wgl m p := by unfold wgl; rw [L.2.1.k (by decide)]
    obtain ⟨c3, m3, e3, q1, q2, q3, q4, q5, q6, q7⟩ := up_lp (r := r) hl hp d n (i + 1) (e + 1 + 1) c2 m2 (by omega) (by omega) (by omega) hW2 b5 (by omega) (by rw [x1, if_neg hz]; omega)
    rw [x1] at q5 q6
    have ewg := ecWagonAt (a0 := p) (a1 := i) (s := c) (by omega) (by omega)
    rw [w1, if_pos (by omega)] at ewg
    have ew := ecWing (a0 := p) (s := c1) (by rw [a4.1.k (by decide)]; omega) (by rw [a4.1.k (by decide)]; omega)
    have ew2 : min (gm c1 6 p 1 / 10 + 1) 9 = wgl m p := by unfold wgl; rw [a4.1.k (by decide), w5]
    rw [ew2] at ew
    have wi : wr (i + 1) = i + 1 := wq (by omega) (by omega)
    refine ⟨c3, m3, e3, ?_, fun n2 => ?_, q3, L.tr q4 (by omega), ⟨by omega, ?_⟩, fun _ => by omega, fun k k0 k1 => ?_⟩
    · simp only [fX1_lineUp_2, fX1_lineUp_40, w1, ewg, bnd_ok, g2, a1, ew, b1, wi]
      rw [if_pos hp.1, if_pos (by omega), if_pos hp.1, if_neg (by omega), if_pos g1, if_pos hp.1, uX1_lineUp_2]
      exact q1
    · have q8 := q2 n2
      rw [x2] at q8
      have wa : wr (12 * p + 4 * i + 3) = 12 * p + 4 * i + 3 := wq (by omega) (by omega)
      rw [show n2 + (d + 1) = (n2 + d) + 1 from rfl]
      simp only [fX12_begin_202]
      rw [if_pos hp, if_pos (by omega), emAt (by omega) (by omega) (by omega) (by omega)]
      simp only [bnd_ok, wa, a2, b2, wi]
      rw [if_pos (by omega), uX12_begin_202]
      exact q8
    · have : gm m 112 0 p ≠ 0 := by omega
      rw [if_neg this] at q5 ⊢
      omega
    · by_cases k2 : k < e + 1 + 1
      · rw [q4.2.2.2.2.2.2.2.2 k (by omega) k2]
        by_cases k3 : k = e
        · rw [k3, b4.2.2.2.2.2.2.2.2 e he (by omega)]; exact a6
        · rw [show k = e + 1 by omega]; exact b6
      · exact q7 k (by omega) k1
