/-! Grants are paid, league by league. -/
theorem emTabK {c m : St} {l e q : Int} (hl : 0 ≤ l ∧ l < 2) (C : rkC l c m) (T : tbI l e (gm m 12 0 1).toNat c m) (h2 : gm m 130 0 l = 2) (q0 : 0 ≤ q) (q1 : q < e) : FX12_tableAt 0 l q m = some (0, gm c 27 (2 * l + 1) q, m) := by
  have := emTableAt hl C.2.1 C.1.1 C.2.2 T q0
  rw [if_pos ⟨h2, q1⟩] at this
  exact this
theorem rkC.kpy {l : Int} {c c' m m' : St} (h : rkC l c m) (hc : Kp [(27, none), (4, some 1), (6, some 6), (0, some 5)] c c') (hm : Kp [(104, none), (129, none)] m m') (x : gm c' 0 l 5 = gm m' 129 0 l) : rkC l c' m' := by
  obtain ⟨⟨h1, h2, h3, h4, h5⟩, h6, h7⟩ := h
  refine ⟨⟨by rw [hm.k (by decide)]; exact h1, fun i i0 i1 => ?_, x, by rw [hc.f (by decide)]; exact h4, fun i i0 i1 => by rw [hc.k (by decide), hm.k (by decide)]; exact h5 i i0 i1⟩, h6.kp hc hm (by decide), by rw [hm.k (by decide)]; exact h7⟩
  rw [hm.k (by decide)] at i1
  rw [hc.f (show fre _ 6 0 = true by decide), hc.f (show fre _ 6 11 = true by decide), hc.f (show fre _ 6 5 = true by decide), hc.f (show fre _ 6 15 = true by decide), hm.k (show frk _ 125 = true by decide), hm.k (show frk _ 102 = true by decide), hm.k (show frk _ 124 = true by decide)]
  exact h2 i i0 i1
theorem pay_lp {l e : Int} (hl : 0 ≤ l ∧ l < 2) (he : 0 ≤ e ∧ e ≤ 10) : ∀ (d n : Nat) (i : Int) (c m : St), tbI l e (gm m 12 0 1).toNat c m → rkC l c m → gm m 126 0 l = e → gm m 130 0 l = 2 → (∀ s : Int, 0 ≤ s → s < gm m 12 0 1 → gm c 6 s 6 = gm m 104 0 s ∧ 0 ≤ gm m 104 0 s) → (∀ j : Int, i ≤ j → j < e → gm m 104 0 (gm c 27 (2 * l + 1) j) ≤ 1000000) → d < n → 0 ≤ i → i + d = e →
    ∃ c' m', fX0_settle_2 (kX0_settle n) l i c = fX0_settle_53 (kX0_settle (n - d)) l c' ∧ (∀ n2 a1 a2, fX12_endYear_126 (kX12_endYear (n2 + d)) 0 a1 a2 l i m = fX12_endYear_180 (kX12_endYear n2) 0 a1 a2 l m') ∧ Kp [(6, some 6)] c c' ∧ Kp [(104, none)] m m' ∧ c'.2 = c.2 ∧ m'.2 = m.2 ∧
      (∀ s : Int, 0 ≤ s → s < gm m 12 0 1 → gm c' 6 s 6 = gm m' 104 0 s ∧ gm m 104 0 s ≤ gm m' 104 0 s ∧ gm m' 104 0 s ≤ gm m 104 0 s + 1000) ∧ ∀ s : Int, (∀ j : Int, i ≤ j → j < e → gm c 27 (2 * l + 1) j ≠ s) → gm m' 104 0 s = gm m 104 0 s
  | 0, n, i, c, m, T, C, h1, h2, hM, hB, hn, i0, i1 => by
    obtain ⟨t1, -⟩ := T
    refine ⟨c, m, ?_, fun n2 a1 a2 => ?_, Kp.rf _ _, Kp.rf _ _, rfl, rfl, fun s s0 s1 => ?_, fun _ _ => rfl⟩
    · simp only [fX0_settle_2, t1]
      rw [if_neg (by omega)]
      rfl
    · simp only [fX12_endYear_126, if_pos hl, h1]
      rw [if_neg (by omega)]
      rfl
    · have := hM s s0 s1
      omega
  | d + 1, n, i, c, m, T, C, h1, h2, hM, hB, hn, i0, i1 => by
    obtain ⟨n, rfl⟩ : ∃ n', n = n' + 1 := ⟨n - 1, by omega⟩
    obtain ⟨t1, t2, t3, t4, t5, t6⟩ := id T
    have hn12 := C.1.1
    have ie : i < e := by omega
    obtain ⟨x1, x2, x3⟩ := t3 i i0 ie
    obtain ⟨s, es⟩ : ∃ s, gm c 27 (2 * l + 1) i = s := ⟨_, rfl⟩
    have et := emTabK hl C T h2 i0 ie
    rw [es] at x1 et
    obtain ⟨y1, y2⟩ := hM s x1.1 (by omega)
    have y3 := hB i (Int.le_refl _) ie
    rw [es] at y3
    have ea := ecAt (a0 := 2 * l + 1) (a1 := i) (s := c) (by omega) (by omega)
    rw [t1, if_pos ⟨i0, ie⟩, es] at ea
    have w1 : wr (i + 1) = i + 1 := wq (by omega) (by omega)
    have w2 : wr (gm m 104 0 s + wr (100 * wr (e - i))) = gm m 104 0 s + 100 * (e - i) := by rw [wq (z := e - i) (by omega) (by omega), wq (z := 100 * (e - i)) (by omega) (by omega), wq (by omega) (by omega)]
    have kc : Kp [(6, some 6)] c (pm c 6 s 6 (gm m 104 0 s + 100 * (e - i))) := Kp.pm (Kp.rf _ _) (Or.inr (by decide))
    have km : Kp [(104, none)] m (pm m 104 0 s (gm m 104 0 s + 100 * (e - i))) := Kp.pm (Kp.rf _ _) (Or.inl (by decide))
    have xc : ∀ z, gm (pm c 6 s 6 (gm m 104 0 s + 100 * (e - i))) 6 z 6 = if z = s then gm m 104 0 s + 100 * (e - i) else gm c 6 z 6 := fun z => by simp [gm_pm]
    have xm : ∀ z, gm (pm m 104 0 s (gm m 104 0 s + 100 * (e - i))) 104 0 z = if z = s then gm m 104 0 s + 100 * (e - i) else gm m 104 0 z := fun z => by simp [gm_pm]
    have n1 : (pm c 6 s 6 (gm m 104 0 s + 100 * (e - i))).2 = c.2 := rfl
    have n2' : (pm m 104 0 s (gm m 104 0 s + 100 * (e - i))).2 = m.2 := rfl
    have sc : fX0_settle_2 (kX0_settle (n + 1)) l i c = fX0_settle_2 (kX0_settle n) l (i + 1) (pm c 6 s 6 (gm m 104 0 s + 100 * (e - i))) := by
      generalize hR : fX0_settle_2 (kX0_settle n) l (i + 1) _ = R
      simp only [fX0_settle_2, fX0_settle_47, t1, ea, bnd_ok, y1, w2, w1, if_pos x1.1]
      rw [if_pos ie, if_neg (by omega), uX0_settle_2, hR]
    have sm' : ∀ n2 a1 a2, fX12_endYear_126 (kX12_endYear (n2 + 1)) 0 a1 a2 l i m = fX12_endYear_126 (kX12_endYear n2) 0 a1 a2 l (i + 1) (pm m 104 0 s (gm m 104 0 s + 100 * (e - i))) := fun n2 a1 a2 => by
      generalize hR : fX12_endYear_126 (kX12_endYear n2) 0 a1 a2 l (i + 1) _ = R
      simp only [fX12_endYear_126, if_pos hl, h1, if_pos ie, h2, if_true, et, bnd_ok, w2, w1]
      rw [if_pos (by omega), if_pos (by omega), uX12_endYear_126, hR]
    have C1 : rkC l (pm c 6 s 6 (gm m 104 0 s + 100 * (e - i))) (pm m 104 0 s (gm m 104 0 s + 100 * (e - i))) := C.kpy (kc.wk (by decide)) (km.wk (by decide)) C.1.2.2.1
    have T1 : tbI l e (gm (pm m 104 0 s (gm m 104 0 s + 100 * (e - i))) 12 0 1).toNat (pm c 6 s 6 (gm m 104 0 s + 100 * (e - i))) (pm m 104 0 s (gm m 104 0 s + 100 * (e - i))) := T.kp kc km (by decide) rfl (fun _ => rfl)
    have h1' : gm (pm m 104 0 s (gm m 104 0 s + 100 * (e - i))) 126 0 l = e := h1
    have h2' : gm (pm m 104 0 s (gm m 104 0 s + 100 * (e - i))) 130 0 l = 2 := h2
    have x12 : gm (pm m 104 0 s (gm m 104 0 s + 100 * (e - i))) 12 0 1 = gm m 12 0 1 := rfl
    have x27 : ∀ j, gm (pm c 6 s 6 (gm m 104 0 s + 100 * (e - i))) 27 (2 * l + 1) j = gm c 27 (2 * l + 1) j := fun j => rfl
    generalize pm c 6 s 6 (gm m 104 0 s + 100 * (e - i)) = c1 at kc xc n1 sc C1 T1 x27
    generalize pm m 104 0 s (gm m 104 0 s + 100 * (e - i)) = m1 at km xm n2' sm' C1 T1 h1' h2' x12
    have ns : ∀ j : Int, i + 1 ≤ j → j < e → gm c 27 (2 * l + 1) j ≠ s := fun j j0 j1 y => by
      have := t4 i j i0 (by omega) j1
      rw [es, y] at this
      omega
    obtain ⟨c2, m2, g1, g2, g3, g4, g5, g6, g7, g8⟩ := pay_lp hl he d n (i + 1) c1 m1 T1 C1 h1' h2' (fun z z0 z1 => by
      rw [x12] at z1
      rw [xc, xm]
      have := hM z z0 z1
      by_cases q : z = s
      · rw [if_pos q, if_pos q]
        omega
      · rw [if_neg q, if_neg q]
        exact this) (fun j j0 j1 => by
      rw [x27, xm, if_neg (ns j j0 j1)]
      exact hB j (by omega) j1) (by omega) (by omega) (by omega)
    refine ⟨c2, m2, by rw [sc, show n + 1 - (d + 1) = n - d by omega]; exact g1, fun n2 a1 a2 => ?_, kc.tr g3, km.tr g4, g5.trans n1, g6.trans n2', fun z z0 z1 => ?_, fun z hz => ?_⟩
    · rw [show n2 + (d + 1) = (n2 + d) + 1 by omega, sm', g2]
    · have q := g7 z z0 (by rw [x12]; exact z1)
      rw [xm] at q
      by_cases e1 : z = s
      · have q2 := g8 s (fun j j0 j1 => by rw [x27]; exact ns j j0 j1)
        rw [xm, if_pos rfl] at q2
        rw [if_pos e1] at q
        rw [e1] at q ⊢
        omega
      · rw [if_neg e1] at q
        exact q
    · rw [g8 z (fun j j0 j1 => by rw [x27]; exact hz j (by omega) j1), xm, if_neg (fun y => hz i (Int.le_refl _) ie (by rw [es, y]))]
def pyT : List (Nat × Option Int) := [(27, none), (4, some 1), (6, some 6), (0, some 5)]
def pyU : List (Nat × Option Int) := [(104, none), (129, none)]
def pyC (c m : St) : Prop := (∀ z : Int, 0 ≤ z → z < 2 → rkC z c m ∧ (0 ≤ gm m 126 0 z ∧ gm m 126 0 z ≤ 10) ∧ (gm c 1 z 7 = 0 ↔ gm m 130 0 z ≠ 2) ∧ gm c 14 0 z = z ∧ (gm m 130 0 z = 2 → 0 < gm m 126 0 z) ∧ ∀ (e : Int) (c2 : St), tbI z e (gm m 12 0 1).toNat c2 m → e = gm m 126 0 z) ∧ gm c 11 0 4 = gm m 12 0 51
theorem rl.pyC {t : Int} {c m : St} (h : rl t c m) : pyC c m := by
  refine ⟨fun z z0 z1 => ?_, h.hC.1.1⟩
  obtain ⟨L1, -⟩ := h.hL.1 z z0 z1
  obtain ⟨b1, -⟩ := h.hO.2 z z0 z1
  have hA := h.1.2.2.2
  refine ⟨h.rkC ⟨z0, z1⟩, b1.2, by omega, ?_, by omega, fun e c2 T => h.cnt ⟨z0, z1⟩ T⟩
  rcases (show z = 0 ∨ z = 1 by omega) with rfl | rfl
  · exact hA.1
  · exact hA.2.1
/-- a state of the class alone with the row of another: the row's facts of another memory -/
theorem pyC.kp {c c' m m' : St} (h : pyC c m) (hc : Kp pyT c c') (hm : Kp pyU m m') (x : ∀ z : Int, 0 ≤ z → z < 2 → gm c' 0 z 5 = gm m' 129 0 z) : pyC c' m' := by
  obtain ⟨h1, h2⟩ := h
  refine ⟨fun z z0 z1 => ?_, by rw [hc.k (by decide), hm.k (by decide)]; exact h2⟩
  obtain ⟨a1, a2, a3, a4, a5, a6⟩ := h1 z z0 z1
  refine ⟨a1.kpy hc hm (x z z0 z1), by rw [hm.k (by decide)]; exact a2, by rw [hc.k (by decide), hm.k (by decide)]; exact a3, by rw [hc.k (by decide)]; exact a4, by rw [hm.k (by decide), hm.k (by decide)]; exact a5, fun e c2 T => ?_⟩
  rw [hm.k (by decide)]
  have T' : tbI z e (gm m 12 0 1).toNat c2 m := by
    have hb : Kp pyU m' m := fun k n j hh => (hm k n j hh).symm
    have e12 : gm m' 12 0 1 = gm m 12 0 1 := hm.k (by decide) _ _
    rw [e12] at T
    exact T.kp (Kp.rf [] c2) hb (by decide) rfl (fun _ => rfl)
  exact a6 e c2 T'
theorem pay_one {l : Int} (hl : 0 ≤ l ∧ l < 2) {c m : St} (C : pyC c m) (hM : ∀ s : Int, 0 ≤ s → s < gm m 12 0 1 → gm c 6 s 6 = gm m 104 0 s ∧ 0 ≤ gm m 104 0 s) (hB : ∀ s : Int, 0 ≤ s → s < gm m 12 0 1 → gm m 102 0 s = l → gm m 104 0 s ≤ 1000000) :
    ∃ c' m', (∀ n, fX11_endYear_20 (kX11_endYear (n + 1)) 0 l c = fX11_endYear_20 (kX11_endYear n) 0 (l + 1) c') ∧ (∃ d : Nat, d ≤ 11 ∧ ∀ n a1 a2, fX12_endYear_118 (kX12_endYear (n + 1 + d)) 0 a1 a2 l m = fX12_endYear_118 (kX12_endYear n) 0 a1 a2 (l + 1) m') ∧ pyC c' m' ∧ Kp pyT c c' ∧ Kp pyU m m' ∧ c'.2 = c.2 ∧ m'.2 = m.2 ∧
      (∀ z j : Int, z ≠ 2 * l + 1 → gm c' 27 z j = gm c 27 z j ∧ gm c' 4 z 1 = gm c 4 z 1) ∧
      (∀ s : Int, 0 ≤ s → s < gm m 12 0 1 → gm c' 6 s 6 = gm m' 104 0 s ∧ gm m 104 0 s ≤ gm m' 104 0 s ∧ gm m' 104 0 s ≤ gm m 104 0 s + 1000) ∧ (∀ s : Int, (¬ (0 ≤ s ∧ s < gm m 12 0 1) ∨ gm m 102 0 s ≠ l) → gm m' 104 0 s = gm m 104 0 s) ∧ (gm m 130 0 l = 2 → tbI l (gm m 126 0 l) (gm m 12 0 1).toNat c' m') := by
  obtain ⟨a1, a2, a3, a4, a5, a6⟩ := C.1 l hl.1 hl.2
  have i1 : ¬ (1 : Int) = 0 := by omega
  have ln : ¬ l = -1 := by omega
  have w1 : wr (l + 1) = l + 1 := wq (by omega) (by omega)
  by_cases h2 : gm m 130 0 l = 2
  · have g7 : ¬ gm c 1 l 7 = 0 := fun y => a3.mp y h2
    obtain ⟨e, c1, b1, T, b3, b4, b5⟩ := ecRank hl a1
    have ee := a6 e c1 T
    obtain ⟨t1, t2, t3, t4, t5, t6⟩ := id T
    obtain ⟨c2, m2, f1, f2, f3, f4, f5, f6, f7, f8⟩ := pay_lp hl (show 0 ≤ e ∧ e ≤ 10 by omega) e.toNat 9999 0 c1 m T (a1.kp b3) ee.symm h2 (fun s s0 s1 => by rw [b3.k (by decide)]; exact hM s s0 s1) (fun j j0 j1 => by
      have := t3 j j0 j1
      exact hB _ this.1.1 (by omega) this.2.1.1) (by omega) (by omega) (by omega)
    have k2 : Kp pyT c c2 := (b3.wk (by decide)).tr (f3.wk (by decide))
    have k2' : Kp pyU m m2 := f4.wk (by decide)
    have e12 : gm m2 12 0 1 = gm m 12 0 1 := f4.k (by decide) _ _
    have T2 : tbI l e (gm m 12 0 1).toNat c2 m2 := T.kp f3 f4 (by decide) (f3.k (by decide) _ _) (fun j => f3.k (by decide) _ _)
    have C2 : rkC l c2 m2 := (a1.kp b3).kpy (f3.wk (by decide)) (f4.wk (by decide)) (by rw [f3.k (by decide), f4.k (by decide), b3.k (by decide)]; exact a1.1.2.2.1)
    have h2' : gm m2 130 0 l = 2 := by rw [f4.k (by decide)]; exact h2
    have et := emTabK hl C2 (by rw [e12]; exact T2) h2' (Int.le_refl 0) (by omega)
    obtain ⟨q1, q2, q3⟩ := t3 0 (by omega) (by omega)
    have r0 : gm c2 27 (2 * l + 1) 0 = gm c1 27 (2 * l + 1) 0 := f3.k (by decide) _ _
    rw [r0] at et
    have en := ecNumberAt (a0 := 2 * l + 1) (a1 := 0) (s := c2) (by rw [T2.1]; omega) (by rw [T2.1]; omega) (fun _ _ => by rw [r0]; exact q1.1)
    rw [T2.1, if_pos ⟨by omega, by omega⟩, r0, (C2.1.2.1 _ q1.1 (by rw [e12]; omega)).1] at en
    have st : FX0_settle l c1 = some (0, 0, pm c2 0 l 5 (gm c1 27 (2 * l + 1) 0)) := by
      simp only [FX0_settle, fX0_settle_0]
      rw [f1]
      simp only [fX0_settle_53, en, bnd_ok]
    have kc : Kp [(0, some 5)] c2 (pm c2 0 l 5 (gm c1 27 (2 * l + 1) 0)) := Kp.pm (Kp.rf _ _) (Or.inr (by decide))
    have km : Kp [(129, none)] m2 (pm m2 129 0 l (gm c1 27 (2 * l + 1) 0)) := Kp.pm (Kp.rf _ _) (Or.inl (by decide))
    have xc : ∀ z, gm (pm c2 0 l 5 (gm c1 27 (2 * l + 1) 0)) 0 z 5 = if z = l then gm c1 27 (2 * l + 1) 0 else gm c2 0 z 5 := fun z => by simp [gm_pm]
    have xm : ∀ z, gm (pm m2 129 0 l (gm c1 27 (2 * l + 1) 0)) 129 0 z = if z = l then gm c1 27 (2 * l + 1) 0 else gm m2 129 0 z := fun z => by simp [gm_pm]
    have K : Kp pyT c (pm c2 0 l 5 (gm c1 27 (2 * l + 1) 0)) := k2.tr (kc.wk (by decide))
    have K' : Kp pyU m (pm m2 129 0 l (gm c1 27 (2 * l + 1) 0)) := k2'.tr (km.wk (by decide))
    refine ⟨pm c2 0 l 5 (gm c1 27 (2 * l + 1) 0), pm m2 129 0 l (gm c1 27 (2 * l + 1) 0), fun n => ?_, ⟨e.toNat, by omega, fun n p1 p2 => ?_⟩, C.kp K K' (fun z z0 z1 => ?_), K, K', f5.trans b4, f6, fun z j hz => ?_, fun s s0 s1 => ?_, fun s hs => ?_, fun _ => ?_⟩
    · generalize hR : fX11_endYear_20 (kX11_endYear n) 0 (l + 1) _ = R
      have x14 : gm c1 14 0 l = l := by rw [b3.k (by decide)]; exact a4
      simp only [fX11_endYear_20, fX11_endYear_79, a4, if_neg ln, if_pos hl, if_pos hl.1, if_neg g7, C.2, b1, bnd_ok, x14, st, w1]
      rw [if_pos hl.2, uX11_endYear_20, hR]
    · rw [show n + 1 + e.toNat = (n + 1) + e.toNat from rfl]
      have s1 : fX12_endYear_118 (kX12_endYear (n + 1 + e.toNat)) 0 p1 p2 l m = fX12_endYear_126 (kX12_endYear (n + 1 + e.toNat)) 0 p1 p2 l 0 m := by
        simp only [fX12_endYear_118, if_pos hl.2]
      rw [s1, f2]
      generalize hR : fX12_endYear_118 (kX12_endYear n) 0 p1 p2 (l + 1) _ = R
      simp only [fX12_endYear_180, fX12_endYear_210, if_pos hl, h2', if_true, et, bnd_ok, w1]
      rw [uX12_endYear_118, hR]
    · rw [xc, xm]
      by_cases ez : z = l
      · rw [if_pos ez, if_pos ez]
      · rw [if_neg ez, if_neg ez, f3.k (by decide), f4.k (by decide), b3.k (by decide)]
        exact (C.1 z z0 z1).1.1.2.2.1
    · have := b5 z j hz
      rw [kc.k (by decide), kc.k (by decide), f3.k (by decide), f3.k (by decide)]
      exact this
    · rw [kc.k (by decide), km.k (by decide)]
      exact f7 s s0 s1
    · rw [km.k (by decide)]
      refine f8 s (fun j j0 j1 y => ?_)
      have := t3 j j0 j1
      rw [y] at this
      rcases hs with hs | hs
      · omega
      · exact hs this.2.1.1
    · rw [← ee]
      exact T2.kp kc km (by decide) (kc.k (by decide) _ _) (fun j => kc.k (by decide) _ _)
  · have g7 : gm c 1 l 7 = 0 := a3.mpr h2
    have e129 : pm m 129 0 l (gm m 129 0 l) = m := pm_self m 129 0 l
    refine ⟨c, m, fun n => ?_, ⟨0, by omega, fun n p1 p2 => ?_⟩, C, Kp.rf _ _, Kp.rf _ _, rfl, rfl, fun _ _ _ => ⟨rfl, rfl⟩, fun s s0 s1 => ?_, fun _ _ => rfl, fun y => absurd y h2⟩
    · generalize hR : fX11_endYear_20 (kX11_endYear n) 0 (l + 1) _ = R
      simp only [fX11_endYear_20, fX11_endYear_79, a4, if_neg ln, if_pos hl, if_pos hl.1, if_pos g7, w1]
      rw [if_pos hl.2, uX11_endYear_20, hR]
    · generalize hR : fX12_endYear_118 (kX12_endYear n) 0 p1 p2 (l + 1) _ = R
      simp only [fX12_endYear_118, fX12_endYear_126, fX12_endYear_180, fX12_endYear_204, fX12_endYear_210, if_pos hl, if_neg h2, ite_self, if_pos hl.2, e129, w1]
      rw [uX12_endYear_118, hR]
    · have := hM s s0 s1
      omega
