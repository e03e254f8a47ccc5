/-! A year ends: all of it. -/
def eyT : List (Nat × Option Int) := [(27, none), (4, some 1), (6, some 6), (0, some 5), (6, some 5), (11, some 5), (7, some 2), (7, some 3), (18, none), (5, some 4), (6, some 8), (6, some 9), (6, some 10), (6, some 11), (6, some 12), (6, some 13), (6, some 14), (6, some 15), (1, some 2), (1, some 3), (1, some 6), (1, some 7), (29, none)]
def eyU : List (Nat × Option Int) := [(12, some 28), (104, none), (129, none), (102, none), (106, none), (108, none), (109, none), (110, none), (112, none), (124, none), (125, none), (147, none), (143, none), (144, none), (145, none), (146, none), (130, none), (126, none), (134, none)]
theorem Kp.sy {T : List (Nat × Option Int)} {s s' : St} (h : Kp T s s') : Kp T s' s := fun k n j hh => (h k n j hh).symm
theorem pyC.v {c m m' : St} (h : pyC c m) (hm : Kp [(12, some 28)] m m') : pyC c m' := by
  obtain ⟨h1, h2⟩ := h
  refine ⟨fun z z0 z1 => ?_, by rw [hm.f (by decide)]; exact h2⟩
  obtain ⟨⟨b1, b2, b3⟩, a2, a3, a4, a5, a6⟩ := h1 z z0 z1
  refine ⟨⟨?_, b2.kp (Kp.rf [] c) hm (by decide), by rw [hm.f (by decide)]; exact b3⟩, by rw [hm.k (by decide)]; exact a2, by rw [hm.k (by decide)]; exact a3, a4, by rw [hm.k (by decide), hm.k (by decide)]; exact a5, fun e c2 T => ?_⟩
  · exact b1.kp (Kp.rf [] c) hm (by decide) (by decide)
  · rw [hm.k (by decide)]
    have e12 : gm m' 12 0 1 = gm m 12 0 1 := hm.f (by decide) _
    rw [e12] at T
    exact a6 e c2 (T.kp (Kp.rf [] c2) hm.sy (by decide) rfl (fun _ => rfl))
theorem some_v {v v' : Int} {s : St} (h : (some (0, v, s) : Res) = some (0, v', s)) : v = v' := by
  injection h with h
  injection h with _ h
  injection h
theorem endY {t : Int} (ht : 0 ≤ t ∧ t ≤ 900) {c m : St} (h : rl t c m) (P : yrP m) : ∃ c' m' v, fX11_endYear_20 (kX11_endYear 9999) 0 0 c = some (0, v, c') ∧ fX12_endYear_50 (kX12_endYear 9999) 0 m = some (0, v, m') ∧ rl (t + 1) c' m' ∧ Kp eyT c c' ∧ Kp eyU m m' ∧ m'.2 = m.2 := by
  have hn := h.n
  have hl0 : (0 : Int) ≤ 0 ∧ (0 : Int) < 2 := by omega
  have hl1 : (0 : Int) ≤ 1 ∧ (1 : Int) < 2 := by omega
  have i1 : ¬ (1 : Int) = 0 := by omega
  have nl0 : (0 : Nat) ≤ 0 ∧ (0 : Nat) < 2 := by omega
  have nl1 : (0 : Nat) ≤ 1 ∧ (1 : Nat) < 2 := by omega
  have C := h.pyC
  obtain ⟨-, ⟨pa, pa2⟩, p07, -, p0e, -⟩ := C.1 0 hl0.1 hl0.2
  obtain ⟨-, ⟨pb, pb2⟩, p17, -, p1e, -⟩ := C.1 1 hl1.1 hl1.2
  obtain ⟨eA, cA, -, TA, -⟩ := ecRank hl0 (h.rkC hl0)
  obtain ⟨eB, cB, -, TB, -⟩ := ecRank hl1 (h.rkC hl1)
  have eeA := h.cnt hl0 TA
  have eeB := h.cnt hl1 TB
  obtain ⟨dn, hdn⟩ : ∃ dn, dn = gm cA 27 (2 * 0 + 1) (gm m 126 0 0 - 1) := ⟨_, rfl⟩
  obtain ⟨up, hup⟩ : ∃ up, up = gm cB 27 (2 * 1 + 1) 0 := ⟨_, rfl⟩
  have tD : 0 ≤ gm m 126 0 0 - 1 → FX12_tableAt 0 0 (gm m 126 0 0 - 1) m = some (0, if gm m 130 0 0 = 2 ∧ gm m 126 0 0 - 1 < eA then dn else -1, m) := fun q0 => by
    rw [hdn]
    exact emTableAt hl0 h.hH hn h.hC.1.2 TA q0
  have tU : FX12_tableAt 0 1 0 m = some (0, if gm m 130 0 1 = 2 ∧ 0 < eB then up else -1, m) := by
    rw [hup]
    exact emTableAt hl1 h.hH hn h.hC.1.2 TB (Int.le_refl 0)
  -- who comes up
  obtain ⟨v, hv⟩ : ∃ v : Int, v = if gm m 130 0 0 = 2 ∧ gm m 130 0 1 = 2 then up else -1 := ⟨_, rfl⟩
  obtain ⟨a1, ha1⟩ : ∃ a1 : Int, a1 = if gm m 130 0 0 = 2 ∧ gm m 130 0 1 = 2 then 1 else 0 := ⟨_, rfl⟩
  obtain ⟨D, hD⟩ : ∃ D : Int, D = if gm m 130 0 0 = 2 ∧ gm m 130 0 1 = 2 then dn else -1 := ⟨_, rfl⟩
  have EM1 : ∀ kb, fX12_endYear_50 kb 0 m = fX12_endYear_118 kb 0 a1 D 0 (pm m 12 0 28 v) := fun kb => by
    rw [hv, ha1, hD]
    by_cases z0 : gm m 130 0 0 = 2
    · by_cases z1 : gm m 130 0 1 = 2
      · have w : wr (gm m 126 0 0 - 1) = gm m 126 0 0 - 1 := wq (by omega) (by omega)
        have q0 := p0e z0
        have q1 := p1e z1
        have tD' := tD (by omega)
        rw [if_pos ⟨z0, by omega⟩] at tD'
        have tU' := tU
        rw [if_pos ⟨z1, by omega⟩] at tU'
        rw [if_pos ⟨z0, z1⟩, if_pos ⟨z0, z1⟩, if_pos ⟨z0, z1⟩]
        simp only [fX12_endYear_50, fX12_endYear_75, fX12_endYear_97, fX12_endYear_113, if_pos nl0, if_pos nl1, if_pos hl0, if_pos hl1, if_pos z0, if_pos z1, if_neg i1, w, tD', tU', bnd_ok]
      · rw [if_neg (fun y => z1 y.2), if_neg (fun y => z1 y.2), if_neg (fun y => z1 y.2)]
        simp only [fX12_endYear_50, fX12_endYear_74, fX12_endYear_75, fX12_endYear_96, fX12_endYear_97, fX12_endYear_112, fX12_endYear_113, if_pos nl0, if_pos nl1, if_pos hl0, if_pos hl1, if_pos z0, if_neg z1, if_true]
    · rw [if_neg (fun y => z0 y.1), if_neg (fun y => z0 y.1), if_neg (fun y => z0 y.1)]
      simp only [fX12_endYear_50, fX12_endYear_74, fX12_endYear_75, fX12_endYear_96, fX12_endYear_97, fX12_endYear_112, fX12_endYear_113, if_pos nl0, if_pos hl0, if_neg z0, if_true]
  rw [EM1]
  have kB : Kp [(12, some 28)] m (pm m 12 0 28 v) := Kp.pm (Kp.rf _ _) (Or.inr (by decide))
  have nB : (pm m 12 0 28 v).2 = m.2 := rfl
  have vB : gm (pm m 12 0 28 v) 12 0 28 = v := by simp [gm_pm]
  generalize pm m 12 0 28 v = mB at kB nB vB ⊢
  have CB := C.v kB
  have b12 : gm mB 12 0 1 = gm m 12 0 1 := kB.f (by decide) _
  have hM : ∀ s : Int, 0 ≤ s → s < gm m 12 0 1 → gm c 6 s 6 = gm m 104 0 s ∧ 0 ≤ gm m 104 0 s ∧ gm m 104 0 s ≤ 1000 * t := fun s s0 s1 => by
    have := h.hM s s0 (by omega)
    exact ⟨this.1 s1, this.2.1⟩
  -- grants
  obtain ⟨c1, m1, f1, ⟨d1, f2, f3⟩, C1, f4, f5, f6, f7, f8, f9, f10, f11⟩ := pay_one hl0 CB (fun s s0 s1 => by
    rw [b12] at s1
    rw [kB.k (by decide)]
    have := hM s s0 s1
    exact ⟨this.1, this.2.1⟩) (fun s s0 s1 _ => by
    rw [b12] at s1
    rw [kB.k (by decide)]
    have := hM s s0 s1
    omega)
  rw [b12] at f9 f10 f11
  have b12' : gm m1 12 0 1 = gm m 12 0 1 := by rw [f5.k (by decide), b12]
  obtain ⟨c2, m2, g1, ⟨d2, g2, g3⟩, C2, g4, g5, g6, g7, g8, g9, g10, g11⟩ := pay_one hl1 C1 (fun s s0 s1 => by
    rw [b12'] at s1
    have := f9 s s0 s1
    rw [kB.k (by decide)] at this
    have := hM s s0 s1
    omega) (fun s s0 s1 s2 => by
    rw [b12'] at s1
    rw [f5.k (by decide), kB.k (by decide)] at s2
    rw [f10 s (Or.inr (by rw [kB.k (by decide)]; omega)), kB.k (by decide)]
    have := hM s s0 s1
    omega)
  rw [b12'] at g9 g10 g11
  have kc2 : Kp pyT c c2 := f4.tr g4
  have km2 : Kp [(12, some 28), (104, none), (129, none)] m m2 := (kB.wk (by decide)).tr ((f5.wk (by decide)).tr (g5.wk (by decide)))
  have e12 : gm m2 12 0 1 = gm m 12 0 1 := km2.f (by decide) _
  have mon : ∀ s : Int, 0 ≤ s → s < gm m 12 0 1 → gm c2 6 s 6 = gm m2 104 0 s ∧ 0 ≤ gm m2 104 0 s ∧ gm m2 104 0 s ≤ 1000 * (t + 1) := fun s s0 s1 => by
    have q1 := hM s s0 s1
    have q2 := f9 s s0 s1
    have q3 := g9 s s0 s1
    rw [kB.k (by decide)] at q2
    refine ⟨q3.1, by omega, ?_⟩
    by_cases z : gm m 102 0 s = 0
    · have := g10 s (Or.inr (by rw [f5.k (by decide), kB.k (by decide)]; omega))
      omega
    · have := f10 s (Or.inr (by rw [kB.k (by decide)]; exact z))
      rw [kB.k (by decide)] at this
      omega
  have mon2 : ∀ s : Int, gm m 12 0 1 ≤ s → gm m2 104 0 s = gm m 104 0 s := fun s s0 => by
    rw [g10 s (Or.inl (by omega)), f10 s (Or.inl (by omega)), kB.k (by decide)]
  -- the exchange
  have EX : ∃ c3 m3, FX11_exchangeLeagues 0 1 c2 = some (0, v, c3) ∧ (∀ kb, fX12_endYear_217 kb 0 a1 D m2 = fX12_endYear_238 kb 0 m3) ∧ Kp [(6, some 5)] c2 c3 ∧ Kp [(102, none)] m2 m3 ∧ c3.2 = c2.2 ∧ m3.2 = m2.2 ∧ ∀ s : Int, 0 ≤ s → s < gm m 12 0 1 → gm c3 6 s 5 = gm m3 102 0 s ∧ (0 ≤ gm m3 102 0 s ∧ gm m3 102 0 s < 2) := by
    have so : ∀ s : Int, 0 ≤ s → s < gm m 12 0 1 → gm c2 6 s 5 = gm m2 102 0 s ∧ (0 ≤ gm m2 102 0 s ∧ gm m2 102 0 s < 2) := fun s s0 s1 => by
      rw [kc2.f (by decide), km2.k (by decide)]
      exact (h.so s0 s1).2.2.2
    by_cases both : gm m 130 0 0 = 2 ∧ gm m 130 0 1 = 2
    · rw [if_pos both] at hv ha1 hD
      have q0 := p0e both.1
      have q1 := p1e both.2
      have T0 := f11 (by rw [kB.k (by decide)]; exact both.1)
      have T1 := g11 (by rw [f5.k (by decide), kB.k (by decide)]; exact both.2)
      rw [kB.k (by decide)] at T0
      rw [f5.k (by decide), kB.k (by decide)] at T1
      have r3 := fun j => g8 (2 * 0 + 1) j (by omega)
      have T02 : tbI 0 (gm m 126 0 0) (gm m 12 0 1).toNat c2 m := T0.kp g4 (Kp.sy (T := [(12, some 28), (104, none), (129, none)]) ((kB.wk (by decide)).tr (f5.wk (by decide)))) (by decide) (r3 0).2 (fun j => (r3 j).1)
      have T12 : tbI 1 (gm m 126 0 1) (gm m 12 0 1).toNat c2 m := T1.kp (Kp.rf [] c2) km2.sy (by decide) rfl (fun _ => rfl)
      have uD : dn = gm c2 27 (2 * 0 + 1) (gm m 126 0 0 - 1) := by
        have y1 := tD (by omega)
        have y2 := emTableAt hl0 h.hH hn h.hC.1.2 T02 (q := gm m 126 0 0 - 1) (by omega)
        rw [if_pos ⟨both.1, by omega⟩] at y1 y2
        exact some_v (y1.symm.trans y2)
      have uU : up = gm c2 27 (2 * 1 + 1) 0 := by
        have y1 := tU
        have y2 := emTableAt hl1 h.hH hn h.hC.1.2 T12 (q := 0) (by omega)
        rw [if_pos ⟨both.2, by omega⟩] at y1 y2
        exact some_v (y1.symm.trans y2)
      obtain ⟨x1, ⟨x2, -⟩, -⟩ := T02.2.2.1 (gm m 126 0 0 - 1) (by omega) (by omega)
      obtain ⟨y1, ⟨y2, -⟩, -⟩ := T12.2.2.1 0 (by omega) (by omega)
      rw [← uD] at x1 x2
      rw [← uU] at y1 y2
      have hA := h.1.2.2.2.2.2
      refine ⟨pm (pm c2 6 dn 5 1) 6 up 5 0, pm (pm m2 102 0 dn 1) 102 0 up 0, ?_, fun kb => ?_, Kp.pm (Kp.pm (Kp.rf _ _) (Or.inr (by decide))) (Or.inr (by decide)), Kp.pm (Kp.pm (Kp.rf _ _) (Or.inl (by decide))) (Or.inl (by decide)), rfl, rfl, fun s s0 s1 => ?_⟩
      · rw [hv]
        exact ecExchange (by rw [kc2.k (by decide)]; intro y; exact p07.mp y both.1) (by rw [kc2.k (by decide)]; intro y; exact p17.mp y both.2) T02.1 T12.1 (by omega) (by omega) uD.symm uU.symm x1.1 y1.1 (by rw [kc2.f (by decide)]; exact hA.1) (by rw [kc2.f (by decide)]; exact hA.2) (by rw [kc2.f (by decide)]; exact (h.so y1.1 (by omega)).1)
      · have e28 : gm (pm m2 102 0 dn 1) 12 0 28 = up := by
          have : gm m2 12 0 28 = up := by rw [g5.k (by decide), f5.k (by decide), vB, hv]
          exact this
        rw [ha1, hD]
        simp only [fX12_endYear_217, if_neg i1, e28]
        rw [if_pos (by omega), if_pos (by omega)]
      · have e1 : gm (pm (pm c2 6 dn 5 1) 6 up 5 0) 6 s 5 = if s = up then 0 else if s = dn then 1 else gm c2 6 s 5 := by simp [gm_pm]
        have e2 : gm (pm (pm m2 102 0 dn 1) 102 0 up 0) 102 0 s = if s = up then 0 else if s = dn then 1 else gm m2 102 0 s := by simp [gm_pm]
        rw [e1, e2]
        have := so s s0 s1
        split
        · omega
        · split
          · omega
          · exact this
    · rw [if_neg both] at hv ha1 hD
      refine ⟨c2, m2, ?_, fun kb => ?_, Kp.rf _ _, Kp.rf _ _, rfl, rfl, so⟩
      · rw [hv]
        refine ecExchange0 ?_
        rw [kc2.k (by decide), kc2.k (by decide)]
        by_cases z0 : gm m 130 0 0 = 2
        · exact Or.inr (p17.mpr (fun y => both ⟨z0, y⟩))
        · exact Or.inl (p07.mpr z0)
      · rw [ha1, hD]
        simp only [fX12_endYear_217, if_true]
  obtain ⟨c3, m3, x1, x2, x3, x4, x5, x6, x7⟩ := EX
  -- what is gone
  have kc3 : Kp eyT c c3 := (kc2.wk (by decide)).tr (x3.wk (by decide))
  have km3 : Kp eyU m m3 := (km2.wk (by decide)).tr (x4.wk (by decide))
  have n12 : gm m3 12 0 1 = gm m 12 0 1 := by rw [x4.k (by decide), e12]
  have k4 : Kp [(11, some 5)] c3 (pm c3 11 0 5 v) := Kp.pm (Kp.rf _ _) (Or.inr (by decide))
  have v4 : gm (pm c3 11 0 5 v) 11 0 5 = v := by simp [gm_pm]
  have n4 : (pm c3 11 0 5 v).2 = c3.2 := rfl
  obtain ⟨c5, y1, y2, y3, y4, y5⟩ := ecFgtYear (N := gm m 12 0 1) (pm c3 11 0 5 v) (fun j j0 j1 => by rw [k4.k (by decide), kc3.k (by decide)]; exact h.1.2.1 j j0 j1) hn.2 (by
    rw [k4.k (by decide), kc3.k (by decide), k4.k (by decide), kc3.k (by decide)]
    exact ⟨h.1.2.2.2.1, h.1.2.2.2.2.1⟩)
  have EC : fX11_endYear_20 (kX11_endYear 9999) 0 0 c = some (0, v, c5) := by
    have l0 := ecLeagueAt 0 0 c2
    have l1 := ecLeagueAt 0 1 c2
    rw [if_pos hl0, kc2.k (by decide), h.1.2.2.2.1] at l0
    rw [if_pos hl1, kc2.k (by decide), h.1.2.2.2.2.1] at l1
    rw [show (9999 : Nat) = 9998 + 1 from rfl, f1, show (0 : Int) + 1 = 1 by omega, show (9998 : Nat) = 9997 + 1 from rfl, g1]
    have e5 : gm c5 11 0 5 = v := by rw [y2.k (by decide), v4]
    simp only [fX11_endYear_20, fX11_endYear_85, l0, l1, bnd_ok, x1, y1, e5]
    rw [if_neg (by omega)]
  obtain ⟨m4, z1, z2, z3, z4, z5, z6⟩ := emFgt_lp (N := gm m 12 0 1) hn.2 (gm m 12 0 1).toNat (9999 - (1 + d1) - (1 + d2)) 0 m3 n12 (by omega) (by omega) (by omega)
  obtain ⟨m5, u1, u2, u3, u4⟩ := emLeagues m4 (9999 - (1 + d1) - (1 + d2) - (gm m 12 0 1).toNat - 2)
  have EM2 : fX12_endYear_118 (kX12_endYear 9999) 0 a1 D 0 mB = some (0, v, m5) := by
    rw [show (9999 : Nat) = (9999 - (1 + d1)) + 1 + d1 by omega, f3, show (0 : Int) + 1 = 1 by omega, show (9999 - (1 + d1) : Nat) = (9999 - (1 + d1) - (1 + d2)) + 1 + d2 by omega, g3]
    have e1 : ∀ kb, fX12_endYear_118 kb 0 a1 D (1 + 1) m2 = fX12_endYear_217 kb 0 a1 D m2 := fun kb => by
      simp only [fX12_endYear_118]
      rw [if_neg (by omega)]
    have e2 : ∀ kb, fX12_endYear_238 kb 0 m3 = fX12_endYear_240 kb 0 0 m3 := fun kb => by simp only [fX12_endYear_238]
    rw [e1, x2, e2, z1, show (9999 - (1 + d1) - (1 + d2) - (gm m 12 0 1).toNat : Nat) = (9999 - (1 + d1) - (1 + d2) - (gm m 12 0 1).toNat - 2) + 2 by omega, u1]
    rw [z2.k (by decide), x4.k (by decide), g5.k (by decide), f5.k (by decide), vB]
  have kc : Kp eyT c c5 := kc3.tr ((k4.wk (by decide)).tr (y2.wk (by decide)))
  have km : Kp eyU m m5 := km3.tr ((z2.wk (by decide)).tr (u2.wk (by decide)))
  have nc : c5.2 = c.2 := y3.trans (n4.trans (x5.trans (g6.trans f6)))
  refine ⟨c5, m5, v, EC, EM2, ?_, kc, km, u3.trans (z3.trans (x6.trans (g7.trans (f7.trans nB))))⟩
  -- the relation anew
  have m12 : gm m5 12 0 1 = gm m 12 0 1 := km.f (by decide) _
  have q6 : ∀ s f, (f = 5 ∨ f = 6) → gm c5 6 s f = gm c3 6 s f := fun s f hf => by
    rcases hf with rfl | rfl
    · rw [y2.f (by decide), k4.k (by decide)]
    · rw [y2.f (by decide), k4.k (by decide)]
  have q102 : ∀ s, gm m5 102 0 s = gm m3 102 0 s := fun s => by rw [u2.k (by decide), z2.k (by decide)]
  have q104 : ∀ s, gm m5 104 0 s = gm m2 104 0 s := fun s => by rw [u2.k (by decide), z2.k (by decide), x4.k (by decide)]
  have q28 : gm m5 12 0 28 = v := by rw [u2.k (by decide), z2.k (by decide), x4.k (by decide), g5.k (by decide), f5.k (by decide), vB]
  have qM : ∀ s : Int, 0 ≤ s → s < gm m 12 0 1 → fgM m5 s := fun s s0 s1 => by
    have q := z4 s s0 s1
    unfold fgM at q ⊢
    simp only [u2.k (show frk _ 106 = true by decide), u2.k (show frk _ 108 = true by decide), u2.k (show frk _ 109 = true by decide), u2.k (show frk _ 110 = true by decide), u2.k (show frk _ 112 = true by decide), u2.k (show frk _ 124 = true by decide), u2.k (show frk _ 125 = true by decide), u2.k (show frk _ 147 = true by decide), u2.k (show frk _ 143 = true by decide), u2.k (show frk _ 144 = true by decide), u2.k (show frk _ 145 = true by decide), u2.k (show frk _ 146 = true by decide)]
    exact q
  have qO : ∀ (f : Nat) (s : Int), (frk [(12, some 28), (104, none), (129, none), (102, none), (130, none), (126, none), (134, none), (146, none)] f = true) → gm m 12 0 1 ≤ s → gm m5 f 0 s = gm m f 0 s := fun f s hf hs => by
    have h146 : f ≠ 146 := fun e => by rw [e] at hf; exact absurd hf (by decide)
    have e1 : gm m5 f 0 s = gm m4 f 0 s := u2.k (by simp [frk] at hf ⊢; omega) _ _
    have e2 : gm m4 f 0 s = gm m3 f 0 s := z5 f s h146 (by omega)
    have e3 : gm m3 f 0 s = gm m2 f 0 s := x4.k (by simp [frk] at hf ⊢; omega) _ _
    have e4 : gm m2 f 0 s = gm m f 0 s := km2.k (by simp [frk] at hf ⊢; omega) _ _
    rw [e1, e2, e3, e4]
  have q146 : ∀ j : Int, 20 * gm m 12 0 1 ≤ j → gm m5 146 0 j = gm m 146 0 j := fun j hj => by
    rw [u2.k (by decide), z6 j (Or.inr hj), x4.k (by decide), km2.k (by decide)]
  refine rl.keep0 h kc km nc ?_ ?_ ?_ ?_ ?_ ?_ ?_ ?_ ?_ ?_ ?_ ?_ ?_ ?_ <;> first | exact fun e => absurd e (by decide) | intro _
  · -- societies
    obtain ⟨b1, b2, b3, b4⟩ := h.1
    simp only [rlA, m12, nc, kc.f (show fre _ 11 3 = true by decide), kc.k (show frk _ 13 = true by decide), kc.k (show frk _ 14 = true by decide), kc.f (show fre _ 0 0 = true by decide), kc.f (show fre _ 6 0 = true by decide), kc.f (show fre _ 6 1 = true by decide), km.k (show frk _ 103 = true by decide)]
    refine ⟨b1, b2, fun i i0 i1 => ?_, b4⟩
    obtain ⟨d1, d2, d3, -⟩ := b3 i i0 i1
    have := x7 i i0 i1
    rw [q6 i 5 (Or.inl rfl), q102]
    exact ⟨d1, d2, d3, this⟩
  · -- money
    intro i i0 i1
    rw [m12, q104]
    have hm := h.hM i i0 i1
    refine ⟨fun hi => ?_, ?_, fun hi => by rw [mon2 i hi]; exact hm.2.2 hi⟩
    · rw [q6 i 6 (Or.inr rfl), x3.f (by decide)]
      exact (mon i i0 hi).1
    · by_cases hi : i < gm m 12 0 1
      · exact (mon i i0 hi).2
      · rw [mon2 i (by omega)]
        have := hm.2.1
        omega
  · -- themes
    intro i i0 i1
    rw [m12]
    by_cases hi : i < gm m 12 0 1
    · have a := qM i i0 hi
      have b := y4 i i0 hi
      rw [a.1]
      exact ⟨by omega, fun y => by omega, fun _ => ⟨b.2.2.2.1, fun y => absurd rfl y⟩⟩
    · rw [qO 106 i (by decide) (by omega)]
      obtain ⟨d1, d2, -⟩ := h.hT i i0 i1
      exact ⟨d1, fun _ => d2 (by omega), fun y => absurd y hi⟩
  · -- songs
    intro i i0 i1
    rw [m12]
    refine ⟨fun hi => ?_, fun hi => ?_⟩
    · rw [qO 108 i (by decide) hi, qO 109 i (by decide) hi, qO 110 i (by decide) hi]
      exact (h.hS i i0 i1).1 hi
    · obtain ⟨-, a2, a3, a4, -⟩ := qM i i0 hi
      obtain ⟨⟨b1, b2⟩, -⟩ := y4 i i0 hi
      rw [a2, a3, a4, b1, b2]
      exact ⟨⟨rfl, by omega, by omega⟩, ⟨rfl, Or.inl rfl⟩, by omega, fun k k0 k1 _ => by unfold bit; simp, fun k k0 k1 => by omega⟩
  · -- floats
    have z112 : ∀ i : Int, 0 ≤ i → i < 10 → gm m5 112 0 i = 0 := fun i i0 i1 => by
      by_cases hi : i < gm m 12 0 1
      · exact (qM i i0 hi).2.2.2.2.1
      · rw [qO 112 i (by decide) (by omega)]
        exact (h.hW.1 i i0 i1).1 (by omega)
    refine ⟨fun i i0 i1 => ?_, fun i k i' k' i0 i1 k0 k1 => by rw [z112 i i0 i1] at k1; omega⟩
    rw [m12, z112 i i0 i1]
    refine ⟨fun _ => rfl, by omega, fun hi => ⟨?_, fun k k0 k1 => by omega⟩⟩
    exact (y4 i i0 hi).2.2.2.2.1
  · -- who entered
    refine ⟨fun i i0 i1 => ?_, fun l l0 l1 => ?_⟩
    · rw [m12]
      by_cases hi : i < gm m 12 0 1
      · obtain ⟨-, -, -, -, -, a6, a7, -⟩ := qM i i0 hi
        obtain ⟨-, -, -, -, -, b6, -, -, -, b10⟩ := y4 i i0 hi
        rw [a6, a7, b6, b10]
        exact ⟨fun _ => rfl, Or.inl rfl, fun _ => ⟨rfl, rfl⟩, fun _ => rfl, by omega⟩
      · rw [qO 124 i (by decide) (by omega), qO 125 i (by decide) (by omega)]
        obtain ⟨d1, d2, d3, d4, d5⟩ := h.hO.1 i i0 i1
        exact ⟨d1, d2, fun y => absurd y hi, d4, d5⟩
    · obtain ⟨-, e126, -⟩ := u4 l l0 l1
      obtain ⟨b1, -⟩ := y5 l l0 l1
      rw [e126, b1]
      refine ⟨⟨rfl, by omega, by omega⟩, fun y => by omega, fun k k0 k1 => by omega, fun k k' k0 k1 => by omega, fun i i0 i1 i2 i3 => ?_⟩
      rw [m12] at i1
      have := (qM i i0 i1).2.2.2.2.2.1
      omega
  · -- the draw, who came up, the rain, who was first
    obtain ⟨b1, b2, b3, b4⟩ := h.hC
    have c129 : ∀ z : Int, 0 ≤ z → z < 2 → gm c5 0 z 5 = gm m5 129 0 z := fun z z0 z1 => by
      rw [y2.k (by decide), k4.k (by decide), x3.k (by decide), u2.k (by decide), z2.k (by decide), x4.k (by decide)]
      exact (C2.1 z z0 z1).1.1.2.2.1
    refine ⟨?_, ?_, ?_, c129 0 (by omega) (by omega), c129 1 (by omega) (by omega)⟩
    · rw [kc.f (by decide), km.f (by decide)]
      exact b1
    · rw [q28, y2.k (by decide), v4]
    · rw [kc.f (by decide), km.f (by decide)]
      exact b3
  · -- lines
    obtain ⟨b1, b2, b3⟩ := h.hL
    refine ⟨fun l l0 l1 => ?_, fun l k l0 l1 k0 k1 => by rw [kc.k (by decide), nc]; exact b2 l k l0 l1 k0 k1, fun l k l' k' l0 l1 k0 k1 l2 l3 k2 k3 e1 e2 => b3 l k l' k' l0 l1 k0 k1 l2 l3 k2 k3 (by rw [kc.k (by decide)] at e1; exact e1) (by rw [kc.k (by decide), kc.k (by decide)] at e2; exact e2)⟩
    obtain ⟨e130, e126, e134⟩ := u4 l l0 l1
    obtain ⟨d1, d2, d3, d4, d5⟩ := y5 l l0 l1
    obtain ⟨-, -, -, -, a5, -⟩ := b1 l l0 l1
    rw [e130, e126, e134, d2, d3, d4]
    refine ⟨Or.inl ⟨rfl, rfl, rfl, rfl⟩, ⟨rfl, by omega, by omega⟩, fun y => absurd rfl y, fun k k0 k1 => by omega, fun k k0 k1 => ?_, fun y => by omega, fun y => absurd rfl y⟩
    rw [d5 k k0 k1, km.k (by decide)]
    exact ⟨by omega, (a5 k k0 k1).2⟩
  · -- notes and penalties
    intro i i0 i1
    rw [m12]
    refine ⟨fun hi => ?_, fun hi => ?_⟩
    · rw [qO 147 i (by decide) hi]
      obtain ⟨d1, d2⟩ := (h.hH i i0 i1).1 hi
      exact ⟨d1, fun j j0 j1 => by rw [q146 _ (by omega)]; exact d2 j j0 j1⟩
    · obtain ⟨-, -, -, -, -, -, -, a8, -, -, -, a12⟩ := qM i i0 hi
      obtain ⟨-, b2, b3, -⟩ := y4 i i0 hi
      rw [a8, b3]
      refine ⟨⟨rfl, by omega, by omega⟩, fun j j0 j1 => ?_, fun k k0 k1 => by omega, fun y => absurd rfl y⟩
      rw [b2 j j0 j1, a12 j j0 j1]
      exact ⟨rfl, Or.inl rfl⟩
  · -- clocks
    intro i i0 i1
    rw [m12]
    refine ⟨fun hi => ?_, fun hi => ?_⟩
    · rw [qO 145 i (by decide) hi]
      exact (h.hK i i0 i1).1 hi
    · obtain ⟨-, -, -, -, -, -, -, -, a9, a10, a11, -⟩ := qM i i0 hi
      obtain ⟨-, -, -, -, -, -, b7, b8, b9, -⟩ := y4 i i0 hi
      rw [a9, a10, a11, b7, b8, b9]
      exact ⟨⟨rfl, by omega, by omega⟩, ⟨rfl, by omega, by omega⟩, rfl, by omega, by omega⟩
theorem op_endYear {t : Int} (ht : 0 ≤ t ∧ t ≤ 900) {c m : St} (h : rl t c m) : Step t (cdn 2 9 9) c m (FX11_endYear 0 c) (FX12_endYear 0 m) := by
  have i1 : ¬ (1 : Int) = 0 := by omega
  have nl0 : (0 : Nat) ≤ 0 ∧ (0 : Nat) < 2 := by omega
  have nl1 : (0 : Nat) ≤ 1 ∧ (1 : Nat) < 2 := by omega
  have hl0 : (0 : Int) ≤ 0 ∧ (0 : Int) < 2 := by omega
  have hl1 : (0 : Int) ≤ 1 ∧ (1 : Int) < 2 := by omega
  have em := ecMayEnd h
  obtain ⟨L0, -⟩ := h.hL.1 0 hl0.1 hl0.2
  obtain ⟨L1, -⟩ := h.hL.1 1 hl1.1 hl1.2
  have w : wr (gm m 130 0 0 + gm m 130 0 1) = gm m 130 0 0 + gm m 130 0 1 := wq (by omega) (by omega)
  by_cases P : yrP m
  · rw [if_pos P] at em
    obtain ⟨p1, p2, p3⟩ := id P
    obtain ⟨c', m', v, e1, e2, e3, e4, e5, e6⟩ := endY ht (h.z 0) (show yrP (pm m 12 0 0 0) from P)
    refine Step.ok (T := eyT) (U := (12, some 0) :: eyU) (v := v) (c' := c') (m' := m') ?_ ?_ e4 ((Kp.pm (Kp.rf _ _) (Or.inr (by decide))).tr (e5.wk (by decide))) (by decide) (by decide) (by rw [e5.f (by decide)]; simp [gm_pm]) e6 e3
    · simp only [FX11_endYear, fX11_endYear_0, fX11_endYear_18, em, bnd_ok, if_neg i1]
      exact e1
    · simp only [FX12_endYear, fX12_endYear_0, fX12_endYear_37, fX12_endYear_41, fX12_endYear_42, if_pos nl0, if_pos nl1, if_pos hl0, if_pos hl1, if_neg p1, if_neg p2, w, emHolds, bnd_ok, if_true, if_neg i1]
      rw [if_neg (by omega)]
      exact e2
  · rw [if_neg P] at em
    refine Step.thr h (o := 2) (v := 0) (x := 0) (k := 1) (by decide) ?_ ?_ rfl
    · simp only [FX11_endYear, fX11_endYear_0, em, bnd_ok, if_true]
    · simp only [FX12_endYear, fX12_endYear_0, fX12_endYear_37, fX12_endYear_41, fX12_endYear_42, if_pos nl0, if_pos nl1, if_pos hl0, if_pos hl1, w, emHolds, bnd_ok, if_neg i1, if_true]
      by_cases a0 : gm m 130 0 0 = 1
      · rw [if_pos a0]
      · rw [if_neg a0]
        by_cases a1 : gm m 130 0 1 = 1
        · rw [if_pos a1]
        · rw [if_neg a1, if_pos (by omega)]
