/-! A year ends: whether it may, and the exchange. -/
theorem mayE_st {t : Int} {c m : St} (h : rl t c m) {l : Int} (hl : 0 ≤ l ∧ l < 2) (n : Nat) (a : Int) : fX11_mayEndYear_4 (kX11_mayEndYear (n + 1)) 0 a l c = if gm m 130 0 l = 1 then some (0, 0, c) else fX11_mayEndYear_4 (kX11_mayEndYear n) 0 (if gm m 130 0 l = 2 then 1 else a) (l + 1) c := by
  obtain ⟨L1, -⟩ := h.hL.1 l hl.1 hl.2
  obtain ⟨-, -, -, h14, -⟩ := h.pyC.1 l hl.1 hl.2
  have g := ecGoesOn l c
  have w1 : wr (l + 1) = l + 1 := wq (by omega) (by omega)
  have ln : ¬ l = -1 := by omega
  generalize hR : fX11_mayEndYear_4 (kX11_mayEndYear n) 0 (if gm m 130 0 l = 2 then 1 else a) (l + 1) c = R
  simp only [fX11_mayEndYear_4, fX11_mayEndYear_36, fX11_mayEndYear_52, if_pos hl, h14, if_neg ln, if_pos hl.1, g, bnd_ok, itz, w1, z01, or_true, true_or, if_true]
  rw [if_pos hl.2, uX11_mayEndYear_4, uX11_mayEndYear_4]
  by_cases h1 : gm m 130 0 l = 1
  · rw [if_pos h1, if_pos (by omega)]
  · rw [if_neg h1, if_neg (show ¬ (gm c 1 l 6 ≠ 0 ∧ gm c 1 l 7 = 0) by omega)]
    by_cases h2 : gm m 130 0 l = 2
    · rw [if_pos h2] at hR
      rw [if_neg (by omega)]
      exact hR
    · rw [if_neg h2] at hR
      rw [if_pos (by omega)]
      exact hR
abbrev yrP (m : St) : Prop := gm m 130 0 0 ≠ 1 ∧ gm m 130 0 1 ≠ 1 ∧ (gm m 130 0 0 = 2 ∨ gm m 130 0 1 = 2)
theorem ecMayEnd {t : Int} {c m : St} (h : rl t c m) : FX11_mayEndYear 0 c = some (0, if yrP m then 1 else 0, c) := by
  have s0 := mayE_st h (l := 0) (by omega) 9998 0
  have s1 := fun a => mayE_st h (l := 1) (by omega) 9997 a
  simp only [FX11_mayEndYear, fX11_mayEndYear_0]
  rw [show (9999 : Nat) = 9998 + 1 from rfl, s0, show (0 : Int) + 1 = 1 by omega, show (9998 : Nat) = 9997 + 1 from rfl, s1]
  have e2 : ∀ a : Int, (a = 0 ∨ a = 1) → fX11_mayEndYear_4 (kX11_mayEndYear 9997) 0 a (1 + 1) c = some (0, a, c) := fun a ha => by
    simp only [fX11_mayEndYear_4, fX11_mayEndYear_58]
    rw [if_neg (by omega), if_pos ha]
  by_cases a0 : gm m 130 0 0 = 1
  · rw [if_pos a0, if_neg (show ¬ yrP m from fun y => y.1 a0)]
  · rw [if_neg a0]
    by_cases a1 : gm m 130 0 1 = 1
    · rw [if_pos a1, if_neg (show ¬ yrP m from fun y => y.2.1 a1)]
    · rw [if_neg a1]
      by_cases a2 : gm m 130 0 1 = 2
      · rw [if_pos a2, e2 1 (Or.inr rfl), if_pos (show yrP m from ⟨a0, a1, Or.inr a2⟩)]
      · rw [if_neg a2]
        by_cases a3 : gm m 130 0 0 = 2
        · rw [if_pos a3, e2 1 (Or.inr rfl), if_pos (show yrP m from ⟨a0, a1, Or.inl a3⟩)]
        · rw [if_neg a3, e2 0 (Or.inl rfl), if_neg (show ¬ yrP m from fun y => by
            rcases y.2.2 with y | y
            · exact a3 y
            · exact a2 y)]
/-- the two that change leagues -/
theorem ecExchange {c : St} {e0 e1 dn up : Int} (h07 : ¬ gm c 1 0 7 = 0) (h17 : ¬ gm c 1 1 7 = 0) (r0 : gm c 4 (2 * 0 + 1) 1 = e0) (r1 : gm c 4 (2 * 1 + 1) 1 = e1) (he0 : 0 < e0 ∧ e0 ≤ 10) (he1 : 0 < e1 ∧ e1 ≤ 10) (d0 : gm c 27 (2 * 0 + 1) (e0 - 1) = dn) (u0 : gm c 27 (2 * 1 + 1) 0 = up) (hd : 0 ≤ dn) (hu : 0 ≤ up) (n0 : gm c 0 0 0 = 0) (n1 : gm c 0 1 0 = 1) (nu : gm c 6 up 0 = up) :
    FX11_exchangeLeagues 0 1 c = some (0, up, pm (pm c 6 dn 5 1) 6 up 5 0) := by
  have ea := ecAt (a0 := 2 * 0 + 1) (a1 := e0 - 1) (s := c) (by omega) (by omega)
  rw [r0, if_pos ⟨by omega, by omega⟩, d0] at ea
  have eb := ecAt (a0 := 2 * 1 + 1) (a1 := 0) (s := c) (by omega) (by omega)
  rw [r1, if_pos ⟨by omega, by omega⟩, u0] at eb
  have w : wr (e0 - 1) = e0 - 1 := wq (by omega) (by omega)
  have x0 : gm (pm c 6 dn 5 1) 0 0 0 = 0 := n0
  have xu : gm (pm (pm c 6 dn 5 1) 6 up 5 0) 6 up 0 = up := by simp [gm_pm, nu]
  have y0 : (0 : Int) ≤ 0 := by omega
  have y1 : (0 : Int) ≤ 1 := by omega
  have z0 : ¬ (0 : Int) = -1 := by omega
  have z1 : ¬ (1 : Int) = -1 := by omega
  have zd : ¬ dn = -1 := by omega
  have zu : ¬ up = -1 := by omega
  simp only [FX11_exchangeLeagues, fX11_exchangeLeagues_0, fX11_exchangeLeagues_28, fX11_exchangeLeagues_30, fX11_exchangeLeagues_64, fX11_exchangeLeagues_66, if_neg z0, if_neg z1, if_pos y0, if_pos y1, if_neg h07, if_neg h17, r0, w, ea, eb, bnd_ok, if_neg zd, if_neg zu, if_pos hd, if_pos hu, n1, x0, xu]
theorem ecExchange0 {c : St} (h : gm c 1 0 7 = 0 ∨ gm c 1 1 7 = 0) : FX11_exchangeLeagues 0 1 c = some (0, -1, c) := by
  have y0 : (0 : Int) ≤ 0 := by omega
  have y1 : (0 : Int) ≤ 1 := by omega
  have z0 : ¬ (0 : Int) = -1 := by omega
  have z1 : ¬ (1 : Int) = -1 := by omega
  simp only [fX11_exchangeLeagues_0, fX11_exchangeLeagues_28, FX11_exchangeLeagues, if_neg z0, if_neg z1, if_pos y0, if_pos y1]
  by_cases h0 : gm c 1 0 7 = 0
  · rw [if_pos h0]
  · rw [if_neg h0, if_pos (by omega)]
/-- the reference's leagues are as new -/
theorem emLeagues (m : St) (n : Nat) : ∃ m', fX12_endYear_259 (kX12_endYear (n + 2)) 0 m = some (0, gm m 12 0 28, m') ∧ Kp [(130, none), (126, none), (134, none)] m m' ∧ m'.2 = m.2 ∧ ∀ z : Int, 0 ≤ z → z < 2 → gm m' 130 0 z = 0 ∧ gm m' 126 0 z = 0 ∧ gm m' 134 0 z = 0 := by
  have st : ∀ (n : Nat) (z : Int) (s : St), (0 ≤ z ∧ z < 2) → fX12_endYear_261 (kX12_endYear (n + 1)) 0 z s = fX12_endYear_261 (kX12_endYear n) 0 (z + 1) (pm (pm (pm s 130 0 z 0) 126 0 z 0) 134 0 z 0) := fun n z s hz => by
    have w1 : wr (z + 1) = z + 1 := wq (by omega) (by omega)
    generalize hR : fX12_endYear_261 (kX12_endYear n) 0 (z + 1) _ = R
    simp only [fX12_endYear_261, if_pos hz, if_pos hz.2, w1]
    rw [uX12_endYear_261, hR]
  refine ⟨pm (pm (pm (pm (pm (pm m 130 0 0 0) 126 0 0 0) 134 0 0 0) 130 0 1 0) 126 0 1 0) 134 0 1 0, ?_, Kp.pm (Kp.pm (Kp.pm (Kp.pm (Kp.pm (Kp.pm (Kp.rf _ _) (Or.inl (by decide))) (Or.inl (by decide))) (Or.inl (by decide))) (Or.inl (by decide))) (Or.inl (by decide))) (Or.inl (by decide)), rfl, fun z z0 z1 => ?_⟩
  · have e1 : fX12_endYear_259 (kX12_endYear (n + 2)) 0 m = fX12_endYear_261 (kX12_endYear (n + 1 + 1)) 0 0 m := by simp only [fX12_endYear_259]
    rw [e1, st (n + 1) 0 m (by omega), show (0 : Int) + 1 = 1 by omega, st n 1 _ (by omega)]
    simp only [fX12_endYear_261, fX12_endYear_293]
    rw [if_neg (by omega)]
    simp [gm_pm]
  · rcases (show z = 0 ∨ z = 1 by omega) with rfl | rfl
    · simp [gm_pm]
    · simp [gm_pm]
