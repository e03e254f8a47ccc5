/-! Rain, juries, feuds, themes. -/
theorem op_rain {t : Int} {c m : St} (h : rl t c m) {b : Int} (hb : b = 0 ∨ b = 1) : Step t (cdn 9 9 9) c m (FX11_rain 0 b c) (FX12_rain 0 b m) := by
  obtain ⟨-, -, ⟨a1, a2⟩, -⟩ := h.hC
  have kc : Kp [(11, some 6)] c (pm c 11 0 6 b) := Kp.pm (Kp.rf _ _) (Or.inr (by decide))
  have km : Kp [(12, some 0), (12, some 42)] m (pm (pm m 12 0 0 0) 12 0 42 b) := Kp.pm (Kp.pm (Kp.rf _ _) (Or.inr (by decide))) (Or.inr (by decide))
  refine Step.ok (v := gm m 12 0 42) (c' := pm c 11 0 6 b) (m' := pm (pm m 12 0 0 0) 12 0 42 b) ?_ ?_ kc km (by decide) (by decide) (by simp [gm_pm]) rfl ?_
  · simp [FX11_rain, fX11_rain_0, hb, a1, a2]
  · simp [FX12_rain, fX12_rain_0, hb, a2, gm_pm]
  · refine rl.keep0 h kc km rfl ?_ ?_ ?_ ?_ ?_ ?_ ?_ ?_ ?_ ?_ ?_ ?_ ?_ ?_ <;> first | exact fun e => absurd e (by decide) | intro _
    obtain ⟨a3, a4, -, a5, a6⟩ := h.hC
    simp only [rlC, gm_pm]
    simp [a3, a4, a5, a6, hb]
theorem op_jury {t : Int} {c m : St} (h : rl t c m) (p : Int) {b : Int} (hb : b = 0 ∨ b = 1) : Step t (cdn 3 9 9) c m (FX11_jury 0 p b c) (FX12_jury 0 p b m) := by
  by_cases hp : 0 ≤ p ∧ p < 12
  · obtain ⟨j1, j2⟩ := h.hJ p hp.1 hp.2
    have hp' : 0 ≤ p ∧ p ≤ 11 := by omega
    have kc : Kp [(23, none)] c (pm c 23 0 p b) := Kp.pm (Kp.rf _ _) (Or.inl (by decide))
    have km : Kp [(12, some 0), (123, none)] m (pm (pm m 12 0 0 0) 123 0 p b) := Kp.pm (Kp.pm (Kp.rf _ _) (Or.inr (by decide))) (Or.inl (by decide))
    refine Step.ok (v := gm m 123 0 p) (c' := pm c 23 0 p b) (m' := pm (pm m 12 0 0 0) 123 0 p b) ?_ ?_ kc km (by decide) (by decide) (by simp [gm_pm]) rfl ?_
    · simp only [FX11_jury, fX11_jury_0, fX11_jury_17, FX9_setJury, fX9_setJury_0, fX9_setJury_28, ecIsCorner, ecHasJury, ecWithin, bnd_ok, if_pos hp, bz_or, if_true]
      simp (disch := omega) only [wq]
      rcases j2 with j2 | j2 <;> simp [hp, hp', hb, j1, j2, bnd_ok]
    · simp [FX12_jury, fX12_jury_0, fX12_jury_12, fX12_jury_13, fX12_jury_21, emIsCorner, emHolds, bnd_ok, hp, hb, j2, gm_pm]
    · refine rl.keep0 h kc km rfl ?_ ?_ ?_ ?_ ?_ ?_ ?_ ?_ ?_ ?_ ?_ ?_ ?_ ?_ <;> first | exact fun e => absurd e (by decide) | intro _
      intro k k0 k1
      have := h.hJ k k0 k1
      simp only [gm_pm]
      simp
      by_cases e : k = p
      · simp [e, hb]
      · simp [e, this]
  · refine Step.thr h (o := 3) (v := 0) (x := 0) (k := 1) (by decide) ?_ ?_ rfl
    · simp [FX11_jury, fX11_jury_0, fX11_jury_17, ecIsCorner, bnd_ok, hp]
    · simp [FX12_jury, fX12_jury_0, fX12_jury_12, fX12_jury_13, fX12_jury_21, emIsCorner, emHolds, bnd_ok, hp]
noncomputable def fd (b x j : Int) : Int := if b = 0 then iand x (ixor (ishl 1 j) (-1)) else ior x (ishl 1 j)
theorem fd_bit {b x j : Int} (h0 : 0 ≤ x) (h1 : x < 1024) (h2 : 0 ≤ j) (h3 : j < 10) : (0 ≤ fd b x j ∧ fd b x j < 1024) ∧ ∀ k, 0 ≤ k → k < 10 → bit (fd b x j) k = if k = j then (if b = 0 then 0 else 1) else bit x k := by
  unfold fd
  by_cases hb : b = 0
  · simp only [if_pos hb]
    exact ian_bit h0 h1 h2 h3
  · simp only [if_neg hb]
    exact ior_bit h0 h1 h2 h3
theorem ecHasFeud {a0 a1 : Int} {s : St} (h : 0 ≤ a1) (h0 : 0 ≤ gm s 6 a0 7) (h1 : gm s 6 a0 7 < 1024) (h2 : 0 ≤ gm s 6 a1 0) (h3 : gm s 6 a1 0 < 10) : FX6_hasFeudWith a0 a1 s = some (0, if bit (gm s 6 a0 7) (gm s 6 a1 0) = 1 then 1 else 0, s) := by
  simp only [FX6_hasFeudWith, fX6_hasFeudWith_0, fX6_hasFeudWith_19, fX6_hasFeudWith_20, if_pos h, ibit h0 h1 h2 h3, z01, o01, if_true]
  grind
theorem ecSetFeud {a0 a1 b : Int} {s : St} (h : 0 ≤ a1) : FX6_setFeud a0 a1 b s = some (0, 0, pm s 6 a0 7 (fd b (gm s 6 a0 7) (gm s 6 a1 0))) := by
  simp only [FX6_setFeud, fX6_setFeud_0, fX6_setFeud_21, fX6_setFeud_29, if_pos h, fd]
  by_cases hb : b = 0 <;> simp [hb]
theorem op_feud {t : Int} {c m : St} (h : rl t c m) (p q : Int) {b : Int} (hb : b = 0 ∨ b = 1) : Step t (cdn 3 1 9) c m (FX11_feud 0 p q b c) (FX12_feud 0 p q b m) := by
  have hn := h.n
  by_cases hp : (0 ≤ p ∧ p < gm m 12 0 1) ∧ (0 ≤ q ∧ q < gm m 12 0 1)
  · obtain ⟨hp, hq⟩ := hp
    have hp1 : ¬ p = -1 := by omega
    have hq1 : ¬ q = -1 := by omega
    by_cases he : p = q
    · refine Step.thr h (o := 1) (v := 0) (x := 0) (k := 2) (by decide) ?_ ?_ rfl
      · simp only [FX11_feud, fX11_feud_0, fX11_feud_24, fX11_feud_34, fX11_feud_49, h.soc, bnd_ok, if_pos hp, if_pos hq, if_neg hp1, if_neg hq1, if_pos he]
      · simp only [FX12_feud, fX12_feud_0, fX12_feud_17, fX12_feud_21, fX12_feud_30, fX12_feud_31, fX12_feud_39, h.isS, emHolds, bnd_ok, if_pos hp, if_pos hq, if_pos he]
        simp
    · obtain ⟨f1, f2⟩ := h.hF
      obtain ⟨x1, x2⟩ := f1 p hp.1 hp.2
      obtain ⟨y1, y2⟩ := f1 q hq.1 hq.2
      have np := (h.so hp.1 hp.2).1
      have nq := (h.so hq.1 hq.2).1
      have kc : Kp [(6, some 7)] c (pm (pm c 6 p 7 (fd b (gm c 6 p 7) q)) 6 q 7 (fd b (gm c 6 q 7) p)) := Kp.pm (Kp.pm (Kp.rf _ _) (Or.inr (by decide))) (Or.inr (by decide))
      have km : Kp [(12, some 0), (105, none)] m (pm (pm (pm m 12 0 0 0) 105 0 (10 * p + q) b) 105 0 (10 * q + p) b) := Kp.pm (Kp.pm (Kp.pm (Kp.rf _ _) (Or.inr (by decide))) (Or.inl (by decide))) (Or.inl (by decide))
      have hx := x2 q hq.1 (by omega)
      have h01 := bit_01 (gm c 6 p 7) q
      have hr1 : 0 ≤ 10 * p + q ∧ 10 * p + q < 100 := by omega
      have hr2 : 0 ≤ 10 * q + p ∧ 10 * q + p < 100 := by omega
      refine Step.ok (v := gm m 105 0 (10 * p + q)) (c' := pm (pm c 6 p 7 (fd b (gm c 6 p 7) q)) 6 q 7 (fd b (gm c 6 q 7) p)) (m' := pm (pm (pm m 12 0 0 0) 105 0 (10 * p + q) b) 105 0 (10 * q + p) b) ?_ ?_ kc km (by decide) (by decide) (by simp [gm_pm]) rfl ?_
      · have e1 := ecHasFeud (a0 := p) (a1 := q) (s := c) hq.1 x1.1 x1.2 (by omega) (by omega)
        rw [nq] at e1
        have e2 : FX6_setFeud p q b c = some (0, 0, pm c 6 p 7 (fd b (gm c 6 p 7) q)) := by rw [ecSetFeud hq.1, nq]
        have e3 : FX6_setFeud q p b (pm c 6 p 7 (fd b (gm c 6 p 7) q)) = some (0, 0, pm (pm c 6 p 7 (fd b (gm c 6 p 7) q)) 6 q 7 (fd b (gm c 6 q 7) p)) := by
          rw [ecSetFeud hp.1]
          simp only [gm_pm]
          simp [show ¬ q = p from fun z => he z.symm, np]
        simp only [FX11_feud, fX11_feud_0, fX11_feud_24, fX11_feud_34, fX11_feud_49, h.soc, bnd_ok, if_pos hp, if_pos hq, if_neg hp1, if_neg hq1, if_neg he, e1, e2, e3, if_pos hp.1, if_pos hq.1, bz_or, if_true]
        rw [← hx]
        rcases h01 with h01 | h01 <;> simp [h01]
      · have h02 : gm m 105 0 (10 * p + q) = 0 ∨ gm m 105 0 (10 * p + q) = 1 := by rw [← hx]; exact h01
        simp only [FX12_feud, fX12_feud_0, fX12_feud_17, fX12_feud_21, fX12_feud_30, fX12_feud_31, fX12_feud_39, h.isS, emHolds, bnd_ok, if_pos hp, if_pos hq, if_neg he]
        simp (disch := omega) only [wq]
        simp [hr1, hr2, hb, gm_pm, h02]
      · refine rl.keep0 h kc km rfl ?_ ?_ ?_ ?_ ?_ ?_ ?_ ?_ ?_ ?_ ?_ ?_ ?_ ?_ <;> first | exact fun e => absurd e (by decide) | intro _
        have hbb : (if b = 0 then (0 : Int) else 1) = b := by rcases hb with rfl | rfl <;> rfl
        obtain ⟨g1, g2⟩ := fd_bit (b := b) x1.1 x1.2 hq.1 (show q < 10 by omega)
        obtain ⟨g3, g4⟩ := fd_bit (b := b) y1.1 y1.2 hp.1 (show p < 10 by omega)
        rw [hbb] at g2 g4
        constructor
        · intro i i0 i1
          simp only [gm_pm] at i1 ⊢
          simp at i1 ⊢
          obtain ⟨z1, z2⟩ := f1 i i0 i1
          by_cases eq : i = q
          · subst eq
            simp only [if_true]
            refine ⟨g3, fun j j0 j1 => ?_⟩
            rw [g4 j j0 j1]
            have := z2 j j0 j1
            clear f1 f2 x2 y2 z2 g2 g4
            grind
          · simp only [if_neg eq]
            by_cases ep : i = p
            · subst ep
              simp only [if_true]
              refine ⟨g1, fun j j0 j1 => ?_⟩
              rw [g2 j j0 j1]
              have := z2 j j0 j1
              clear f1 f2 x2 y2 z2 g2 g4
              grind
            · simp only [if_neg ep]
              refine ⟨z1, fun j j0 j1 => ?_⟩
              have := z2 j j0 j1
              clear f1 f2 x2 y2 z2 g2 g4
              grind
        · intro i j i0 i1 j0 j1
          simp only [gm_pm]
          simp
          intro hij
          rw [if_neg (by omega), if_neg (by omega)]
          exact f2 i j i0 i1 j0 j1 hij
  · refine Step.thr h (o := 3) (v := 0) (x := 0) (k := 1) (by decide) ?_ ?_ rfl
    · simp only [FX11_feud, fX11_feud_0, fX11_feud_24, fX11_feud_34, fX11_feud_49, h.soc, bnd_ok]
      grind
    · simp only [FX12_feud, fX12_feud_0, fX12_feud_17, fX12_feud_21, fX12_feud_30, fX12_feud_31, fX12_feud_39, h.isS, emHolds, bnd_ok]
      grind
