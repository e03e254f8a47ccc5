/-! A march begins: the call. -/
theorem op_begin {t : Int} {c m : St} (h : rl t c m) (l a b : Int) : Step t (cdn 1 2 9) c m (FX11_begin 0 l a b c) (FX12_begin 0 l a b m) := by
  have i1 : ¬ (1 : Int) = 0 := by omega
  by_cases hl : 0 ≤ l ∧ l < 2
  · have hl1 : ¬ l = -1 := by omega
    by_cases ha : 1 ≤ a ∧ a ≤ 200
    · by_cases hb : a ≤ b ∧ b ≤ 200
      · obtain ⟨L1, -⟩ := h.hL.1 l hl.1 hl.2
        obtain ⟨⟨b1, b2, b3⟩, -⟩ := h.hO.2 l hl.1 hl.2
        by_cases h0 : gm m 130 0 l = 0
        · have u6 : gm c 1 l 6 = 0 := by omega
          have n0 : ¬ 0 < gm m 130 0 l := by omega
          by_cases h6 : gm m 126 0 l = 0
          · have u4 : gm c 4 (2 * l) 1 = 0 := by omega
            refine Step.thr h (o := 2) (v := 0) (x := 0) (k := 2) (by decide) ?_ ?_ rfl
            · simp only [FX11_begin, fX11_begin_0, fX11_begin_34, fX11_begin_45, fX11_begin_67, fX11_begin_78, h.lea, if_pos hl, bnd_ok, if_neg hl1, ecWithin, if_pos ha, if_pos hb, if_neg i1, if_pos hl.1, u6, u4, if_true]
            · simp only [FX12_begin, fX12_begin_0, fX12_begin_33, fX12_begin_34, fX12_begin_46, fX12_begin_64, fX12_begin_68, fX12_begin_69, emIsLeague, if_pos hl, bnd_ok, emIn, if_pos ha, if_pos hb, if_neg i1, if_neg n0, h6, emHolds, if_true]
              simp
          · have u4 : ¬ gm c 4 (2 * l) 1 = 0 := by omega
            obtain ⟨c', m', v, e1, e2, kc, km, n2, r⟩ := begs (h.z 0) hl h0 h6 ha (show 1 ≤ b ∧ b ≤ 200 by omega)
            refine Step.ok (T := [(2, none), (28, none), (29, none), (1, none)]) (U := [(12, some 0), (130, none), (131, none), (132, none), (133, none), (141, none), (135, none), (136, none), (137, none), (138, none), (139, none), (140, none), (134, none)]) (v := v) (c' := c') (m' := m') ?_ ?_ kc ((Kp.pm (Kp.rf _ _) (Or.inr (by decide))).tr (km.wk (by decide))) (by decide) (by decide) (by rw [km.k (by decide)]; simp [gm_pm]) n2 r
            · simp only [FX11_begin, fX11_begin_0, fX11_begin_34, fX11_begin_45, fX11_begin_67, fX11_begin_78, h.lea, if_pos hl, bnd_ok, if_neg hl1, ecWithin, if_pos ha, if_pos hb, if_neg i1, if_pos hl.1, u6, if_neg u4, e1, if_true]
            · simp only [FX12_begin, fX12_begin_0, fX12_begin_33, fX12_begin_34, fX12_begin_46, fX12_begin_64, fX12_begin_68, fX12_begin_69, emIsLeague, if_pos hl, bnd_ok, emIn, if_pos ha, if_pos hb, if_neg i1, if_neg n0, if_neg h6, emHolds, if_true, e2]
        · have u6 : ¬ gm c 1 l 6 = 0 := by omega
          have n0 : 0 < gm m 130 0 l := by omega
          refine Step.thr h (o := 2) (v := 0) (x := 0) (k := 2) (by decide) ?_ ?_ rfl
          · simp only [FX11_begin, fX11_begin_0, fX11_begin_34, fX11_begin_45, fX11_begin_67, fX11_begin_78, h.lea, if_pos hl, bnd_ok, if_neg hl1, ecWithin, if_pos ha, if_pos hb, if_neg i1, if_pos hl.1, if_neg u6]
          · simp only [FX12_begin, fX12_begin_0, fX12_begin_33, fX12_begin_34, fX12_begin_46, fX12_begin_64, fX12_begin_68, fX12_begin_69, emIsLeague, if_pos hl, bnd_ok, emIn, if_pos ha, if_pos hb, if_neg i1, if_pos n0, emHolds, if_true]
            simp
      · refine Step.thr h (o := 1) (v := 0) (x := 0) (k := 1) (by decide) ?_ ?_ rfl
        · simp only [FX11_begin, fX11_begin_0, fX11_begin_34, fX11_begin_45, fX11_begin_67, fX11_begin_78, h.lea, if_pos hl, bnd_ok, if_neg hl1, ecWithin, if_pos ha, if_neg hb, if_neg i1, if_true]
        · simp only [FX12_begin, fX12_begin_0, fX12_begin_33, fX12_begin_34, fX12_begin_46, fX12_begin_64, fX12_begin_68, fX12_begin_69, emIsLeague, if_pos hl, bnd_ok, emIn, if_pos ha, if_neg hb, if_neg i1, emHolds, if_true]
    · refine Step.thr h (o := 1) (v := 0) (x := 0) (k := 1) (by decide) ?_ ?_ rfl
      · simp only [FX11_begin, fX11_begin_0, fX11_begin_34, fX11_begin_45, fX11_begin_67, fX11_begin_78, h.lea, if_pos hl, bnd_ok, if_neg hl1, ecWithin, if_neg ha, if_true]
      · simp only [FX12_begin, fX12_begin_0, fX12_begin_33, fX12_begin_34, fX12_begin_46, fX12_begin_64, fX12_begin_68, fX12_begin_69, emIsLeague, if_pos hl, bnd_ok, emIn, if_neg ha, if_neg i1, emHolds, if_true]
  · refine Step.thr h (o := 1) (v := 0) (x := 0) (k := 1) (by decide) ?_ ?_ rfl
    · simp only [FX11_begin, fX11_begin_0, fX11_begin_34, fX11_begin_45, fX11_begin_67, fX11_begin_78, h.lea, if_neg hl, bnd_ok, if_true]
    · simp only [FX12_begin, fX12_begin_0, fX12_begin_33, fX12_begin_34, fX12_begin_46, fX12_begin_64, fX12_begin_68, fX12_begin_69, emIsLeague, if_neg hl, bnd_ok, emHolds, if_neg i1, if_true]
