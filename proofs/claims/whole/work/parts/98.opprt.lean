/-! Parts of a march: asked for. -/
theorem op_part {t : Int} {c m : St} (h : rl t c m) (l k v : Int) : Step t (cdn 1 2 3) c m (FX11_part 0 l k v c) (FX12_part 0 l k v m) := by
  have hn := h.n
  have i1 : ¬ (1 : Int) = 0 := by omega
  by_cases hl : 0 ≤ l ∧ l < 2
  · have hl1 : ¬ l = -1 := by omega
    by_cases hv : 0 ≤ v ∧ v ≤ 4
    · obtain ⟨L1, ⟨L2, L3, L4⟩, -⟩ := h.hL.1 l hl.1 hl.2
      by_cases h1 : 0 < gm m 130 0 l
      · have g : ¬ gm c 1 l 6 = 0 := by omega
        have ep := ecPartAt (a0 := l) (a1 := k) (s := c) (by omega) (by omega)
        rw [L2] at ep
        have w1 : wr (gm m 134 0 l - 1) = gm m 134 0 l - 1 := wq (by omega) (by omega)
        by_cases hk : 0 ≤ k ∧ k < gm m 134 0 l
        · rw [if_pos hk] at ep
          have hk' : 0 ≤ k ∧ k ≤ gm m 134 0 l - 1 := by omega
          obtain ⟨⟨p0, P⟩, u1, -⟩ := h.prt hl hk.1 hk.2
          obtain ⟨-, -, u2⟩ := (h.z 0).prt hl hk.1 hk.2
          have p1 : ¬ gm c 28 l k = -1 := by omega
          obtain ⟨⟨q1, q2, -⟩, q3, ⟨q4, -⟩, ⟨q5, -⟩, -⟩ := id P
          have hs := (h.so q2.1 q2.2).1
          have q7 : ¬ gm m 135 0 (60 * l + k) = -1 := by omega
          have cl : clv c (pm m 12 0 0 0) l = clv c m l := rfl
          have g8 : gm (pm m 12 0 0 0) 138 0 (60 * l + k) = gm m 138 0 (60 * l + k) := rfl
          have g7 : gm (pm m 12 0 0 0) 137 0 (60 * l + k) = gm m 137 0 (60 * l + k) := rfl
          rw [cl, g8, g7] at u2
          have w2 : wr (wr (60 * l) + k) = 60 * l + k := by rw [wq (z := 60 * l) (by omega) (by omega), wq (by omega) (by omega)]
          have hr : 0 ≤ 60 * l + k ∧ 60 * l + k < 120 := by omega
          have A : FX11_part 0 l k v c = bnd (FX2_tell (gm c 28 l k) v (clv c m l) c) fun x2 s2 => some (0, x2, s2) := by
            simp only [FX11_part, fX11_part_0, fX11_part_21, fX11_part_32, fX11_part_54, fX11_part_81, h.lea, if_pos hl, bnd_ok, if_neg hl1, ecWithin, if_pos hv, if_pos hl.1, if_neg g, ep, if_neg p1, ecCellsV h.hR hl, if_pos p0, if_neg i1]
          have B : FX12_part 0 l k v m = fX12_part_92 (kX12_part 0) 0 l k v (pm m 12 0 0 0) := by
            simp only [FX12_part, fX12_part_0, fX12_part_20, fX12_part_21, fX12_part_41, fX12_part_42, fX12_part_54, fX12_part_63, fX12_part_83, fX12_part_84, emIsLeague, if_pos hl, bnd_ok, emIn, if_pos hv, if_neg i1, if_pos h1, w1, if_pos hk', emHolds, if_true]
          rcases (show v = 0 ∨ v = 1 ∨ v = 2 ∨ v = 3 ∨ v = 4 by omega) with rfl | rfl | rfl | rfl | rfl
          · refine Step.rd h (v := gm m 135 0 (60 * l + k)) ?_ ?_
            · rw [A]
              simp only [FX2_tell, fX2_tell_0, fX2_tell_32, fX2_tell_43, fX2_tell_50, fX2_tell_51, fX2_tell_56, fX2_tell_61, fX2_tell_66, fX2_tell_78, fX2_tell_79, q1, if_neg q7, if_pos q2.1, hs, if_true, bnd_ok]
            · rw [B]
              simp only [fX12_part_92, fX12_part_119, fX12_part_134, fX12_part_141, fX12_part_142, fX12_part_157, fX12_part_170, fX12_part_171, w2, if_pos hr]
              simp [gm_pm]
          · refine Step.rd h (v := gm m 136 0 (60 * l + k)) ?_ ?_
            · rw [A]
              simp [FX2_tell, fX2_tell_0, fX2_tell_32, fX2_tell_43, fX2_tell_50, fX2_tell_51, fX2_tell_56, fX2_tell_61, fX2_tell_66, fX2_tell_78, fX2_tell_79, q3, bnd_ok]
            · rw [B]
              simp only [fX12_part_92, fX12_part_119, fX12_part_134, fX12_part_141, fX12_part_142, fX12_part_157, fX12_part_170, fX12_part_171, w2, if_pos hr]
              simp [gm_pm]
          · refine Step.rd h (v := gm m 138 0 (60 * l + k)) ?_ ?_
            · rw [A]
              simp [FX2_tell, fX2_tell_0, fX2_tell_32, fX2_tell_43, fX2_tell_50, fX2_tell_51, fX2_tell_56, fX2_tell_61, fX2_tell_66, fX2_tell_78, fX2_tell_79, q4, bnd_ok]
            · rw [B]
              simp only [fX12_part_92, fX12_part_119, fX12_part_134, fX12_part_141, fX12_part_142, fX12_part_157, fX12_part_170, fX12_part_171, w2, if_pos hr]
              simp [gm_pm]
          · refine Step.rd h (v := gm m 137 0 (60 * l + k)) ?_ ?_
            · rw [A]
              simp [FX2_tell, fX2_tell_0, fX2_tell_32, fX2_tell_43, fX2_tell_50, fX2_tell_51, fX2_tell_56, fX2_tell_61, fX2_tell_66, fX2_tell_78, fX2_tell_79, q5, bnd_ok]
            · rw [B]
              simp only [fX12_part_92, fX12_part_119, fX12_part_134, fX12_part_141, fX12_part_142, fX12_part_157, fX12_part_170, fX12_part_171, w2, if_pos hr]
              simp [gm_pm]
          · refine Step.rd h (v := if clv c m l ≤ gm m 138 0 (60 * l + k) - gm m 137 0 (60 * l + k) + 1 then 1 else 0) ?_ ?_
            · rw [A]
              simp only [FX2_tell, fX2_tell_0, fX2_tell_32, fX2_tell_43, fX2_tell_50, fX2_tell_51, fX2_tell_56, fX2_tell_61, fX2_tell_66, fX2_tell_78, fX2_tell_79, u1, bnd_ok]
              by_cases z : clv c m l ≤ gm m 138 0 (60 * l + k) - gm m 137 0 (60 * l + k) + 1
              · simp [z, bnd_ok]
              · simp [z, bnd_ok]
            · rw [B]
              simp only [fX12_part_92, fX12_part_119, fX12_part_134, fX12_part_141, fX12_part_142, fX12_part_157, fX12_part_170, fX12_part_171, w2, u2, bnd_ok]
              by_cases z : clv c m l ≤ gm m 138 0 (60 * l + k) - gm m 137 0 (60 * l + k) + 1
              · simp [z]
              · simp [z]
        · rw [if_neg hk] at ep
          have hk' : ¬ (0 ≤ k ∧ k ≤ gm m 134 0 l - 1) := by omega
          refine Step.thr h (o := 3) (v := 0) (x := 0) (k := 3) (by decide) ?_ ?_ rfl
          · simp only [FX11_part, fX11_part_0, fX11_part_21, fX11_part_32, fX11_part_54, fX11_part_81, h.lea, if_pos hl, bnd_ok, if_neg hl1, ecWithin, if_pos hv, if_pos hl.1, if_neg g, ep, if_neg i1, if_true]
          · simp only [FX12_part, fX12_part_0, fX12_part_20, fX12_part_21, fX12_part_41, fX12_part_42, fX12_part_54, fX12_part_63, fX12_part_83, fX12_part_84, emIsLeague, if_pos hl, bnd_ok, emIn, if_pos hv, if_neg i1, if_pos h1, w1, if_neg hk', emHolds, if_true]
            simp
      · have g : gm c 1 l 6 = 0 := by omega
        refine Step.thr h (o := 2) (v := 0) (x := 0) (k := 2) (by decide) ?_ ?_ rfl
        · simp only [FX11_part, fX11_part_0, fX11_part_21, fX11_part_32, fX11_part_54, fX11_part_81, h.lea, if_pos hl, bnd_ok, if_neg hl1, ecWithin, if_pos hv, if_pos hl.1, if_pos g, if_neg i1]
        · simp only [FX12_part, fX12_part_0, fX12_part_20, fX12_part_21, fX12_part_41, fX12_part_42, fX12_part_54, fX12_part_63, fX12_part_83, fX12_part_84, emIsLeague, if_pos hl, bnd_ok, emIn, if_pos hv, if_neg i1, if_neg h1, emHolds, if_true]
          simp
    · refine Step.thr h (o := 1) (v := 0) (x := 0) (k := 1) (by decide) ?_ ?_ rfl
      · simp only [FX11_part, fX11_part_0, fX11_part_21, fX11_part_32, fX11_part_54, fX11_part_81, h.lea, if_pos hl, bnd_ok, if_neg hl1, ecWithin, if_neg hv, if_true]
      · simp only [FX12_part, fX12_part_0, fX12_part_20, fX12_part_21, fX12_part_41, fX12_part_42, fX12_part_54, fX12_part_63, fX12_part_83, fX12_part_84, emIsLeague, if_pos hl, bnd_ok, emIn, if_neg hv, if_neg i1, emHolds, if_true]
  · refine Step.thr h (o := 1) (v := 0) (x := 0) (k := 1) (by decide) ?_ ?_ rfl
    · simp only [FX11_part, fX11_part_0, fX11_part_21, fX11_part_32, fX11_part_54, fX11_part_81, h.lea, if_neg hl, bnd_ok, if_true]
    · simp only [FX12_part, fX12_part_0, fX12_part_20, fX12_part_21, fX12_part_41, fX12_part_42, fX12_part_54, fX12_part_63, fX12_part_83, fX12_part_84, emIsLeague, if_neg hl, bnd_ok, emHolds, if_true]
      simp
