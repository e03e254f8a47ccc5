/-! Calls of penalties, doubts, clocks. -/
def cPen (c : St) (p par tn : Int) : St := pm (pm (pm (pm c 19 p (gm c 5 p 4) par) 20 p (gm c 5 p 4) tn) 21 p (gm c 5 p 4) 0) 5 p 4 (gm c 5 p 4 + 1)
def mPen (m : St) (p par tn : Int) : St := pm (pm (pm (pm m 148 0 (20 * p + gm m 147 0 p) par) 149 0 (20 * p + gm m 147 0 p) tn) 150 0 (20 * p + gm m 147 0 p) 0) 147 0 p (gm m 147 0 p + 1)
theorem ecPunish {p par tn : Int} {s : St} (h0 : 0 ≤ gm s 5 p 4) (h1 : gm s 5 p 4 < 20) : FX5_punish p par tn s = some (0, 0, cPen s p par tn) := by
  have hr : 0 ≤ gm s 5 p 4 ∧ gm s 5 p 4 < 20 := ⟨h0, h1⟩
  have hr' : 0 ≤ gm s 5 p 4 ∧ gm s 5 p 4 ≤ 19 := by omega
  simp only [FX5_punish, fX5_punish_0, fX5_punish_16, ecWithin, bnd_ok, if_pos hr', cPen]
  rw [wq (by omega) (by omega)]
  simp [hr]
theorem emPenalizes {p par tn : Int} {s : St} (hp : 0 ≤ p ∧ p < 10) (h0 : 0 ≤ gm s 147 0 p) (h1 : gm s 147 0 p < 20) (ht : 0 < tn) : FX12_penalizes 0 p par tn s = some (0, 0, mPen s p par tn) := by
  have hr : 0 ≤ 20 * p + gm s 147 0 p ∧ 20 * p + gm s 147 0 p < 200 := by omega
  simp only [FX12_penalizes, fX12_penalizes_0, fX12_penalizes_51, if_pos ht, if_pos hp, mPen]
  simp only [gm_pm]
  simp (disch := omega) only [wq]
  simp [hr]
theorem emPenalizes0 {p par tn : Int} {s : St} (ht : ¬ 0 < tn) : FX12_penalizes 0 p par tn s = some (0, 0, s) := by
  simp only [FX12_penalizes, fX12_penalizes_0, fX12_penalizes_51, if_neg ht]
def penT : List (Nat × Option Int) := [(19, none), (20, none), (21, none), (5, some 4)]
def penU : List (Nat × Option Int) := [(12, some 0), (148, none), (149, none), (150, none), (147, none)]
theorem cPen_kp (c : St) (p par tn : Int) : Kp penT c (cPen c p par tn) := by
  unfold cPen
  exact Kp.pm (Kp.pm (Kp.pm (Kp.pm (Kp.rf _ _) (Or.inl (by decide))) (Or.inl (by decide))) (Or.inl (by decide))) (Or.inr (by decide))
theorem mPen_kp (m : St) (p par tn : Int) : Kp penU m (mPen m p par tn) := by
  unfold mPen
  exact Kp.pm (Kp.pm (Kp.pm (Kp.pm (Kp.rf _ _) (Or.inl (by decide))) (Or.inl (by decide))) (Or.inl (by decide))) (Or.inl (by decide))
theorem rlH.pen {c m : St} (h : rlH c m) {p par tn : Int} (h0 : 0 ≤ p) (h1 : p < gm m 12 0 1) (hn : gm m 12 0 1 ≤ 10) (hq : gm m 147 0 p < 20) (ht : 0 ≤ tn ∧ tn ≤ 4000000) (hm : gm m 124 0 p = 1 ∧ gm m 130 0 (gm m 102 0 p) = 2) : rlH (cPen c p par tn) (mPen m p par tn) := by
  obtain ⟨⟨p1, p2, p3⟩, -⟩ := (h p h0 (by omega)).2 h1
  intro i i0 i1
  obtain ⟨b1, b2⟩ := h i i0 i1
  simp only [cPen, mPen, gm_pm]
  simp
  refine ⟨fun hi => ⟨?_, fun k k0 k1 => (b1 hi).2 k k0 k1⟩, fun hi => ?_⟩
  · rw [if_neg (by omega)]
    exact (b1 hi).1
  · obtain ⟨d1, d2, d3, d4⟩ := b2 hi
    by_cases e : i = p
    · subst e
      simp only [if_true]
      refine ⟨⟨by omega, by omega, by omega⟩, d2, fun k k0 k1 => ?_, fun _ => hm⟩
      by_cases ek : k = gm m 147 0 i
      · subst ek
        rw [p1]
        simp
        exact ht
      · have := d3 k k0 (by omega)
        rw [p1]
        grind
    · refine ⟨?_, d2, fun k k0 k1 => ?_, ?_⟩
      · rw [if_neg e, if_neg e]; exact d1
      · rw [if_neg e] at k1
        have := d3 k k0 k1
        grind
      · rw [if_neg e]; exact d4
theorem op_penalty {t : Int} {c m : St} (h : rl t c m) (p a v : Int) : Step t (cdn 3 1 2) c m (FX11_penalty 0 p a v c) (FX12_penalty 0 p a v m) := by
  by_cases hp : 0 ≤ p ∧ p < gm m 12 0 1
  · have hp1 : ¬ p = -1 := by omega
    have hn := h.n
    by_cases hv : (4 ≤ a ∧ a ≤ 9) ∧ (1 ≤ v ∧ v ≤ 99)
    · obtain ⟨ha, hv⟩ := hv
      have m1 := h.mar hp.1 hp.2
      have m2 := h.marM hp.1 hp.2
      obtain ⟨⟨q1, q2, q3⟩, -⟩ := (h.hH p hp.1 (by omega)).2 hp.2
      have hp9 : 0 ≤ p ∧ p < 10 := by omega
      by_cases hm : gm m 124 0 p ≠ 0 ∧ gm m 130 0 (gm m 102 0 p) = 2
      · by_cases hf : gm m 147 0 p < 20
        · have hf1 : gm c 5 p 4 < 20 := by omega
          have hf2 : ¬ gm m 147 0 p = 20 := by omega
          have kc := cPen_kp c p a v
          have km : Kp penU m (mPen (pm m 12 0 0 0) p a v) := Kp.tr (Kp.pm (Kp.rf _ _) (Or.inr (by decide))) (mPen_kp _ p a v)
          have hm1 : gm m 124 0 p = 1 := by
            obtain ⟨-, o2, -⟩ := h.hO.1 p hp.1 (by omega)
            omega
          refine Step.ok (v := gm m 147 0 p + 1) (c' := cPen c p a v) (m' := mPen (pm m 12 0 0 0) p a v) ?_ ?_ kc km (by decide) (by decide) (by simp [mPen, gm_pm]) rfl ?_
          · simp [FX11_penalty, fX11_penalty_0, fX11_penalty_22, fX11_penalty_42, fX11_penalty_53, fX11_penalty_73, fX11_penalty_84, h.soc, ecWithin, bnd_ok, hp, hp1, ha, hv, m1, hm, ecIsFull, hf1]
            simp [ecPunish (p := p) (s := c) (by omega) hf1, bnd_ok, cPen, gm_pm, q1, hf]
          · have hq : 0 ≤ gm (pm m 12 0 0 0) 147 0 p ∧ gm (pm m 12 0 0 0) 147 0 p < 20 := ⟨q2, hf⟩
            have r := emPenalizes (p := p) (par := a) (tn := v) hp9 hq.1 hq.2 (by omega)
            simp [FX12_penalty, fX12_penalty_0, fX12_penalty_31, fX12_penalty_32, fX12_penalty_44, fX12_penalty_53, fX12_penalty_72, fX12_penalty_76, fX12_penalty_77, fX12_penalty_85, h.isS, emIn, emHolds, bnd_ok, hp, ha, hv, m2, hm, hp9, hf2, r]
            simp [mPen, gm_pm]
          · refine rl.keep0 h kc km rfl ?_ ?_ ?_ ?_ ?_ ?_ ?_ ?_ ?_ ?_ ?_ ?_ ?_ ?_ <;> first | exact fun e => absurd e (by decide) | intro _
            exact (h.z 0).hH.pen hp.1 hp.2 h.n.2 hf (by omega) ⟨hm1, hm.2⟩
        · have hf1 : ¬ gm c 5 p 4 < 20 := by omega
          have hf2 : gm m 147 0 p = 20 := by omega
          refine Step.thr h (o := 2) (v := 0) (x := 0) (k := 3) (by decide) ?_ ?_ rfl
          · simp [FX11_penalty, fX11_penalty_0, fX11_penalty_22, fX11_penalty_42, fX11_penalty_53, fX11_penalty_73, fX11_penalty_84, h.soc, ecWithin, bnd_ok, hp, hp1, ha, hv, m1, hm, ecIsFull, hf1]
          · simp [FX12_penalty, fX12_penalty_0, fX12_penalty_31, fX12_penalty_32, fX12_penalty_44, fX12_penalty_53, fX12_penalty_72, fX12_penalty_76, fX12_penalty_77, fX12_penalty_85, h.isS, emIn, emHolds, bnd_ok, hp, ha, hv, m2, hm, hp9, hf2]
      · refine Step.thr h (o := 2) (v := 0) (x := 0) (k := 3) (by decide) ?_ ?_ rfl
        · simp only [FX11_penalty, fX11_penalty_0, fX11_penalty_22, fX11_penalty_42, fX11_penalty_53, fX11_penalty_73, fX11_penalty_84, h.soc, ecWithin, bnd_ok, if_pos hp, if_neg hp1, if_pos ha, if_pos hv, m1, if_neg hm]
          simp
        · simp only [FX12_penalty, fX12_penalty_0, fX12_penalty_31, fX12_penalty_32, fX12_penalty_44, fX12_penalty_53, fX12_penalty_72, fX12_penalty_76, fX12_penalty_77, fX12_penalty_85, h.isS, emIn, emHolds, bnd_ok, if_pos hp, if_pos ha, if_pos hv, m2, if_neg hm]
          simp
    · refine Step.thr h (o := 1) (v := 0) (x := 0) (k := 2) (by decide) ?_ ?_ rfl
      · simp only [FX11_penalty, fX11_penalty_0, fX11_penalty_22, fX11_penalty_42, fX11_penalty_53, fX11_penalty_73, fX11_penalty_84, h.soc, ecWithin, bnd_ok, if_pos hp]
        grind
      · simp only [FX12_penalty, fX12_penalty_0, fX12_penalty_31, fX12_penalty_32, fX12_penalty_44, fX12_penalty_53, fX12_penalty_72, fX12_penalty_76, fX12_penalty_77, fX12_penalty_85, h.isS, emIn, emHolds, bnd_ok, if_pos hp]
        grind
  · refine Step.thr h (o := 3) (v := 0) (x := 0) (k := 1) (by decide) ?_ ?_ rfl
    · simp [FX11_penalty, fX11_penalty_0, fX11_penalty_22, fX11_penalty_42, fX11_penalty_53, fX11_penalty_73, fX11_penalty_84, h.soc, bnd_ok, hp]
    · simp only [FX12_penalty, fX12_penalty_0, fX12_penalty_31, fX12_penalty_32, fX12_penalty_44, fX12_penalty_53, fX12_penalty_72, fX12_penalty_76, fX12_penalty_77, fX12_penalty_85, h.isS, emIn, emHolds, bnd_ok, if_neg hp]
      grind
theorem rl.pen {t : Int} {c m : St} (h : rl t c m) (p k : Int) : FX12_isPenalty 0 p k m = some (0, if (0 ≤ p ∧ p < gm m 12 0 1) ∧ 0 ≤ k ∧ k < gm m 147 0 p then 1 else 0, m) :=
  emIsPenalty h.n.1 h.n.2 (fun h0 h1 => by
    have hn := h.n
    obtain ⟨⟨q1, q2, q3⟩, -⟩ := (h.hH p h0 (by omega)).2 h1
    exact ⟨q2, q3⟩)
theorem op_appeal {t : Int} {c m : St} (h : rl t c m) (p k : Int) : Step t (cdn 3 2 9) c m (FX11_appeal 0 p k c) (FX12_appeal 0 p k m) := by
  by_cases hp : 0 ≤ p ∧ p < gm m 12 0 1
  · have hp1 : ¬ p = -1 := by omega
    have hn := h.n
    obtain ⟨⟨q1, q2, q3⟩, -, q4, -⟩ := (h.hH p hp.1 (by omega)).2 hp.2
    have c1 := ecHasPenalty (a0 := p) (a1 := k) (s := c) (by omega) (by omega)
    have c2 := ecIsAppealed (a0 := p) (a1 := k) (s := c) (by omega) (by omega)
    rw [q1] at c1 c2
    by_cases hk : 0 ≤ k ∧ k < gm m 147 0 p
    · obtain ⟨-, -, r1, r2⟩ := q4 k hk.1 hk.2
      have hr : 0 ≤ 20 * p + k ∧ 20 * p + k < 200 := by omega
      by_cases ha : gm m 150 0 (20 * p + k) = 0
      · have kc : Kp [(21, none)] c (pm c 21 p k 1) := Kp.pm (Kp.rf _ _) (Or.inl (by decide))
        have km : Kp [(12, some 0), (150, none)] m (pm (pm m 12 0 0 0) 150 0 (20 * p + k) 1) := Kp.pm (Kp.pm (Kp.rf _ _) (Or.inr (by decide))) (Or.inl (by decide))
        have hH : rlH (pm c 21 p k 1) (pm (pm m 12 0 0 0) 150 0 (20 * p + k) 1) := by
          intro i i0 i1
          obtain ⟨b1, b2⟩ := h.hH i i0 i1
          simp only [gm_pm]
          simp
          refine ⟨fun hi => ⟨(b1 hi).1, fun k k0 k1 => (b1 hi).2 k k0 k1⟩, fun hi => ?_⟩
          obtain ⟨d1, d2, d3, d4⟩ := b2 hi
          refine ⟨d1, d2, fun k' k0 k1 => ?_, d4⟩
          have := d3 k' k0 k1
          grind
        have hpt := hH.pts (p := p) hp.1 hp.2 h.n.2
        refine Step.ok (v := ptv (pm (pm m 12 0 0 0) 150 0 (20 * p + k) 1) p) (c' := pm c 21 p k 1) (m' := pm (pm m 12 0 0 0) 150 0 (20 * p + k) 1) ?_ ?_ kc km (by decide) (by decide) (by simp [gm_pm]) rfl ?_
        · have ea : FX5_appealAway p k c = some (0, 0, pm c 21 p k 1) := by
            have hr : 0 ≤ k ∧ k < 20 := by omega
            simp [FX5_appealAway, fX5_appealAway_0, fX5_appealAway_15, c1, hk, hr, bnd_ok]
          simp [FX11_appeal, fX11_appeal_0, fX11_appeal_21, fX11_appeal_32, fX11_appeal_54, h.soc, bnd_ok, hp, hp1, c1, c2, hk, r1, ha, ea, hpt.1]
        · simp [FX12_appeal, fX12_appeal_0, fX12_appeal_16, fX12_appeal_34, fX12_appeal_35, fX12_appeal_43, h.pen, emHolds, bnd_ok, hp, hk]
          simp (disch := omega) only [wq]
          simp [hr, ha, hpt.2, bnd_ok]
        · refine rl.keep0 h kc km rfl ?_ ?_ ?_ ?_ ?_ ?_ ?_ ?_ ?_ ?_ ?_ ?_ ?_ ?_ <;> first | exact fun e => absurd e (by decide) | intro _
          exact hH
      · refine Step.thr h (o := 2) (v := 0) (x := 0) (k := 2) (by decide) ?_ ?_ rfl
        · simp [FX11_appeal, fX11_appeal_0, fX11_appeal_21, fX11_appeal_32, fX11_appeal_54, h.soc, bnd_ok, hp, hp1, c1, c2, hk, r1, ha]
        · simp [FX12_appeal, fX12_appeal_0, fX12_appeal_16, fX12_appeal_34, fX12_appeal_35, fX12_appeal_43, h.pen, emHolds, bnd_ok, hp, hk]
          simp (disch := omega) only [wq]
          simp [hr, ha]
    · refine Step.thr h (o := 3) (v := 0) (x := 0) (k := 1) (by decide) ?_ ?_ rfl
      · simp only [FX11_appeal, fX11_appeal_0, fX11_appeal_21, fX11_appeal_32, fX11_appeal_54, h.soc, bnd_ok, if_pos hp, if_neg hp1, if_pos hp.1, c1, if_neg hk]
        simp
      · simp only [FX12_appeal, fX12_appeal_0, fX12_appeal_16, fX12_appeal_34, fX12_appeal_35, fX12_appeal_43, h.pen, emHolds, bnd_ok, if_neg (fun z : (0 ≤ p ∧ p < gm m 12 0 1) ∧ 0 ≤ k ∧ k < gm m 147 0 p => hk z.2)]
        simp
  · refine Step.thr h (o := 3) (v := 0) (x := 0) (k := 1) (by decide) ?_ ?_ rfl
    · simp [FX11_appeal, fX11_appeal_0, fX11_appeal_21, fX11_appeal_32, fX11_appeal_54, h.soc, bnd_ok, hp]
    · simp only [FX12_appeal, fX12_appeal_0, fX12_appeal_16, fX12_appeal_34, fX12_appeal_35, fX12_appeal_43, h.pen, emHolds, bnd_ok, if_neg (fun z : (0 ≤ p ∧ p < gm m 12 0 1) ∧ 0 ≤ k ∧ k < gm m 147 0 p => hp z.1)]
      simp
theorem op_penaltyAt {t : Int} {c m : St} (h : rl t c m) (p k w : Int) : Step t (cdn 3 1 9) c m (FX11_penaltyAt 0 p k w c) (FX12_penaltyAt 0 p k w m) := by
  by_cases hp : 0 ≤ p ∧ p < gm m 12 0 1
  · have hp1 : ¬ p = -1 := by omega
    have hn := h.n
    obtain ⟨⟨q1, q2, q3⟩, -, q4, -⟩ := (h.hH p hp.1 (by omega)).2 hp.2
    have c1 := ecHasPenalty (a0 := p) (a1 := k) (s := c) (by omega) (by omega)
    rw [q1] at c1
    by_cases hk : 0 ≤ k ∧ k < gm m 147 0 p
    · obtain ⟨r0, ⟨r00, -⟩, r1, r2⟩ := q4 k hk.1 hk.2
      have hr : 0 ≤ 20 * p + k ∧ 20 * p + k < 200 := by omega
      have hr2 : 0 ≤ k ∧ k < 20 := by omega
      have hs := h.soc
      by_cases hw : 0 ≤ w ∧ w ≤ 2
      · refine Step.rd h (v := if w = 0 then gm m 148 0 (20 * p + k) else if w = 1 then gm m 149 0 (20 * p + k) else gm m 150 0 (20 * p + k)) ?_ ?_
        · clear q4 h
          rcases (show w = 0 ∨ w = 1 ∨ w = 2 by omega) with rfl | rfl | rfl
          · simp [FX11_penaltyAt, fX11_penaltyAt_0, fX11_penaltyAt_24, fX11_penaltyAt_35, fX11_penaltyAt_55, FX5_tellPenalty, fX5_tellPenalty_0, fX5_tellPenalty_10, fX5_tellPenalty_36, fX5_tellPenalty_43, fX5_tellPenalty_50, fX5_tellPenalty_63, fX5_tellPenalty_64, hs, ecWithin, bnd_ok, hp, hp1, c1, hk, hr2, r0]
          · simp [FX11_penaltyAt, fX11_penaltyAt_0, fX11_penaltyAt_24, fX11_penaltyAt_35, fX11_penaltyAt_55, FX5_tellPenalty, fX5_tellPenalty_0, fX5_tellPenalty_10, fX5_tellPenalty_36, fX5_tellPenalty_43, fX5_tellPenalty_50, fX5_tellPenalty_63, fX5_tellPenalty_64, hs, ecWithin, bnd_ok, hp, hp1, c1, hk, hr2, r00]
          · rcases r2 with r2 | r2 <;> simp [FX11_penaltyAt, fX11_penaltyAt_0, fX11_penaltyAt_24, fX11_penaltyAt_35, fX11_penaltyAt_55, FX5_tellPenalty, fX5_tellPenalty_0, fX5_tellPenalty_10, fX5_tellPenalty_36, fX5_tellPenalty_43, fX5_tellPenalty_50, fX5_tellPenalty_63, fX5_tellPenalty_64, hs, ecWithin, bnd_ok, hp, hp1, c1, hk, hr2, r1, r2]
        · have hs := h.pen
          clear q4 h
          rcases (show w = 0 ∨ w = 1 ∨ w = 2 by omega) with rfl | rfl | rfl
          · simp [FX12_penaltyAt, fX12_penaltyAt_0, fX12_penaltyAt_14, fX12_penaltyAt_27, fX12_penaltyAt_28, fX12_penaltyAt_36, fX12_penaltyAt_58, fX12_penaltyAt_73, fX12_penaltyAt_87, fX12_penaltyAt_88, hs, emIn, emHolds, bnd_ok, hp, hk]
            simp (disch := omega) only [wq]
            simp [hr, gm_pm]
          · simp [FX12_penaltyAt, fX12_penaltyAt_0, fX12_penaltyAt_14, fX12_penaltyAt_27, fX12_penaltyAt_28, fX12_penaltyAt_36, fX12_penaltyAt_58, fX12_penaltyAt_73, fX12_penaltyAt_87, fX12_penaltyAt_88, hs, emIn, emHolds, bnd_ok, hp, hk]
            simp (disch := omega) only [wq]
            simp [hr, gm_pm]
          · simp [FX12_penaltyAt, fX12_penaltyAt_0, fX12_penaltyAt_14, fX12_penaltyAt_27, fX12_penaltyAt_28, fX12_penaltyAt_36, fX12_penaltyAt_58, fX12_penaltyAt_73, fX12_penaltyAt_87, fX12_penaltyAt_88, hs, emIn, emHolds, bnd_ok, hp, hk]
            simp (disch := omega) only [wq]
            rcases r2 with r2 | r2 <;> simp [hr, gm_pm, r2]
      · refine Step.thr h (o := 1) (v := 0) (x := 0) (k := 2) (by decide) ?_ ?_ rfl
        · simp [FX11_penaltyAt, fX11_penaltyAt_0, fX11_penaltyAt_24, fX11_penaltyAt_35, fX11_penaltyAt_55, h.soc, ecWithin, bnd_ok, hp, hp1, c1, hk, hw]
        · simp [FX12_penaltyAt, fX12_penaltyAt_0, fX12_penaltyAt_14, fX12_penaltyAt_27, fX12_penaltyAt_28, fX12_penaltyAt_36, fX12_penaltyAt_58, fX12_penaltyAt_73, fX12_penaltyAt_87, fX12_penaltyAt_88, h.pen, emIn, emHolds, bnd_ok, hp, hk, hw]
    · refine Step.thr h (o := 3) (v := 0) (x := 0) (k := 1) (by decide) ?_ ?_ rfl
      · simp only [FX11_penaltyAt, fX11_penaltyAt_0, fX11_penaltyAt_24, fX11_penaltyAt_35, fX11_penaltyAt_55, h.soc, bnd_ok, if_pos hp, if_neg hp1, if_pos hp.1, c1, if_neg hk]
        simp
      · simp only [FX12_penaltyAt, fX12_penaltyAt_0, fX12_penaltyAt_14, fX12_penaltyAt_27, fX12_penaltyAt_28, fX12_penaltyAt_36, fX12_penaltyAt_58, fX12_penaltyAt_73, fX12_penaltyAt_87, fX12_penaltyAt_88, h.pen, emHolds, bnd_ok, if_neg (fun z : (0 ≤ p ∧ p < gm m 12 0 1) ∧ 0 ≤ k ∧ k < gm m 147 0 p => hk z.2)]
        simp
  · refine Step.thr h (o := 3) (v := 0) (x := 0) (k := 1) (by decide) ?_ ?_ rfl
    · simp [FX11_penaltyAt, fX11_penaltyAt_0, fX11_penaltyAt_24, fX11_penaltyAt_35, fX11_penaltyAt_55, h.soc, bnd_ok, hp]
    · simp only [FX12_penaltyAt, fX12_penaltyAt_0, fX12_penaltyAt_14, fX12_penaltyAt_27, fX12_penaltyAt_28, fX12_penaltyAt_36, fX12_penaltyAt_58, fX12_penaltyAt_73, fX12_penaltyAt_87, fX12_penaltyAt_88, h.pen, emHolds, bnd_ok, if_neg (fun z : (0 ≤ p ∧ p < gm m 12 0 1) ∧ 0 ≤ k ∧ k < gm m 147 0 p => hp z.1)]
      simp
theorem op_isDoubted {t : Int} {c m : St} (h : rl t c m) (j p : Int) : Step t (cdn 3 1 9) c m (FX11_isDoubted 0 j p c) (FX12_isDoubted 0 j p m) := by
  by_cases hp : 0 ≤ p ∧ p < gm m 12 0 1
  · have hp1 : ¬ p = -1 := by omega
    have hn := h.n
    by_cases hj : 0 ≤ j ∧ j < 4
    · have hj' : 0 ≤ j ∧ j ≤ 3 := by omega
      obtain ⟨-, q2, -⟩ := (h.hH p hp.1 (by omega)).2 hp.2
      have e : ∀ a j : Int, 20 * p + 5 * j + a = 20 * p + (5 * j + a) := fun a j => by omega
      have r1 := ecCast (f := fun a => dbC (fun j => gm m 146 0 (20 * p + (5 * j + a))) j 4 0 0 0) (a0 := p) (a1 := j) (s := c) (fun a a0 a1 => ⟨ecDoubtful (fun i i0 i1 => by
        obtain ⟨r1, r2⟩ := q2 (5 * i + a) (by omega) (by omega)
        exact ⟨r1, by omega, by omega⟩) hj ⟨a0, a1⟩, dbC_01 _ _ _ _⟩)
      have r2 := emDoubts (f := fun a => dbC (fun j => gm m 146 0 (20 * p + (5 * j + a))) j 4 0 0 0) (i := p) (a1 := j) (s := pm m 12 0 0 0) (fun a a0 a1 => ⟨emFar (fun i i0 i1 => by
        obtain ⟨r1, r2⟩ := q2 (5 * i + a) (by omega) (by omega)
        exact ⟨by rw [e]; rfl, r2⟩) ⟨hp.1, by omega⟩ hj ⟨a0, a1⟩, dbC_01 _ _ _ _⟩)
      refine Step.rd h (v := if 3 ≤ sm (fun a => dbC (fun j => gm m 146 0 (20 * p + (5 * j + a))) j 4 0 0 0) 5 0 then 1 else 0) ?_ ?_
      · simp only [FX11_isDoubted, fX11_isDoubted_0, fX11_isDoubted_20, fX11_isDoubted_38, h.soc, ecIsJudge, bnd_ok, if_pos hp, if_neg hp1, if_pos hj, if_pos hp.1, r1, bz_or, if_true]
        simp
      · simp only [FX12_isDoubted, fX12_isDoubted_0, fX12_isDoubted_13, fX12_isDoubted_26, fX12_isDoubted_27, fX12_isDoubted_46, fX12_isDoubted_47, h.isS, emIn, emHolds, bnd_ok, if_pos hp, if_pos hj', r2, z01, o01, if_true]
        simp only [show ¬ ((1 : Int) = 0) by decide, if_false]
        grind
    · have hj' : ¬ (0 ≤ j ∧ j ≤ 3) := by omega
      refine Step.thr h (o := 1) (v := 0) (x := 0) (k := 2) (by decide) ?_ ?_ rfl
      · simp [FX11_isDoubted, fX11_isDoubted_0, fX11_isDoubted_20, fX11_isDoubted_38, h.soc, ecIsJudge, bnd_ok, hp, hp1, hj]
      · simp [FX12_isDoubted, fX12_isDoubted_0, fX12_isDoubted_13, fX12_isDoubted_26, fX12_isDoubted_27, fX12_isDoubted_46, fX12_isDoubted_47, h.isS, emIn, emHolds, bnd_ok, hp, hj']
  · refine Step.thr h (o := 3) (v := 0) (x := 0) (k := 1) (by decide) ?_ ?_ rfl
    · simp [FX11_isDoubted, fX11_isDoubted_0, fX11_isDoubted_20, fX11_isDoubted_38, h.soc, bnd_ok, hp]
    · simp [FX12_isDoubted, fX12_isDoubted_0, fX12_isDoubted_13, fX12_isDoubted_26, fX12_isDoubted_27, fX12_isDoubted_46, fX12_isDoubted_47, h.isS, emHolds, bnd_ok, hp]
theorem op_clock {t : Int} (ht : t ≤ 1000) {c m : St} (h : rl t c m) (p w : Int) : Step t (cdn 3 1 9) c m (FX11_clock 0 p w c) (FX12_clock 0 p w m) := by
  by_cases hp : 0 ≤ p ∧ p < gm m 12 0 1
  · have hp1 : ¬ p = -1 := by omega
    have hn := h.n
    have hp9 : 0 ≤ p ∧ p < 10 := by omega
    by_cases hw : 0 ≤ w ∧ w ≤ 3
    · obtain ⟨⟨q1, q2, q3⟩, ⟨q4, q5, q6⟩, q7, q8⟩ := (h.hK p hp.1 (by omega)).2 hp.2
      have r1 := ecTime (a0 := p) (s := c) (by omega) (by omega) (by omega) (by omega)
      have r2 := emTimeOf (a0 := 0) (a1 := p) (s := pm m 12 0 0 0) hp.1 hp9.2 q2 (show gm m 143 0 p ≤ 1000000 by omega) q5 (show gm m 144 0 p ≤ 1000000 by omega)
      refine Step.rd h (v := if w = 0 then gm m 143 0 p else if w = 1 then gm m 144 0 p else if w = 2 then gm m 145 0 p else if gm m 144 0 p = -1 then -1 else gm m 144 0 p - gm m 143 0 p + 1) ?_ ?_
      · simp [FX11_clock, fX11_clock_0, fX11_clock_20, fX11_clock_40, fX11_clock_68, fX11_clock_73, fX11_clock_78, fX11_clock_83, h.soc, ecWithin, bnd_ok, hp, hp1, hw, r1, q1, q4, q7]
        grind
      · simp [FX12_clock, fX12_clock_0, fX12_clock_13, fX12_clock_26, fX12_clock_27, fX12_clock_35, fX12_clock_48, fX12_clock_62, fX12_clock_76, fX12_clock_81, h.isS, emIn, emHolds, bnd_ok, hp, hw, r2, hp9]
        simp [gm_pm]
        grind
    · refine Step.thr h (o := 1) (v := 0) (x := 0) (k := 2) (by decide) ?_ ?_ rfl
      · simp [FX11_clock, fX11_clock_0, fX11_clock_20, fX11_clock_40, fX11_clock_68, fX11_clock_73, fX11_clock_78, fX11_clock_83, h.soc, ecWithin, bnd_ok, hp, hp1, hw]
      · simp [FX12_clock, fX12_clock_0, fX12_clock_13, fX12_clock_26, fX12_clock_27, fX12_clock_35, fX12_clock_48, fX12_clock_62, fX12_clock_76, fX12_clock_81, h.isS, emIn, emHolds, bnd_ok, hp, hw]
  · refine Step.thr h (o := 3) (v := 0) (x := 0) (k := 1) (by decide) ?_ ?_ rfl
    · simp [FX11_clock, fX11_clock_0, fX11_clock_20, fX11_clock_40, fX11_clock_68, fX11_clock_73, fX11_clock_78, fX11_clock_83, h.soc, bnd_ok, hp]
    · simp [FX12_clock, fX12_clock_0, fX12_clock_13, fX12_clock_26, fX12_clock_27, fX12_clock_35, fX12_clock_48, fX12_clock_62, fX12_clock_76, fX12_clock_81, h.isS, emHolds, bnd_ok, hp]
