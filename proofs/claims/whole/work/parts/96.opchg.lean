/-! Places in the order change: the call. -/
theorem rl.row {t : Int} {c m : St} (h : rl t c m) {l : Int} (hl : 0 ≤ l ∧ l < 2) : rwc l (gm m 126 0 l) c m ∧ dis m l (gm m 126 0 l) ∧ ∀ k : Int, 0 ≤ k → k < gm m 126 0 l → gm m 102 0 (gm m 127 0 (10 * l + k)) = l := by
  obtain ⟨⟨b1, b2, b3⟩, -, b4, b5, -⟩ := h.hO.2 l hl.1 hl.2
  exact ⟨⟨b1, ⟨b2, b3⟩, fun k k0 k1 => ⟨(b4 k k0 k1).1, (b4 k k0 k1).2.1⟩⟩, b5, fun k k0 k1 => (b4 k k0 k1).2.2.1⟩
theorem ecChange {c m : St} {l e a b p q : Int} (H : chH l e a b c m) (hp : gm m 127 0 (10 * l + a) = p) (hq : gm m 127 0 (10 * l + b) = q) (hp9 : 0 ≤ p ∧ p < 10) (hpl : gm m 102 0 p = l) (hq9 : 0 ≤ q ∧ q < 10) (hql : gm m 102 0 q = l) : ∃ v : Int, (v = 0 ∨ v = 1) ∧ FX4_changePlaces (2 * l) p q c = some (0, v, if v = 1 then cSw c (2 * l) a b else c) ∧ fX12_change_116 (kX12_change 9999) 0 p q m = some (0, v, if v = 1 then mSw m l a b else m) := by
  obtain ⟨hl, hw, hr, hd, he, hx, ha, hb, hab⟩ := id H
  have he2 := hr.2.1
  obtain ⟨v, v1, v2, v3⟩ := chg_lp H (e - 1).toNat 9999 9999 0 (by omega) (by omega) (by omega) (by omega)
  have p1 := hr.2.2 a ha.1 ha.2
  have p2 := hr.2.2 b hb.1 hb.2
  refine ⟨v, v1, ?_, ?_⟩
  · have ep := ecPlaceOf_lp hr hd ha hp a.toNat 9999 0 (by omega) (by omega) (by omega)
    have eq := ecPlaceOf_lp hr hd hb hq b.toNat 9999 0 (by omega) (by omega) (by omega)
    have es := ecSwap hr.1 he2 ha hb (by omega) (by omega)
    simp only [FX4_changePlaces, fX4_changePlaces_0, FX4_placeOf, fX4_placeOf_0, ep, eq, bnd_ok, es]
    exact v2
  · simp only [fX12_change_116, if_pos hp9, emPlaceIn hl he he2.2 hd ha hp hp9 hpl, emPlaceIn hl he he2.2 hd hb hq hq9 hql, bnd_ok, hpl]
    exact v3
theorem op_change {t : Int} {c m : St} (h : rl t c m) (p q : Int) : Step t (cdn 3 1 2) c m (FX11_change 0 p q c) (FX12_change 0 p q m) := by
  have hn := h.n
  by_cases hp : 0 ≤ p ∧ p < gm m 12 0 1
  · have hp1 : ¬ p = -1 := by omega
    have hp9 : 0 ≤ p ∧ p < 10 := by omega
    by_cases hq : 0 ≤ q ∧ q < gm m 12 0 1
    · have hq1 : ¬ q = -1 := by omega
      have hq9 : 0 ≤ q ∧ q < 10 := by omega
      obtain ⟨-, -, -, s5, s6⟩ := h.so hp.1 hp.2
      obtain ⟨-, -, -, u5, u6⟩ := h.so hq.1 hq.2
      obtain ⟨o1, o2, o3, o4, o5⟩ := h.hO.1 p hp9.1 hp9.2
      obtain ⟨o3, o6⟩ := o3 hp.2
      obtain ⟨z1, z2, z3, z4, z5⟩ := h.hO.1 q hq9.1 hq9.2
      obtain ⟨z3, z6⟩ := z3 hq.2
      obtain ⟨l, hl⟩ : ∃ l, gm m 102 0 p = l := ⟨_, rfl⟩
      rw [hl] at s5 s6
      have hl1 : ¬ l = -1 := by omega
      obtain ⟨L1, L2⟩ := h.hL.1 l s6.1 s6.2
      have L3 : gm c 1 l 6 = 0 ↔ gm m 130 0 l = 0 := by omega
      by_cases he : p = q
      · refine Step.thr h (o := 1) (v := 0) (x := 0) (k := 2) (by decide) ?_ ?_ rfl
        · simp only [FX11_change, fX11_change_0, fX11_change_22, fX11_change_32, fX11_change_47, fX11_change_100, fX11_change_111, h.soc, bnd_ok, if_pos hp, if_neg hp1, if_pos hq, if_neg hq1, if_pos he]
        · have E : FX12_change 0 p q m = fX12_change_108 (kX12_change 9999) 0 p q 2 0 m := by
            simp only [FX12_change, fX12_change_0, fX12_change_20, fX12_change_21, fX12_change_77, fX12_change_78, fX12_change_89, fX12_change_98, fX12_change_107, h.isS, bnd_ok, if_pos hp, if_pos hq, if_neg (show ¬ (1 : Int) = 0 by omega), if_pos hp9, if_pos hq9, hl, if_pos s6, if_pos he]
            simp only [ite_self]
            repeat (first | rfl | split)
          rw [E]
          simp only [fX12_change_108, emHolds, bnd_ok]
          simp
      · by_cases hc : gm m 124 0 p = 1 ∧ gm m 124 0 q = 1 ∧ gm m 102 0 q = l ∧ gm m 130 0 l = 0
        · obtain ⟨c1, c2, c3, c4⟩ := hc
          obtain ⟨-, -, -, -, b5⟩ := h.hO.2 l s6.1 s6.2
          obtain ⟨a, a0, a1, a2⟩ := b5 p hp.1 hp.2 hl c1
          obtain ⟨b, b0, b1, b2⟩ := b5 q hq.1 hq.2 c3 c2
          obtain ⟨r1, r2, r3⟩ := (h.z 0).row s6
          have H : chH l (gm m 126 0 l) a b c (pm m 12 0 0 0) := ⟨s6, rwf.of (h.z 0), r1, r2, rfl, r3, ⟨a0, a1⟩, ⟨b0, b1⟩, fun w => he (by rw [← a2, ← b2, w])⟩
          obtain ⟨v, v1, v2, v3⟩ := ecChange H a2 b2 hp9 hl hq9 c3
          have ec : FX11_change 0 p q c = some (0, v, if v = 1 then cSw c (2 * l) a b else c) := by
            have n1 : ¬ gm c 6 p 15 = 0 := by omega
            have n2 : ¬ gm c 6 q 15 = 0 := by omega
            simp only [FX11_change, fX11_change_0, fX11_change_22, fX11_change_32, fX11_change_47, fX11_change_100, fX11_change_111, h.soc, h.lea, bnd_ok, if_pos hp, if_neg hp1, if_pos hq, if_neg hq1, if_neg he, if_pos hp.1, s5, if_pos s6, if_neg hl1, if_neg n1, if_pos hq.1, if_neg n2, u5, c3, if_pos s6.1, L3.mpr c4, if_true, v2]
            rw [if_pos v1]
          have em : FX12_change 0 p q m = some (0, v, if v = 1 then mSw (pm m 12 0 0 0) l a b else pm m 12 0 0 0) := by
            simp only [FX12_change, fX12_change_0, fX12_change_20, fX12_change_21, fX12_change_77, fX12_change_78, fX12_change_89, fX12_change_98, fX12_change_107, fX12_change_108, h.isS, emHolds, bnd_ok, if_pos hp, if_pos hq, if_neg (show ¬ (1 : Int) = 0 by omega), if_pos hp9, if_pos hq9, hl, if_pos s6, if_neg he, c1, c2, c3, c4, if_true, v3]
          rcases v1 with v1 | v1
          · subst v1
            refine Step.rd h (v := 0) ?_ ?_
            · rw [ec]; simp
            · rw [em]; simp
          · subst v1
            rw [if_pos rfl] at ec em
            have kc : Kp [(27, none)] c (cSw c (2 * l) a b) := cSw_kp c (2 * l) a b
            have km : Kp [(12, some 0), (127, none)] m (mSw (pm m 12 0 0 0) l a b) := (Kp.pm (Kp.rf _ _) (Or.inr (by decide))).tr ((mSw_kp (pm m 12 0 0 0) l a b).wk (by decide))
            refine Step.ok ec em kc km (by decide) (by decide) (by rw [(mSw_kp (pm m 12 0 0 0) l a b).k (by decide)]; simp [gm_pm]) rfl ?_
            refine rl.keep0 h kc km rfl ?_ ?_ ?_ ?_ ?_ ?_ ?_ ?_ ?_ ?_ ?_ ?_ ?_ ?_ <;> first | exact fun e => absurd e (by decide) | intro _
            obtain ⟨R1, R2⟩ := h.hO
            refine ⟨?_, fun z z0 z1 => ?_⟩
            · simp only [kc.f (show fre _ 6 15 = true by decide), kc.f (show fre _ 6 11 = true by decide), km.f (show fre _ 12 1 = true by decide), km.k (show frk _ 124 = true by decide), km.k (show frk _ 125 = true by decide)]
              exact R1
            · obtain ⟨d1, d2, d3, d4, d5⟩ := R2 z z0 z1
              simp only [kc.k (show frk _ 4 = true by decide), km.f (show fre _ 12 1 = true by decide), km.k (show frk _ 124 = true by decide), km.k (show frk _ 126 = true by decide), km.k (show frk _ 121 = true by decide), km.k (show frk _ 102 = true by decide)]
              have x0 : ∀ k, gm (pm m 12 0 0 0) 127 0 k = gm m 127 0 k := fun k => rfl
              by_cases ez : z = l
              · subst ez
                have r4 := RR.sw r1 ⟨a0, a1⟩ ⟨b0, b1⟩
                obtain ⟨-, -, -, -, r5, r6, r7, -, -⟩ := r4
                refine ⟨d1, d2, fun k k0 k1 => ?_, r7 r2, fun i i0 i1 i2 i3 => ?_⟩
                · obtain ⟨y1, y2⟩ := r5.2.2 k k0 k1
                  obtain ⟨k', g0, g1, g2⟩ := (r6 _).mp ⟨k, k0, k1, rfl⟩
                  rw [x0] at g2
                  have g3 := d3 k' g0 g1
                  rw [g2] at g3
                  exact ⟨y1, g3.2⟩
                · obtain ⟨k, g0, g1, g2⟩ := d5 i i0 i1 i2 i3
                  exact (r6 i).mpr ⟨k, g0, g1, g2⟩
              · have y1 : ∀ k, gm (cSw c (2 * l) a b) 27 (2 * z) k = gm c 27 (2 * z) k := fun k => by rw [cSw_at, if_neg (by omega), if_neg (by omega)]
                have y2 : ∀ k : Int, 0 ≤ k → k < gm m 126 0 z → gm (mSw (pm m 12 0 0 0) l a b) 127 0 (10 * z + k) = gm m 127 0 (10 * z + k) := fun k k0 k1 => by
                  have : 0 ≤ gm m 126 0 l ∧ gm m 126 0 l ≤ 10 := r1.2.1
                  rw [mSw_at, if_neg (by omega), if_neg (by omega)]; rfl
                refine ⟨d1, d2, fun k k0 k1 => ?_, fun k k' k0 k1 k2 k3 => ?_, fun i i0 i1 i2 i3 => ?_⟩
                · rw [y1, y2 k k0 k1]; exact d3 k k0 k1
                · rw [y2 k k0 k1, y2 k' k2 k3]; exact d4 k k' k0 k1 k2 k3
                · obtain ⟨k, g0, g1, g2⟩ := d5 i i0 i1 i2 i3
                  exact ⟨k, g0, g1, by rw [y2 k g0 g1]; exact g2⟩
        · refine Step.thr h (o := 2) (v := 0) (x := 0) (k := 3) (by decide) ?_ ?_ rfl
          · by_cases c1 : gm m 124 0 p = 1
            · have n1 : ¬ gm c 6 p 15 = 0 := by omega
              by_cases c2 : gm m 124 0 q = 1
              · have n2 : ¬ gm c 6 q 15 = 0 := by omega
                by_cases c3 : l = gm m 102 0 q
                · have c4 : ¬ gm c 1 l 6 = 0 := fun w => hc ⟨c1, c2, c3.symm, L3.mp w⟩
                  simp only [FX11_change, fX11_change_0, fX11_change_22, fX11_change_32, fX11_change_47, fX11_change_100, fX11_change_111, h.soc, h.lea, bnd_ok, if_pos hp, if_neg hp1, if_pos hq, if_neg hq1, if_neg he, if_pos hp.1, s5, if_pos s6, if_neg hl1, if_neg n1, if_pos hq.1, if_neg n2, u5, if_pos c3, if_pos s6.1, if_neg c4]
                · simp only [FX11_change, fX11_change_0, fX11_change_22, fX11_change_32, fX11_change_47, fX11_change_100, fX11_change_111, h.soc, h.lea, bnd_ok, if_pos hp, if_neg hp1, if_pos hq, if_neg hq1, if_neg he, if_pos hp.1, s5, if_pos s6, if_neg hl1, if_neg n1, if_pos hq.1, if_neg n2, u5, if_neg c3]
              · have n2 : gm c 6 q 15 = 0 := by omega
                simp only [FX11_change, fX11_change_0, fX11_change_22, fX11_change_32, fX11_change_47, fX11_change_100, fX11_change_111, h.soc, h.lea, bnd_ok, if_pos hp, if_neg hp1, if_pos hq, if_neg hq1, if_neg he, if_pos hp.1, s5, if_pos s6, if_neg hl1, if_neg n1, if_pos hq.1, if_pos n2]
            · have n1 : gm c 6 p 15 = 0 := by omega
              simp only [FX11_change, fX11_change_0, fX11_change_22, fX11_change_32, fX11_change_47, fX11_change_100, fX11_change_111, h.soc, h.lea, bnd_ok, if_pos hp, if_neg hp1, if_pos hq, if_neg hq1, if_neg he, if_pos hp.1, s5, if_pos s6, if_neg hl1, if_pos n1]
          · have E : FX12_change 0 p q m = fX12_change_108 (kX12_change 9999) 0 p q 3 0 m := by
              simp only [FX12_change, fX12_change_0, fX12_change_20, fX12_change_21, fX12_change_77, fX12_change_78, fX12_change_89, fX12_change_98, fX12_change_107, h.isS, bnd_ok, if_pos hp, if_pos hq, if_neg (show ¬ (1 : Int) = 0 by omega), if_pos hp9, if_pos hq9, hl, if_pos s6, if_neg he, if_true]
              by_cases c1 : gm m 124 0 p = 0
              · rw [if_pos c1]
              · rw [if_neg c1]
                by_cases c2 : gm m 124 0 q = 0
                · rw [if_pos c2]
                · rw [if_neg c2]
                  by_cases c3 : l = gm m 102 0 q
                  · rw [if_pos c3, if_neg (fun w => hc ⟨by omega, by omega, c3.symm, w⟩)]
                  · rw [if_neg c3]
            rw [E]
            simp only [fX12_change_108, emHolds, bnd_ok]
            simp
    · refine Step.thr h (o := 3) (v := 0) (x := 0) (k := 1) (by decide) ?_ ?_ rfl
      · simp only [FX11_change, fX11_change_0, fX11_change_22, fX11_change_32, fX11_change_47, fX11_change_100, fX11_change_111, h.soc, bnd_ok, if_pos hp, if_neg hp1, if_neg hq]
        simp
      · simp only [FX12_change, fX12_change_0, fX12_change_20, fX12_change_21, fX12_change_77, fX12_change_78, fX12_change_89, fX12_change_98, fX12_change_107, fX12_change_108, h.isS, emHolds, bnd_ok, if_pos hp, if_neg hq]
        simp
  · refine Step.thr h (o := 3) (v := 0) (x := 0) (k := 1) (by decide) ?_ ?_ rfl
    · simp only [FX11_change, fX11_change_0, fX11_change_22, fX11_change_32, fX11_change_47, fX11_change_100, fX11_change_111, h.soc, bnd_ok, if_neg hp]
      simp
    · simp only [FX12_change, fX12_change_0, fX12_change_20, fX12_change_21, fX12_change_77, fX12_change_78, fX12_change_89, fX12_change_98, fX12_change_107, fX12_change_108, h.isS, emHolds, bnd_ok, if_neg hp]
      simp
