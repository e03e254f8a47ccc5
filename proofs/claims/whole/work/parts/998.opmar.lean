/-! A march: the call. -/
def maT : List (Nat × Option Int) := [(1, some 3), (2, some 2), (2, some 4), (2, some 5), (29, none), (6, some 12), (6, some 13), (6, some 14), (19, none), (20, none), (21, none), (5, some 4), (1, some 7)]
def maU : List (Nat × Option Int) := [(131, none), (138, none), (139, none), (140, none), (141, none), (143, none), (144, none), (145, none), (148, none), (149, none), (150, none), (147, none), (130, none)]
theorem march_lp {t l e : Int} (ht : 0 ≤ t ∧ t < 1000) {c0 m0 : St} (h : rl t c0 m0) (hl : 0 ≤ l ∧ l < 2) (h1 : gm m0 130 0 l = 1) (he : 0 ≤ e ∧ e ≤ 60) : ∀ (d n n2 : Nat) (i B G : Int) (c m : St), mvX t l B G c m → mvF l c0 m0 c m → B + d ≤ 60 * (t + 1) → G + 60 * d ≤ 3600 * (t + 1) → 0 ≤ i → i + d = e → d < n → d < n2 →
    ∃ c' m' v, fX11_march_55 (kX11_march n) 0 e l i c = some (0, v, c') ∧ fX12_march_58 (kX12_march n2) 0 l e i m = some (0, v, m') ∧ rl (t + 1) c' m' ∧ Kp maT c0 c' ∧ Kp maU m0 m' ∧ m'.2 = m0.2
  | 0, n, n2, i, B, G, c, m, X, F, hB, hG, i0, i1, hn, hn2 => by
    obtain ⟨x1, -⟩ := X.2.2.1
    refine ⟨c, m, gm m 131 0 l, ?_, ?_, h.mid hl h1 X F (by omega) (by omega), F.1.1.wk (by decide), F.1.2.1.wk (by decide), F.1.2.2.2⟩
    · simp only [fX11_march_55, fX11_march_96, if_pos hl.1, x1]
      rw [if_neg (by omega)]
    · simp only [fX12_march_58, fX12_march_93, if_pos hl]
      rw [if_neg (by omega)]
  | d + 1, n, n2, i, B, G, c, m, X, F, hB, hG, i0, i1, hn, hn2 => by
    obtain ⟨n, rfl⟩ : ∃ n', n = n' + 1 := ⟨n - 1, by omega⟩
    obtain ⟨n2, rfl⟩ : ∃ n', n2 = n' + 1 := ⟨n2 - 1, by omega⟩
    obtain ⟨a1, -⟩ := h.hL.1 l hl.1 hl.2
    have hn9 := h.n
    have b6 : gm c 1 l 6 = 1 := by rw [F.1.1.f (by decide)]; omega
    have b7 : gm c 1 l 7 = 0 := by rw [F.1.1.f (by decide)]; omega
    have b130 : gm m 130 0 l = 1 := by rw [F.1.2.1.k (by decide)]; exact h1
    have b12 : gm m 12 0 1 = gm m0 12 0 1 := F.1.2.1.k (by decide) _ _
    have w1 : wr (i + 1) = i + 1 := wq (by omega) (by omega)
    have ij : ¬ (1 : Int) = 0 := by omega
    have go := ecGoesOn l c
    rw [if_pos (show gm c 1 l 6 ≠ 0 ∧ gm c 1 l 7 = 0 by omega)] at go
    obtain ⟨c1, m1, o, ho, X1, F1, g1, g2⟩ := min_one X hl (by rw [b12]; exact hn9) (by omega) (by omega) (by omega)
    have FF := F.tr F1
    rcases ho with ho | ho
    · subst ho
      have h2 := h.mid hl h1 X1 FF (by omega) (by omega)
      obtain ⟨c2, m2, e1, e2, h3, k1, k2, k3, k4, k5⟩ := h2.end (by omega) hl (by rw [FF.1.2.1.k (by decide)]; exact h1)
      rw [if_neg (by omega), e1] at g2
      simp only [bnd_ok] at g2
      obtain ⟨-, -, q3, -⟩ := h3.hL.1 l hl.1 hl.2
      obtain ⟨⟨q4, -⟩, -⟩ := q3 (by omega)
      have go2 := ecGoesOn l c2
      rw [if_neg (show ¬ (gm c2 1 l 6 ≠ 0 ∧ gm c2 1 l 7 = 0) by omega)] at go2
      refine ⟨c2, m2, gm m2 131 0 l, ?_, ?_, h3, (FF.1.1.wk (by decide)).tr (k1.wk (by decide)), (FF.1.2.1.wk (by decide)).tr (k2.wk (by decide)), k3.trans FF.1.2.2.2⟩
      · have E : fX11_march_55 (kX11_march (n + 1)) 0 e l i c = fX11_march_55 (kX11_march n) 0 e l (i + 1) c2 := by
          generalize hR : fX11_march_55 (kX11_march n) 0 e l (i + 1) c2 = R
          simp only [fX11_march_55, if_pos hl.1, go, bnd_ok, if_neg ij, g2, w1]
          rw [if_pos (by omega), uX11_march_55, hR]
        rw [E]
        simp only [fX11_march_55, fX11_march_96, if_pos hl.1, go2, bnd_ok, if_true, q4, ite_self]
      · have E : fX12_march_58 (kX12_march (n2 + 1)) 0 l e i m = fX12_march_58 (kX12_march n2) 0 l e (i + 1) m2 := by
          generalize hR : fX12_march_58 (kX12_march n2) 0 l e (i + 1) m2 = R
          simp only [fX12_march_58, fX12_march_87, if_pos hl, b130, if_true, g1, bnd_ok, e2, w1]
          rw [if_pos (by omega), uX12_march_58, hR]
        rw [E]
        simp only [fX12_march_58, fX12_march_93, if_pos hl, k5, if_neg (show ¬ (2 : Int) = 1 by omega), ite_self]
    · subst ho
      rw [if_pos rfl] at g2
      obtain ⟨c2, m2, v, e1, e2, e3⟩ := march_lp ht h hl h1 he d n n2 (i + 1) (B + 1) (G + 60) c1 m1 X1 FF (by omega) (by omega) (by omega) (by omega) (by omega) (by omega)
      refine ⟨c2, m2, v, ?_, ?_, e3⟩
      · rw [← e1]
        generalize hR : fX11_march_55 (kX11_march n) 0 e l (i + 1) c1 = R
        simp only [fX11_march_55, if_pos hl.1, go, bnd_ok, if_neg ij, g2, w1]
        rw [if_pos (by omega), uX11_march_55, hR]
      · rw [← e2]
        generalize hR : fX12_march_58 (kX12_march n2) 0 l e (i + 1) m1 = R
        simp only [fX12_march_58, fX12_march_87, if_pos hl, b130, if_true, g1, bnd_ok, if_neg ij, w1]
        rw [if_pos (by omega), uX12_march_58, hR]
theorem op_march {t : Int} (ht : 0 ≤ t ∧ t < 1000) {c m : St} (h : rl t c m) (l e : Int) : Step t (cdn 1 2 9) c m (FX11_march 0 l e c) (FX12_march 0 l e m) := by
  have i1 : ¬ (1 : Int) = 0 := by omega
  by_cases hl : 0 ≤ l ∧ l < 2
  · have hl1 : ¬ l = -1 := by omega
    by_cases he : 1 ≤ e ∧ e ≤ 60
    · obtain ⟨L1, -⟩ := h.hL.1 l hl.1 hl.2
      have g := ecGoesOn l c
      by_cases h1 : gm m 130 0 l = 1
      · rw [if_pos (by omega)] at g
        have h' := h.z 0
        obtain ⟨c', m', v, e1, e2, e3, e4, e5, e6⟩ := march_lp ht h' hl h1 (e := e) (by omega) e.toNat 9999 9999 0 (60 * t) (3600 * t) c (pm m 12 0 0 0) (h'.toX hl h1) (mvF.rf _ _ _) (by omega) (by omega) (by omega) (by omega) (by omega) (by omega)
        refine Step.ok (T := maT) (U := (12, some 0) :: maU) (v := v) (c' := c') (m' := m') ?_ ?_ e4 ((Kp.pm (Kp.rf _ _) (Or.inr (by decide))).tr (e5.wk (by decide))) (by decide) (by decide) (by rw [e5.k (by decide)]; simp [gm_pm]) e6 e3
        · simp only [FX11_march, fX11_march_0, fX11_march_31, fX11_march_52, h.lea, if_pos hl, bnd_ok, if_neg hl1, ecWithin, if_pos he, if_neg i1, if_pos hl.1, g]
          exact e1
        · simp only [FX12_march, fX12_march_0, fX12_march_22, fX12_march_32, fX12_march_47, fX12_march_55, emIsLeague, if_pos hl, bnd_ok, emIn, if_pos he, if_neg i1, h1, if_true, emHolds]
          exact e2
      · rw [if_neg (by omega)] at g
        refine Step.thr h (o := 2) (v := 0) (x := 0) (k := 2) (by decide) ?_ ?_ rfl
        · simp only [FX11_march, fX11_march_0, fX11_march_31, fX11_march_52, h.lea, if_pos hl, bnd_ok, if_neg hl1, ecWithin, if_pos he, if_neg i1, if_pos hl.1, g, if_true]
        · simp only [FX12_march, fX12_march_0, fX12_march_22, fX12_march_32, fX12_march_46, fX12_march_47, emIsLeague, if_pos hl, bnd_ok, emIn, if_pos he, if_neg i1, if_neg h1, emHolds]
          simp
    · refine Step.thr h (o := 1) (v := 0) (x := 0) (k := 1) (by decide) ?_ ?_ rfl
      · simp only [FX11_march, fX11_march_0, fX11_march_20, h.lea, if_pos hl, bnd_ok, if_neg hl1, ecWithin, if_neg he, if_true]
      · simp only [FX12_march, fX12_march_0, fX12_march_21, fX12_march_22, fX12_march_47, emIsLeague, if_pos hl, bnd_ok, emIn, if_neg he, if_neg i1, if_true, emHolds]
  · refine Step.thr h (o := 1) (v := 0) (x := 0) (k := 1) (by decide) ?_ ?_ rfl
    · simp only [FX11_march, fX11_march_0, fX11_march_20, h.lea, if_neg hl, bnd_ok, if_true]
    · simp only [FX12_march, fX12_march_0, fX12_march_21, fX12_march_22, fX12_march_47, emIsLeague, if_neg hl, bnd_ok, if_true, emHolds]
      simp
