/-! Feuds are parted. -/
/-- the row of one league may have been changed about, and nothing else -/
def RR (l e : Int) (c m c' m' : St) : Prop := Kp [(27, none)] c c' ∧ Kp [(127, none)] m m' ∧ (∀ r k : Int, r ≠ 2 * l → gm c' 27 r k = gm c 27 r k) ∧ (∀ j : Int, (j < 10 * l ∨ 10 * l + 10 ≤ j) → gm m' 127 0 j = gm m 127 0 j) ∧ rwc l e c' m' ∧ (∀ q, mem m' l e q ↔ mem m l e q) ∧ (dis m l e → dis m' l e) ∧ c'.2 = c.2 ∧ m'.2 = m.2
theorem RR.rf {l e : Int} {c m : St} (h : rwc l e c m) : RR l e c m c m := ⟨Kp.rf _ _, Kp.rf _ _, fun _ _ _ => rfl, fun _ _ => rfl, h, fun _ => Iff.rfl, id, rfl, rfl⟩
theorem RR.tr {l e : Int} {c m c' m' c2 m2 : St} (h : RR l e c m c' m') (g : RR l e c' m' c2 m2) : RR l e c m c2 m2 := by
  obtain ⟨h1, h2, h3, h4, h5, h6, h7, h8, h9⟩ := h
  obtain ⟨g1, g2, g3, g4, g5, g6, g7, g8, g9⟩ := g
  exact ⟨h1.tr g1, h2.tr g2, fun r k hr => (g3 r k hr).trans (h3 r k hr), fun j hj => (g4 j hj).trans (h4 j hj), g5, fun q => (g6 q).trans (h6 q), fun z => g7 (h7 z), g8.trans h8, g9.trans h9⟩
theorem RR.sw {l e a b : Int} {c m : St} (h : rwc l e c m) (ha : 0 ≤ a ∧ a < e) (hb : 0 ≤ b ∧ b < e) : RR l e c m (cSw c (2 * l) a b) (mSw m l a b) := by
  have he := h.2.1
  refine ⟨cSw_kp _ _ _ _, mSw_kp _ _ _ _, fun r k hr => ?_, fun j hj => ?_, h.sw ha hb, fun q => mem.sw ha hb, dis.sw ha hb, rfl, rfl⟩
  · rw [cSw_at, if_neg (fun z => hr z.1), if_neg (fun z => hr z.1)]
  · rw [mSw_at, if_neg (by omega), if_neg (by omega)]
theorem ecParts_stuck {c m : St} (hf : rwf c m) {l e : Int} (hr : rwc l e c m) (h0 : ffp m l e 0) (h2 : e ≤ 2) : ∀ (d n : Nat) (i : Int), d < n → 0 ≤ i → i + d = 10 → fX4_partFeuds_2 (kX4_partFeuds n) (2 * l) i c = some (0, 0, c)
  | 0, n, i, hn, h9, hi => by
    simp only [fX4_partFeuds_2, fX4_partFeuds_56]
    rw [if_neg (by omega)]
  | d + 1, n, i, hn, h9, hi => by
    obtain ⟨n, rfl⟩ : ∃ n', n = n' + 1 := ⟨n - 1, by omega⟩
    obtain ⟨f, f1, f2⟩ := ecFirst hf hr
    have f3 := ffp_eq f2 h0
    subst f3
    have w1 : wr ((0 : Int) + 2) = 2 := by rw [wq (by omega) (by omega)]; omega
    have w2 : wr ((0 : Int) - 1) = -1 := by rw [wq (by omega) (by omega)]; omega
    simp only [fX4_partFeuds_2, fX4_partFeuds_19, fX4_partFeuds_42, fX4_partFeuds_50]
    rw [if_pos (by omega), f1]
    simp only [bnd_ok, w1, w2, hr.1]
    rw [if_neg (by omega), if_neg (by omega), ecSwap0 hr.1 hr.2.1 (by omega)]
    simp only [bnd_ok, uX4_partFeuds_2]
    rw [wq (by omega) (by omega)]
    exact ecParts_stuck hf hr h0 h2 d n (i + 1) (by omega) (by omega) (by omega)
theorem parts_lp {l : Int} (hl : 0 ≤ l ∧ l < 2) : ∀ (d n n2 : Nat) (i f e : Int) (c m : St), rwf c m → rwc l e c m → gm m 126 0 l = e → ffp m l e f → d < n → d < n2 → 0 ≤ i → i + d = 10 →
    ∃ c' m', fX4_partFeuds_2 (kX4_partFeuds n) (2 * l) i c = some (0, 0, c') ∧ fX12_findsOrder_135 (kX12_findsOrder n2) 0 l e f i m = some (0, 0, m') ∧ RR l e c m c' m'
  | 0, n, n2, i, f, e, c, m, hf, hr, h6, h0, hn, hn2, h9, hi => by
    refine ⟨c, m, ?_, ?_, RR.rf hr⟩
    · simp only [fX4_partFeuds_2, fX4_partFeuds_56]
      rw [if_neg (by omega)]
    · simp only [fX12_findsOrder_135, fX12_findsOrder_208]
      rw [if_neg (by omega)]
  | d + 1, n, n2, i, f, e, c, m, hf, hr, h6, h0, hn, hn2, h9, hi => by
    obtain ⟨n, rfl⟩ : ∃ n', n = n' + 1 := ⟨n - 1, by omega⟩
    obtain ⟨n2, rfl⟩ : ∃ n', n2 = n' + 1 := ⟨n2 - 1, by omega⟩
    have he := hr.2.1
    obtain ⟨f', f1, f2⟩ := ecFirst hf hr
    have f3 := ffp_eq f2 h0
    subst f3
    by_cases g0 : f' = -1
    · refine ⟨c, m, ?_, ?_, RR.rf hr⟩
      · simp only [fX4_partFeuds_2]
        rw [if_pos (by omega), f1]
        simp only [bnd_ok]
        rw [if_pos g0]
      · simp only [fX12_findsOrder_135, fX12_findsOrder_208]
        rw [if_pos (by omega), if_pos g0]
    · have g1 : 0 ≤ f' ∧ f' + 1 < e := by
        rcases h0 with ⟨z, -⟩ | ⟨z1, z2, -⟩ <;> omega
      have w1 : wr (f' + 2) = f' + 2 := wq (by omega) (by omega)
      have w2 : wr (f' + 1) = f' + 1 := wq (by omega) (by omega)
      have w3 : wr (f' - 1) = f' - 1 := wq (by omega) (by omega)
      have w4 : wr (i + 1) = i + 1 := wq (by omega) (by omega)
      have key : ∀ a b : Int, 0 ≤ a ∧ a < e → 0 ≤ b ∧ b < e → FX4_swap (2 * l) a b c = some (0, 0, cSw c (2 * l) a b) ∧ FX12_swaps 0 l a b m = some (0, 0, mSw m l a b) ∧ rwf (cSw c (2 * l) a b) (mSw m l a b) ∧ gm (mSw m l a b) 126 0 l = e := fun a b ha hb => by
        have k1 := hr.2.2 a ha.1 ha.2
        have k2 := hr.2.2 b hb.1 hb.2
        exact ⟨ecSwap hr.1 he ha hb (by omega) (by omega), emSwaps hl (by omega) (by omega), hf.kp (cSw_kp c (2 * l) a b) (mSw_kp m l a b) (by decide), by rw [(mSw_kp m l a b).k (by decide)]; exact h6⟩
      by_cases g2 : f' + 2 < e
      · obtain ⟨k1, k2, k3, k4⟩ := key (f' + 1) (f' + 2) (by omega) (by omega)
        have k5 := hr.sw (a := f' + 1) (b := f' + 2) (by omega) (by omega)
        obtain ⟨ff, p1, p2⟩ := emFirst k3 hl k5 k4
        obtain ⟨c', m', q1, q2, q3⟩ := parts_lp hl d n n2 (i + 1) ff e _ _ k3 k5 k4 p2 (by omega) (by omega) (by omega) (by omega)
        refine ⟨c', m', ?_, ?_, (RR.sw hr (by omega) (by omega)).tr q3⟩
        · simp only [fX4_partFeuds_2, fX4_partFeuds_19, fX4_partFeuds_42, fX4_partFeuds_50]
          rw [if_pos (by omega), f1]
          simp only [bnd_ok, w1, w2, hr.1]
          rw [if_neg g0, if_pos g2, k1]
          simp only [bnd_ok, uX4_partFeuds_2, w4]
          exact q1
        · simp only [fX12_findsOrder_135, fX12_findsOrder_168, fX12_findsOrder_181, fX12_findsOrder_196, fX12_findsOrder_201, w1, w2]
          rw [if_pos (by omega), if_neg g0, if_pos g2, k2]
          simp only [bnd_ok]
          rw [if_pos g2, p1]
          simp only [bnd_ok, uX12_findsOrder_135, w4]
          exact q2
      · by_cases g3 : f' = 0
        · subst g3
          refine ⟨c, m, ?_, ?_, RR.rf hr⟩
          · exact ecParts_stuck hf hr h0 (by omega) (d + 1) (n + 1) i (by omega) h9 hi
          · simp only [fX12_findsOrder_135, fX12_findsOrder_168, fX12_findsOrder_181, fX12_findsOrder_196, fX12_findsOrder_201, fX12_findsOrder_208, w1, w2]
            rw [if_pos (by omega), if_neg g0, if_neg g2, if_neg (by omega), if_neg g2, if_pos trivial, uX12_findsOrder_135]
            simp only [fX12_findsOrder_135, fX12_findsOrder_208]
            split <;> simp
        · obtain ⟨k1, k2, k3, k4⟩ := key f' (f' - 1) (by omega) (by omega)
          have k5 := hr.sw (a := f') (b := f' - 1) (by omega) (by omega)
          obtain ⟨ff, p1, p2⟩ := emFirst k3 hl k5 k4
          obtain ⟨c', m', q1, q2, q3⟩ := parts_lp hl d n n2 (i + 1) ff e _ _ k3 k5 k4 p2 (by omega) (by omega) (by omega) (by omega)
          refine ⟨c', m', ?_, ?_, (RR.sw hr (by omega) (by omega)).tr q3⟩
          · simp only [fX4_partFeuds_2, fX4_partFeuds_19, fX4_partFeuds_42, fX4_partFeuds_50]
            rw [if_pos (by omega), f1]
            simp only [bnd_ok, w1, w2, w3, hr.1]
            rw [if_neg g0, if_neg g2, k1]
            simp only [bnd_ok, uX4_partFeuds_2, w4]
            exact q1
          · simp only [fX12_findsOrder_135, fX12_findsOrder_168, fX12_findsOrder_181, fX12_findsOrder_196, fX12_findsOrder_201, w1, w2, w3]
            rw [if_pos (by omega), if_neg g0, if_neg g2, if_pos (by omega), k2]
            simp only [bnd_ok]
            rw [if_neg g2, if_neg g3, p1]
            simp only [bnd_ok, uX12_findsOrder_135, w4]
            exact q2
