/-! The reference's tables, and the call. -/
theorem emTat_in {c m : St} {l q k : Int} (hl : 0 ≤ l ∧ l < 2) (hH : rlH c m) (hn : gm m 12 0 1 ≤ 10) (d0 : 0 ≤ gm m 12 0 51 ∧ gm m 12 0 51 < 5) (k0 : 0 ≤ k) (k1 : k < gm m 12 0 1) : ∀ (d n : Nat) (o acc : Int), d < n → 0 ≤ o → o + d = gm m 12 0 1 → 0 ≤ acc → acc ≤ o →
    fX12_tableAt_16 (kX12_tableAt n) 0 l q k acc o m = fX12_tableAt_78 (kX12_tableAt (n - d)) 0 l q k (acc + sm (ahf m l k) d o) m
  | 0, n, o, acc, hd, o0, o1, a0, a1 => by
    simp only [fX12_tableAt_16, sm, Int.add_zero]
    rw [if_neg (by omega)]
    rfl
  | d + 1, n, o, acc, hd, o0, o1, a0, a1 => by
    obtain ⟨n, rfl⟩ : ∃ n', n = n' + 1 := ⟨n - 1, by omega⟩
    have hb : 0 ≤ o ∧ o < 10 := by omega
    have ho : o < gm m 12 0 1 := by omega
    have w1 : wr (o + 1) = o + 1 := wq (by omega) (by omega)
    have ea := emAhead hH o0 ho k0 k1 hn d0
    have st : ∀ v : Int, (v = 0 ∨ v = 1) → fX12_tableAt_69 (kX12_tableAt (n + 1)) 0 l q k o v acc m = fX12_tableAt_78 (kX12_tableAt (n - d)) 0 l q k (acc + (v + sm (ahf m l k) d (o + 1))) m := fun v hv => by
      have w2 : wr (acc + v) = acc + v := wq (by omega) (by omega)
      simp only [fX12_tableAt_69, w1, w2]
      rw [uX12_tableAt_16, emTat_in hl hH hn d0 k0 k1 d n (o + 1) (acc + v) (by omega) (by omega) (by omega) (by omega) (by omega), show acc + v + sm (ahf m l k) d (o + 1) = acc + (v + sm (ahf m l k) d (o + 1)) by omega]
    rw [show n + 1 - (d + 1) = n - d by omega]
    show _ = fX12_tableAt_78 (kX12_tableAt (n - d)) 0 l q k (acc + (ahf m l k o + sm (ahf m l k) d (o + 1))) m
    by_cases z : tin m l o ∧ o ≠ k ∧ ahd m o k
    · have ev : ahf m l k o = 1 := by unfold ahf; rw [if_pos z]
      rw [if_pos z.2.2] at ea
      rw [ev, ← st 1 (Or.inr rfl)]
      simp only [fX12_tableAt_16, if_pos ho, if_pos hb, z.1.1, if_true, if_neg z.1.2, if_neg z.2.1, ea, bnd_ok]
      rw [if_neg (by omega)]
    · have ev : ahf m l k o = 0 := by unfold ahf; rw [if_neg z]
      rw [ev, ← st 0 (Or.inl rfl)]
      simp only [fX12_tableAt_16, fX12_tableAt_68, if_pos ho, if_pos hb, ea, bnd_ok, itz]
      by_cases c1 : gm m 102 0 o = l
      · rw [if_pos c1]
        by_cases c2 : gm m 124 0 o = 0
        · rw [if_pos c2]
        · rw [if_neg c2]
          by_cases c3 : o = k
          · rw [if_pos c3]
          · rw [if_neg c3, if_neg (fun y => z ⟨⟨c1, c2⟩, c3, y⟩)]
      · rw [if_neg c1]
theorem emTat_lp {c c2 m : St} {l e q : Int} (hl : 0 ≤ l ∧ l < 2) (hH : rlH c m) (hn : 0 ≤ gm m 12 0 1 ∧ gm m 12 0 1 ≤ 10) (d0 : 0 ≤ gm m 12 0 51 ∧ gm m 12 0 51 < 5) (T : tbI l e (gm m 12 0 1).toNat c2 m) (q0 : 0 ≤ q) : ∀ (d n : Nat) (k : Int), 12 * d + 20 ≤ n → 0 ≤ k → k + d = gm m 12 0 1 → (q < e → k ≤ gm c2 27 (2 * l + 1) q) →
    fX12_tableAt_2 (kX12_tableAt n) 0 l q k m = some (0, if gm m 130 0 l = 2 ∧ q < e then gm c2 27 (2 * l + 1) q else -1, m)
  | 0, n, k, hd, k0, k1, hq => by
    obtain ⟨t1, t2, t3, t4, t5, t6⟩ := T
    simp only [fX12_tableAt_2, fX12_tableAt_121]
    rw [if_neg (by omega)]
    by_cases z : gm m 130 0 l = 2 ∧ q < e
    · have := (t3 q q0 z.2).1
      have := hq z.2
      omega
    · rw [if_neg z]
  | d + 1, n, k, hd, k0, k1, hq => by
    obtain ⟨t1, t2, t3, t4, t5, t6⟩ := id T
    have hb : 0 ≤ k ∧ k < 10 := by omega
    have hk : k < gm m 12 0 1 := by omega
    have w1 : wr (k + 1) = k + 1 := wq (by omega) (by omega)
    have A : fX12_tableAt_2 (kX12_tableAt n) 0 l q k m = fX12_tableAt_78 (kX12_tableAt (n - (gm m 12 0 1).toNat)) 0 l q k (ahn m l k (gm m 12 0 1).toNat) m := by
      have := emTat_in (q := q) hl hH hn.2 d0 k0 hk (gm m 12 0 1).toNat n 0 0 (by omega) (by omega) (by omega) (by omega) (by omega)
      rw [Int.zero_add] at this
      simp only [fX12_tableAt_2, if_pos hk]
      exact this
    obtain ⟨n', hn'⟩ : ∃ n', n - (gm m 12 0 1).toNat = n' + 1 := ⟨n - (gm m 12 0 1).toNat - 1, by omega⟩
    rw [A, hn']
    have nx : (q < e → gm m 130 0 l = 2 → gm c2 27 (2 * l + 1) q ≠ k) → fX12_tableAt_115 (kX12_tableAt (n' + 1)) 0 l q k m = some (0, if gm m 130 0 l = 2 ∧ q < e then gm c2 27 (2 * l + 1) q else -1, m) := fun y => by
      by_cases h2 : gm m 130 0 l = 2
      · rw [← emTat_lp hl hH hn d0 T q0 d n' (k + 1) (by omega) (by omega) (by omega) (fun z => by
          have := hq z
          have := y z h2
          omega)]
        generalize hR : fX12_tableAt_2 (kX12_tableAt n') 0 l q (k + 1) m = R
        simp only [fX12_tableAt_115, w1]
        rw [uX12_tableAt_2, hR]
      · have st : ∀ (d n : Nat) (k : Int), 12 * d + 20 ≤ n → 0 ≤ k → k + d = gm m 12 0 1 → fX12_tableAt_2 (kX12_tableAt n) 0 l q k m = some (0, -1, m) := fun d => by
          induction d with
          | zero =>
            intro n k hd k0 k1
            simp only [fX12_tableAt_2, fX12_tableAt_121]
            rw [if_neg (by omega)]
          | succ d ih =>
            intro n k hd k0 k1
            have hb : 0 ≤ k ∧ k < 10 := by omega
            have hk : k < gm m 12 0 1 := by omega
            have w1 : wr (k + 1) = k + 1 := wq (by omega) (by omega)
            have := emTat_in (q := q) hl hH hn.2 d0 k0 hk (gm m 12 0 1).toNat n 0 0 (by omega) (by omega) (by omega) (by omega) (by omega)
            obtain ⟨n', hn'⟩ : ∃ n', n - (gm m 12 0 1).toNat = n' + 1 := ⟨n - (gm m 12 0 1).toNat - 1, by omega⟩
            rw [hn'] at this
            have e1 : fX12_tableAt_115 (kX12_tableAt (n' + 1)) 0 l q k m = some (0, -1, m) := by
              rw [← ih n' (k + 1) (by omega) (by omega) (by omega)]
              generalize hR : fX12_tableAt_2 (kX12_tableAt n') 0 l q (k + 1) m = R
              simp only [fX12_tableAt_115, w1]
              rw [uX12_tableAt_2, hR]
            simp only [fX12_tableAt_2, if_pos hk]
            rw [this]
            simp only [fX12_tableAt_78, if_pos hb, if_pos hl, if_neg h2, e1, ite_self]
        rw [if_neg (fun z => h2 z.1), ← st d n' (k + 1) (by omega) (by omega) (by omega)]
        generalize hR : fX12_tableAt_2 (kX12_tableAt n') 0 l q (k + 1) m = R
        simp only [fX12_tableAt_115, w1]
        rw [uX12_tableAt_2, hR]
    by_cases c1 : tin m l k
    · obtain ⟨j, ⟨j0, j1⟩, j2⟩ := t5 k k0 (by omega) c1
      obtain ⟨x1, x2, x3⟩ := t3 j j0 j1
      rw [j2] at x3
      rw [x3]
      by_cases c2 : gm m 130 0 l = 2
      · by_cases c3 : j = q
        · simp only [fX12_tableAt_78, if_pos hb, if_pos hl, c1.1, if_neg c1.2, c2, if_true, c3]
          rw [← c3, if_pos ⟨trivial, j1⟩, j2]
        · rw [← nx (fun z _ y => by
            by_cases a1 : j < q
            · have := t4 j q j0 a1 z
              rw [j2, y] at this
              omega
            · have := t4 q j q0 (by omega) j1
              rw [j2, y] at this
              omega)]
          simp only [fX12_tableAt_78, if_pos hb, if_pos hl, c1.1, if_neg c1.2, c2, if_true, if_neg c3]
      · rw [← nx (fun _ z => absurd z c2)]
        simp only [fX12_tableAt_78, if_pos hb, if_pos hl, c1.1, if_neg c1.2, if_neg c2, if_true]
    · rw [← nx (fun z _ y => by
        have := (t3 q q0 z).2.1
        rw [y] at this
        exact c1 this)]
      simp only [fX12_tableAt_78, if_pos hb]
      by_cases a1 : gm m 102 0 k = l
      · rw [if_pos a1, if_pos (by
          by_cases a2 : gm m 124 0 k = 0
          · exact a2
          · exact absurd ⟨a1, a2⟩ c1)]
      · rw [if_neg a1]
theorem emTableAt {c c2 m : St} {l e q : Int} (hl : 0 ≤ l ∧ l < 2) (hH : rlH c m) (hn : 0 ≤ gm m 12 0 1 ∧ gm m 12 0 1 ≤ 10) (d0 : 0 ≤ gm m 12 0 51 ∧ gm m 12 0 51 < 5) (T : tbI l e (gm m 12 0 1).toNat c2 m) (q0 : 0 ≤ q) : FX12_tableAt 0 l q m = some (0, if gm m 130 0 l = 2 ∧ q < e then gm c2 27 (2 * l + 1) q else -1, m) := by
  have := emTat_lp hl hH hn d0 T q0 (gm m 12 0 1).toNat 9999 0 (by omega) (by omega) (by omega) (fun z => ((T.2.2.1 q q0 z).1).1)
  simp only [FX12_tableAt, fX12_tableAt_0]
  exact this
theorem rl.rkC {t : Int} {c m : St} (h : rl t c m) {l : Int} (hl : 0 ≤ l ∧ l < 2) : rkC l c m := ⟨h.inC hl, h.hH, h.hC.1.2⟩
/-- a ranking made anew changes nothing that is held -/
theorem rl.rnk {t : Int} {c c' m : St} (h : rl t c m) {l : Int} (hl : 0 ≤ l ∧ l < 2) (hc : Kp [(27, none), (4, some 1)] c c') (n1 : c'.2 = c.2) (x : ∀ z j, z ≠ 2 * l + 1 → gm c' 27 z j = gm c 27 z j ∧ gm c' 4 z 1 = gm c 4 z 1) : rl t c' m := by
  refine rl.keep (U := []) h hc (Kp.rf _ _) (Int.le_refl _) (fun _ => by rw [n1]) (fun _ => by rw [n1]) (by rw [n1]; exact Int.le_refl _) (by rw [n1]; exact Int.le_refl _) (by unfold rlN; rw [n1]; exact h.hN) ?_ ?_ ?_ ?_ ?_ ?_ ?_ ?_ ?_ ?_ ?_ ?_ ?_ ?_ <;> first | exact fun e => absurd e (by decide) | intro _
  obtain ⟨h1, h2⟩ := h.hO
  refine ⟨fun i i0 i1 => ?_, fun z z0 z1 => ?_⟩
  · rw [hc.k (show frk _ 6 = true by decide), hc.k (show frk _ 6 = true by decide)]
    exact h1 i i0 i1
  · obtain ⟨a1, a2, a3, a4⟩ := h2 z z0 z1
    rw [(x (2 * z) 0 (by omega)).2]
    refine ⟨a1, a2, fun k k0 k1 => ?_, a4⟩
    rw [(x (2 * z) k (by omega)).1]
    exact a3 k k0 k1
theorem op_table {t : Int} {c m : St} (h : rl t c m) (l q : Int) : Step t (cdn 3 1 9) c m (FX11_table 0 l q c) (FX12_table 0 l q m) := by
  have i1 : ¬ (1 : Int) = 0 := by omega
  by_cases hq : q < 0
  · refine Step.thr h (o := 3) (v := 0) (x := 0) (k := 1) (by decide) ?_ ?_ rfl
    · simp only [FX11_table, fX11_table_0, fX11_table_15, fX11_table_35, fX11_table_47, if_pos hq]
    · simp only [FX12_table, fX12_table_0, fX12_table_21, if_pos hq, emHolds, bnd_ok, if_neg i1, if_true]
  · by_cases hl : 0 ≤ l ∧ l < 2
    · have hl1 : ¬ l = -1 := by omega
      obtain ⟨L1, -⟩ := h.hL.1 l hl.1 hl.2
      have h' := h.z 0
      obtain ⟨e, c', a1, T, a3, a4, a5⟩ := ecRank hl (h'.rkC hl)
      have hC := h.hC.1
      have x51 : gm (pm m 12 0 0 0) 12 0 51 = gm m 12 0 51 := by simp [gm_pm]
      have x12 : gm (pm m 12 0 0 0) 12 0 1 = gm m 12 0 1 := by simp [gm_pm]
      have x130 : gm (pm m 12 0 0 0) 130 0 l = gm m 130 0 l := rfl
      have et := emTableAt hl h'.hH h'.n h'.hC.1.2 T (q := q) (by omega)
      rw [x130] at et
      have EM : FX12_table 0 l q m = some (0, if gm m 130 0 l = 2 ∧ q < e then gm c' 27 (2 * l + 1) q else -1, pm m 12 0 0 0) := by
        simp only [FX12_table, fX12_table_0, fX12_table_9, fX12_table_21, fX12_table_29, if_neg hq, emIsLeague, if_pos hl, bnd_ok, if_neg i1, emHolds, if_true, et]
      rw [x51] at a1
      obtain ⟨t1, t2, t3, -⟩ := id T
      by_cases h2 : gm m 130 0 l = 2
      · have g7 : ¬ gm c 1 l 7 = 0 := by omega
        have hr := h'.rnk hl a3 a4 a5
        refine Step.ok (T := [(27, none), (4, some 1)]) (U := [(12, some 0)]) (v := if gm m 130 0 l = 2 ∧ q < e then gm c' 27 (2 * l + 1) q else -1) (c' := c') (m' := pm m 12 0 0 0) ?_ EM a3 (Kp.pm (Kp.rf _ _) (Or.inr (by decide))) (by decide) (by decide) (by simp [gm_pm]) rfl hr.nxt
        have hn := h.n
        have en := ecNumberAt (a0 := 2 * l + 1) (a1 := q) (s := c') (by omega) (by omega) (fun q0 q1 => by
          rw [t1] at q1
          have := (t3 q q0 q1).1
          omega)
        rw [t1] at en
        simp only [FX11_table, fX11_table_0, fX11_table_15, fX11_table_35, fX11_table_47, if_neg hq, h.lea, if_pos hl, bnd_ok, if_neg hl1, if_pos hl.1, if_neg g7, hC.1, a1, en]
        by_cases c1 : q < e
        · have z := (t3 q (by omega) c1).1
          rw [if_pos ⟨by omega, c1⟩, if_pos ⟨h2, c1⟩, (hr.so z.1 (by omega)).1]
        · rw [if_neg (fun y => c1 y.2), if_neg (fun y => c1 y.2)]
      · have g7 : gm c 1 l 7 = 0 := by omega
        rw [if_neg (fun y => h2 y.1)] at EM
        refine Step.rd h (v := -1) ?_ EM
        simp only [FX11_table, fX11_table_0, fX11_table_15, fX11_table_35, fX11_table_47, if_neg hq, h.lea, if_pos hl, bnd_ok, if_neg hl1, if_pos hl.1, if_pos g7]
    · refine Step.thr h (o := 1) (v := 0) (x := 0) (k := 2) (by decide) ?_ ?_ rfl
      · simp only [FX11_table, fX11_table_0, fX11_table_15, if_neg hq, h.lea, if_neg hl, bnd_ok, if_true]
      · simp only [FX12_table, fX12_table_0, fX12_table_9, fX12_table_20, fX12_table_21, if_neg hq, emIsLeague, if_neg hl, bnd_ok, emHolds, if_true]
        simp
