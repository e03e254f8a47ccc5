/-! Votes, rounds. -/
theorem op_vote {t : Int} (ht : t ≤ 1000) {c m : St} (h : rl t c m) (p k v : Int) : Step t (cdn 3 1 2) c m (FX11_vote 0 p k v c) (FX12_vote 0 p k v m) := by
  have hn := h.n
  by_cases hp : 0 ≤ p ∧ p < gm m 12 0 1
  · have hp1 : ¬ p = -1 := by omega
    have hp9 : 0 ≤ p ∧ p < 10 := by omega
    obtain ⟨⟨q1, q2, q3⟩, ⟨q4, q5⟩, ⟨q6, q7⟩, q8, q9⟩ := (h.hS p hp.1 (by omega)).2 hp.2
    have q10 : ∀ k : Int, 0 ≤ k → k < gm m 108 0 p → gm c 17 p k = bit (gm m 109 0 p) k := fun k k0 k1 => (q9 k k0 k1).1
    have e1 := ecHasSong (a0 := p) (a1 := k) (s := c) (by omega) (by omega)
    rw [q1] at e1
    have w1 : wr (gm m 108 0 p - 1) = gm m 108 0 p - 1 := wq (by omega) (by omega)
    by_cases hk : 0 ≤ k ∧ k < gm m 108 0 p
    · have hk' : 0 ≤ k ∧ k ≤ gm m 108 0 p - 1 := by omega
      by_cases hv : 1 ≤ v ∧ v ≤ 99
      · obtain ⟨x1, x2, x3, x4⟩ := q9 k hk.1 hk.2
        have e2 := ecIsStruck (a0 := p) (a1 := k) (s := c) (by omega) (by omega)
        rw [q1, x1] at e2
        have e3 := ecChosen q1 q2 q3 q6 q7 q8 q10
        have e4 := chv_1 q2 q3 q6 q7 q8
        have m2 := emIsStruck (a0 := 0) (a1 := p) (a2 := k) (s := m) hp9.1 hp9.2 q6 q7 hk.1 (by omega)
        have m3 := emLeftSongs (a0 := 0) (a1 := p) (s := m) hp9.1 hp9.2 q6 q7 q2 q3
        have l1 := (lf_at q6 q7 q2 q3 q8).2.1 k hk.1 hk.2
        have hr : 0 ≤ 6 * p + k ∧ 6 * p + k < 60 := by omega
        have hr2 : 0 ≤ k ∧ k < 6 := by omega
        by_cases hs : bit (gm m 109 0 p) k = 0 ∧ gm m 108 0 p - pc (gm m 109 0 p) ≠ 1
        · have hs1 : ¬ bit (gm m 109 0 p) k = 1 := by omega
          have l2 := l1 hs.1
          have e5 := e4.mpr hs.2
          have kc : Kp [(16, none)] c (pm c 16 p k (gm m 111 0 (6 * p + k) + v)) := Kp.pm (Kp.rf _ _) (Or.inl (by decide))
          have km : Kp [(12, some 0), (111, none)] m (pm (pm m 12 0 0 0) 111 0 (6 * p + k) (gm m 111 0 (6 * p + k) + v)) := Kp.pm (Kp.pm (Kp.rf _ _) (Or.inr (by decide))) (Or.inl (by decide))
          refine Step.ok (v := gm m 111 0 (6 * p + k) + v) (c' := pm c 16 p k (gm m 111 0 (6 * p + k) + v)) (m' := pm (pm m 12 0 0 0) 111 0 (6 * p + k) (gm m 111 0 (6 * p + k) + v)) ?_ ?_ kc km (by decide) (by decide) (by simp [gm_pm]) rfl ?_
          · simp only [FX11_vote, fX11_vote_0, fX11_vote_24, fX11_vote_34, fX11_vote_54, fX11_vote_78, fX11_vote_88, h.soc, ecWithin, bnd_ok, if_pos hp, if_neg hp1, if_pos hp.1, e1, if_pos hk, if_pos hv, e2, e3, e5, FX7_addVotes, fX7_addVotes_0, fX7_addVotes_10, x2]
            rw [wq (by omega) (by omega)]
            simp [hs.1, hr2, gm_pm, bnd_ok]
          · simp only [FX12_vote, fX12_vote_0, fX12_vote_26, fX12_vote_27, fX12_vote_40, fX12_vote_41, fX12_vote_53, fX12_vote_67, fX12_vote_85, fX12_vote_89, fX12_vote_90, fX12_vote_98, h.isS, emHolds, emIn, bnd_ok, if_pos hp, if_pos hp9, w1, if_pos hk', if_pos hv, m2, m3, if_neg hs1]
            have l3 : ¬ (gm m 108 0 p - pc (gm m 109 0 p) < 2) := by omega
            simp only [if_neg l3]
            simp [gm_pm]
            simp (disch := omega) only [wq]
            simp [hr]
          · refine rl.keep0 h kc km rfl ?_ ?_ ?_ ?_ ?_ ?_ ?_ ?_ ?_ ?_ ?_ ?_ ?_ ?_ <;> first | exact fun e => absurd e (by decide) | intro _
            have t0 : 0 ≤ t := by have := h.hN.2.1; omega
            intro i i0 i1
            obtain ⟨b1, b2⟩ := h.hS i i0 i1
            simp only [gm_pm]
            simp
            refine ⟨b1, fun hi => ?_⟩
            obtain ⟨d1, d4, d5, d6, d7⟩ := b2 hi
            refine ⟨d1, d4, d5, d6, fun k' k0 k1 => ?_⟩
            obtain ⟨y1, y2, y3, y4⟩ := d7 k' k0 k1
            by_cases e : i = p ∧ k' = k
            · obtain ⟨rfl, rfl⟩ := e
              simp
              exact ⟨y1, by omega⟩
            · have : ¬ 6 * i + k' = 6 * p + k := by omega
              simp [e, this]
              exact ⟨y1, y2, y3, by omega⟩
        · refine Step.thr h (o := 2) (v := 0) (x := 0) (k := 3) (by decide) ?_ ?_ rfl
          · simp only [FX11_vote, fX11_vote_0, fX11_vote_24, fX11_vote_34, fX11_vote_54, fX11_vote_78, fX11_vote_88, h.soc, ecWithin, bnd_ok, if_pos hp, if_neg hp1, if_pos hp.1, e1, if_pos hk, if_pos hv, e2, e3]
            rcases bit_01 (gm m 109 0 p) k with b | b
            · have e6 : ¬ chv (gm m 109 0 p) (gm m 108 0 p) = -1 := fun z => hs ⟨b, e4.mp z⟩
              simp [b, e6]
            · simp [b, hk]
          · simp only [FX12_vote, fX12_vote_0, fX12_vote_26, fX12_vote_27, fX12_vote_40, fX12_vote_41, fX12_vote_53, fX12_vote_67, fX12_vote_85, fX12_vote_89, fX12_vote_90, fX12_vote_98, h.isS, emHolds, emIn, bnd_ok, if_pos hp, if_pos hp9, w1, if_pos hk', if_pos hv, m2, m3]
            rcases bit_01 (gm m 109 0 p) k with b | b
            · have e6 : gm m 108 0 p - pc (gm m 109 0 p) < 2 := by
                have := fun z => hs ⟨b, z⟩
                omega
              simp [b, e6]
            · simp [b]
      · refine Step.thr h (o := 1) (v := 0) (x := 0) (k := 2) (by decide) ?_ ?_ rfl
        · simp only [FX11_vote, fX11_vote_0, fX11_vote_24, fX11_vote_34, fX11_vote_54, fX11_vote_78, fX11_vote_88, h.soc, ecWithin, bnd_ok, if_pos hp, if_neg hp1, if_pos hp.1, e1, if_pos hk, if_neg hv]
          simp
        · simp only [FX12_vote, fX12_vote_0, fX12_vote_26, fX12_vote_27, fX12_vote_40, fX12_vote_41, fX12_vote_53, fX12_vote_67, fX12_vote_85, fX12_vote_89, fX12_vote_90, fX12_vote_98, h.isS, emHolds, emIn, bnd_ok, if_pos hp, if_pos hp9, w1, if_pos hk', if_neg hv]
          simp
    · have hk' : ¬ (0 ≤ k ∧ k ≤ gm m 108 0 p - 1) := by omega
      refine Step.thr h (o := 3) (v := 0) (x := 0) (k := 1) (by decide) ?_ ?_ rfl
      · simp only [FX11_vote, fX11_vote_0, fX11_vote_24, fX11_vote_34, fX11_vote_54, fX11_vote_78, fX11_vote_88, h.soc, bnd_ok, if_pos hp, if_neg hp1, if_pos hp.1, e1, if_neg hk]
        simp
      · simp only [FX12_vote, fX12_vote_0, fX12_vote_26, fX12_vote_27, fX12_vote_40, fX12_vote_41, fX12_vote_53, fX12_vote_67, fX12_vote_85, fX12_vote_89, fX12_vote_90, fX12_vote_98, h.isS, emHolds, emIn, bnd_ok, if_pos hp, if_pos hp9, w1, if_neg hk']
        simp
  · refine Step.thr h (o := 3) (v := 0) (x := 0) (k := 1) (by decide) ?_ ?_ rfl
    · simp [FX11_vote, fX11_vote_0, fX11_vote_24, fX11_vote_34, fX11_vote_54, fX11_vote_78, fX11_vote_88, h.soc, bnd_ok, hp]
    · simp [FX12_vote, fX12_vote_0, fX12_vote_26, fX12_vote_27, fX12_vote_40, fX12_vote_41, fX12_vote_53, fX12_vote_67, fX12_vote_85, fX12_vote_89, fX12_vote_90, fX12_vote_98, h.isS, emHolds, bnd_ok, hp]
def wk (v : Int) (vt : Int → Int) : Nat → Int → Int → Int
  | 0, _, a => a
  | d + 1, i, a => wk v vt d (i + 1) (if bit v i = 0 ∧ (a = -1 ∨ vt i ≤ vt a) then i else a)
theorem wk_rg (v : Int) (vt : Int → Int) (c : Int) : ∀ (d : Nat) (i a : Int), 0 ≤ i → i + d = c → -1 ≤ a → a < i → (a = -1 ∨ bit v a = 0) → (-1 ≤ wk v vt d i a ∧ wk v vt d i a < c) ∧ (0 ≤ a ∨ (∃ k : Int, i ≤ k ∧ k < c ∧ bit v k = 0) → 0 ≤ wk v vt d i a)
  | 0, i, a, h0, hi, ha, ha2, hb => by
    simp only [wk]
    refine ⟨by omega, fun z => ?_⟩
    rcases z with z | ⟨k, k0, k1, -⟩
    · exact z
    · omega
  | d + 1, i, a, h0, hi, ha, ha2, hb => by
    simp only [wk]
    obtain ⟨r1, r2⟩ := wk_rg v vt c d (i + 1) (if bit v i = 0 ∧ (a = -1 ∨ vt i ≤ vt a) then i else a) (by omega) (by omega) (by split <;> omega) (by split <;> omega) (by
      split
      · next e => exact Or.inr e.1
      · exact hb)
    refine ⟨r1, fun z => r2 ?_⟩
    by_cases e : bit v i = 0 ∧ (a = -1 ∨ vt i ≤ vt a)
    · left; rw [if_pos e]; exact h0
    · rw [if_neg e]
      rcases z with z | ⟨k, k0, k1, k2⟩
      · exact Or.inl z
      · by_cases ek : k = i
        · subst ek
          left
          have : ¬ (a = -1 ∨ vt k ≤ vt a) := fun z => e ⟨k2, z⟩
          omega
        · exact Or.inr ⟨k, by omega, k1, k2⟩
theorem ecWk_lp {v c a0 : Int} {vt : Int → Int} {s : St} (hc : gm s 7 a0 2 = c) (c0 : 0 ≤ c) (c1 : c ≤ 6) (hs : ∀ k : Int, 0 ≤ k → k < c → gm s 17 a0 k = bit v k ∧ gm s 16 a0 k = vt k) : ∀ (d n : Nat) (i acc : Int), 0 ≤ i → i + d = c → -1 ≤ acc → acc < i →
    ∃ n', n ≤ n' ∧ fX7_strikeWeakest_4 (kX7_strikeWeakest (n + d)) a0 acc i s = fX7_strikeWeakest_60 (kX7_strikeWeakest n') a0 (wk v vt d i acc) s
  | 0, n, i, acc, h0, hi, b1, b2 => by
    refine ⟨n, Nat.le_refl _, ?_⟩
    simp only [fX7_strikeWeakest_4, hc, wk]
    rw [if_neg (by omega)]
    rfl
  | d + 1, n, i, acc, h0, hi, b1, b2 => by
    obtain ⟨n', hn', ih⟩ := ecWk_lp hc c0 c1 hs d n (i + 1) (if bit v i = 0 ∧ (acc = -1 ∨ vt i ≤ vt acc) then i else acc) (by omega) (by omega) (by split <;> omega) (by split <;> omega)
    refine ⟨n', hn', ?_⟩
    obtain ⟨q1, q2⟩ := hs i h0 (by omega)
    have hr : 0 ≤ i ∧ i < 6 := by omega
    have hr2 : 0 ≤ i ∧ i < c := by omega
    rw [show n + (d + 1) = n + d + 1 from rfl]
    simp only [fX7_strikeWeakest_4, fX7_strikeWeakest_52, fX7_strikeWeakest_54, hc, wk]
    rw [if_pos (by omega), ecHasSong (by omega) (by omega), hc]
    simp only [bnd_ok, if_pos hr2, if_pos hr, q1]
    rw [if_neg (by decide)]
    rw [ecHasSong (by omega) (by omega), hc]
    simp (disch := omega) only [bnd_ok, wq]
    simp only [uX7_strikeWeakest_4]
    rw [← ih]
    rcases bit_01 v i with e | e
    · by_cases ha : acc = -1
      · subst ha
        simp [e]
      · have hr3 : 0 ≤ acc ∧ acc < 6 := by omega
        have hr4 : 0 ≤ acc ∧ acc < c := by omega
        obtain ⟨q3, q4⟩ := hs acc (by omega) (by omega)
        simp only [e, if_pos hr3, if_pos hr4, q2, q4]
        by_cases hl : vt i ≤ vt acc
        · have : ¬ vt acc < vt i := by omega
          simp [hl, this]
        · have : vt acc < vt i := by omega
          simp [hl, this, ha]
    · simp [e]
theorem ecWk2_lp {a0 w : Int} : ∀ (d n : Nat) (i : Int) (s : St), d < n → 0 ≤ i → i + d = 6 → ∃ s', fX7_strikeWeakest_77 (kX7_strikeWeakest n) a0 w i s = some (0, w, pm s' 7 a0 3 1) ∧ Kp [(16, none)] s s' ∧ s'.2 = s.2 ∧ ∀ q k : Int, gm s' 16 q k = if q = a0 ∧ i ≤ k ∧ k < 6 then 0 else gm s 16 q k
  | 0, n, i, s, hn, h0, hi => by
    refine ⟨s, ?_, Kp.rf _ _, rfl, fun q k => ?_⟩
    · simp only [fX7_strikeWeakest_77, fX7_strikeWeakest_99, o01, if_true]
      rw [if_neg (by omega)]
      simp
    · rw [if_neg (by omega)]
  | d + 1, n, i, s, hn, h0, hi => by
    obtain ⟨n, rfl⟩ : ∃ n', n = n' + 1 := ⟨n - 1, by omega⟩
    obtain ⟨s', e1, e2, e3, e4⟩ := ecWk2_lp (a0 := a0) (w := w) d n (i + 1) (pm s 16 a0 i 0) (by omega) (by omega) (by omega)
    refine ⟨s', ?_, Kp.tr (Kp.pm (Kp.rf _ _) (Or.inl (by decide))) e2, e3, fun q k => ?_⟩
    · simp only [fX7_strikeWeakest_77]
      rw [if_pos (by omega), if_pos (by omega), wq (by omega) (by omega), uX7_strikeWeakest_77]
      exact e1
    · rw [e4 q k, gm_pm]
      by_cases e : q = a0 ∧ k = i
      · rw [if_neg (by omega), if_pos ⟨rfl, e⟩, if_pos (by omega)]
      · rw [if_neg (fun z : 16 = 16 ∧ q = a0 ∧ k = i => e z.2)]
        by_cases e5 : q = a0 ∧ i + 1 ≤ k ∧ k < 6
        · rw [if_pos e5, if_pos (by omega)]
        · rw [if_neg e5, if_neg (by omega)]
theorem emWk_lp {v c i : Int} {vt : Int → Int} {s : St} (hi : 0 ≤ i ∧ i < 10) (hc : gm s 108 0 i = c) (hv : gm s 109 0 i = v) (c0 : 0 ≤ c) (c1 : c ≤ 6) (h0 : 0 ≤ v) (h1 : v < 64) (hs : ∀ k : Int, 0 ≤ k → k < c → gm s 111 0 (6 * i + k) = vt k) : ∀ (d n : Nat) (k acc : Int), 0 ≤ k → k + d = c → -1 ≤ acc → acc < k →
    ∃ n', n ≤ n' ∧ fX12_round_42 (kX12_round (n + d)) 0 i acc k s = fX12_round_119 (kX12_round n') 0 i (wk v vt d k acc) s
  | 0, n, k, acc, k0, hk, b1, b2 => by
    refine ⟨n, Nat.le_refl _, ?_⟩
    simp only [fX12_round_42, hc, wk, if_pos hi]
    rw [if_neg (by omega)]
    rfl
  | d + 1, n, k, acc, k0, hk, b1, b2 => by
    obtain ⟨n', hn', ih⟩ := emWk_lp hi hc hv c0 c1 h0 h1 hs d n (k + 1) (if bit v k = 0 ∧ (acc = -1 ∨ vt k ≤ vt acc) then k else acc) (by omega) (by omega) (by split <;> omega) (by split <;> omega)
    refine ⟨n', hn', ?_⟩
    have q1 := hs k k0 (by omega)
    have hr : 0 ≤ 6 * i + k ∧ 6 * i + k < 60 := by omega
    rw [show n + (d + 1) = n + d + 1 from rfl]
    simp only [fX12_round_42, fX12_round_84, fX12_round_88, fX12_round_89, fX12_round_111, fX12_round_112, hc, wk, if_pos hi]
    rw [if_pos (by omega), emIsStruck hi.1 hi.2 (by omega) (by omega) k0 (by omega), hv]
    simp (disch := omega) only [bnd_ok, wq]
    simp only [uX12_round_42]
    rw [← ih]
    rcases bit_01 v k with e | e
    · by_cases ha : acc = -1
      · subst ha
        simp [e]
      · have hr3 : 0 ≤ 6 * i + acc ∧ 6 * i + acc < 60 := by omega
        have q4 := hs acc (by omega) (by omega)
        simp only [e, if_pos hr, if_pos hr3, q1, q4, if_neg ha]
        by_cases hl : vt k ≤ vt acc
        · have : ¬ vt acc < vt k := by omega
          simp [hl, this]
        · have : vt acc < vt k := by omega
          simp [hl, this, ha]
    · by_cases ha : acc = -1
      · subst ha
        simp [e]
      · have hr3 : 0 ≤ 6 * i + acc ∧ 6 * i + acc < 60 := by omega
        simp only [e, if_pos hr, if_pos hr3, if_neg ha]
        simp
theorem emWk2_lp {i w c : Int} (hi : 0 ≤ i ∧ i < 10) (c0 : 0 ≤ c) (c1 : c ≤ 6) : ∀ (d n : Nat) (k : Int) (s : St), gm s 108 0 i = c → d < n → 0 ≤ k → k + d = c → ∃ s', fX12_round_141 (kX12_round n) 0 i w k s = some (0, w, s') ∧ Kp [(111, none)] s s' ∧ s'.2 = s.2 ∧ ∀ q : Int, gm s' 111 0 q = if 6 * i + k ≤ q ∧ q < 6 * i + c then 0 else gm s 111 0 q
  | 0, n, k, s, hc, hn, h0, hk => by
    refine ⟨s, ?_, Kp.rf _ _, rfl, fun q => ?_⟩
    · simp only [fX12_round_141, fX12_round_171, if_pos hi, hc]
      rw [if_neg (by omega)]
    · rw [if_neg (by omega)]
  | d + 1, n, k, s, hc, hn, h0, hk => by
    obtain ⟨n, rfl⟩ : ∃ n', n = n' + 1 := ⟨n - 1, by omega⟩
    obtain ⟨s', e1, e2, e3, e4⟩ := emWk2_lp (w := w) hi c0 c1 d n (k + 1) (pm s 111 0 (6 * i + k) 0) (by rw [gm_pm, if_neg (by omega)]; exact hc) (by omega) (by omega) (by omega)
    refine ⟨s', ?_, Kp.tr (Kp.pm (Kp.rf _ _) (Or.inl (by decide))) e2, e3, fun q => ?_⟩
    · simp only [fX12_round_141, if_pos hi, hc]
      simp (disch := omega) only [wq]
      rw [if_pos (by omega), if_pos (by omega), uX12_round_141]
      exact e1
    · rw [e4 q, gm_pm]
      by_cases e : q = 6 * i + k
      · rw [if_neg (by omega), if_pos ⟨rfl, rfl, e⟩, if_pos (by omega)]
      · rw [if_neg (fun z : 111 = 111 ∧ (0 : Int) = 0 ∧ q = 6 * i + k => e z.2.2)]
        by_cases e5 : 6 * i + (k + 1) ≤ q ∧ q < 6 * i + c
        · rw [if_pos e5, if_pos (by omega)]
        · rw [if_neg e5, if_neg (by omega)]
theorem op_round {t : Int} {c m : St} (h : rl t c m) (p : Int) : Step t (cdn 3 2 9) c m (FX11_round 0 p c) (FX12_round 0 p m) := by
  have hn := h.n
  by_cases hp : 0 ≤ p ∧ p < gm m 12 0 1
  · have hp1 : ¬ p = -1 := by omega
    have hp9 : 0 ≤ p ∧ p < 10 := by omega
    obtain ⟨⟨q1, q2, q3⟩, ⟨q4, q5⟩, ⟨q6, q7⟩, q8, q9⟩ := (h.hS p hp.1 (by omega)).2 hp.2
    have e1 := ecLeft q1 q2 q3 q6 q7 q8 (fun k k0 k1 => (q9 k k0 k1).1)
    have m1 := emLeftSongs (a0 := 0) (a1 := p) (s := m) hp9.1 hp9.2 q6 q7 q2 q3
    by_cases hl : gm m 108 0 p - pc (gm m 109 0 p) < 2
    · refine Step.thr h (o := 2) (v := 0) (x := 0) (k := 2) (by decide) ?_ ?_ rfl
      · simp only [FX11_round, fX11_round_0, fX11_round_20, fX11_round_41, h.soc, bnd_ok, if_pos hp, if_neg hp1, if_pos hp.1, e1, if_pos hl]
      · simp only [FX12_round, fX12_round_0, fX12_round_15, fX12_round_28, fX12_round_29, fX12_round_37, fX12_round_42, fX12_round_84, fX12_round_88, fX12_round_89, fX12_round_111, fX12_round_112, fX12_round_119, fX12_round_141, fX12_round_171, h.isS, emHolds, bnd_ok, if_pos hp, m1, if_pos hl]
        simp
    · obtain ⟨k, k0, k1, k2⟩ := (lf_at q6 q7 q2 q3 q8).2.2 (by omega)
      obtain ⟨⟨w1, w2⟩, w3⟩ := wk_rg (gm m 109 0 p) (fun k => gm m 111 0 (6 * p + k)) (gm m 108 0 p) (gm m 108 0 p).toNat 0 (-1) (by omega) (by omega) (by omega) (by omega) (Or.inl rfl)
      have w3 := w3 (Or.inr ⟨k, k0, k1, k2⟩)
      obtain ⟨n1, hn1, c1⟩ := ecWk_lp (a0 := p) (s := c) (vt := fun k => gm m 111 0 (6 * p + k)) q1 q2 q3 (fun k k0 k1 => ⟨(q9 k k0 k1).1, (q9 k k0 k1).2.1⟩) (gm m 108 0 p).toNat (9999 - (gm m 108 0 p).toNat) 0 (-1) (by omega) (by omega) (by omega) (by omega)
      obtain ⟨n2, hn2, c2⟩ := emWk_lp (s := pm m 12 0 0 0) (vt := fun k => gm m 111 0 (6 * p + k)) hp9 (c := gm m 108 0 p) (v := gm m 109 0 p) (by simp [gm_pm]) (by simp [gm_pm]) q2 q3 q6 q7 (fun k k0 k1 => by simp [gm_pm]) (gm m 108 0 p).toNat (9999 - (gm m 108 0 p).toNat) 0 (-1) (by omega) (by omega) (by omega) (by omega)
      rw [show 9999 - (gm m 108 0 p).toNat + (gm m 108 0 p).toNat = 9999 by omega] at c1 c2
      generalize wk (gm m 109 0 p) (fun k => gm m 111 0 (6 * p + k)) (gm m 108 0 p).toNat 0 (-1) = w at c1 c2 w1 w2 w3
      obtain ⟨s1, d1, d2, d3, d4⟩ := ecWk2_lp (a0 := p) (w := w) 6 n1 0 (pm c 17 p w 1) (by omega) (by omega) (by omega)
      obtain ⟨s2, g1, g2, g3, g4⟩ := emWk2_lp (w := w) hp9 q2 q3 (gm m 108 0 p).toNat n2 0 (pm (pm (pm m 12 0 0 0) 109 0 p (ior (gm m 109 0 p) (ishl 1 w))) 110 0 p 1) (by simp [gm_pm]) (by omega) (by omega) (by omega)
      have hw6 : 0 ≤ w ∧ w < 6 := by omega
      have kc : Kp [(17, none), (16, none), (7, some 3)] c (pm s1 7 p 3 1) := Kp.pm (Kp.tr (Kp.pm (Kp.rf _ _) (Or.inl (by decide))) (d2.wk (by decide))) (Or.inr (by decide))
      have km : Kp [(12, some 0), (109, none), (110, none), (111, none)] m s2 := Kp.tr (Kp.pm (Kp.pm (Kp.pm (Kp.rf _ _) (Or.inr (by decide))) (Or.inl (by decide))) (Or.inl (by decide))) (g2.wk (by decide))
      refine Step.ok (v := w) (c' := pm s1 7 p 3 1) (m' := s2) ?_ ?_ kc km (by decide) (by decide) ?_ ?_ ?_
      · have hx : FX7_has p w c = some (0, 1, c) := by rw [ecHasSong (by omega) (by omega), q1, if_pos (by omega)]
        have es : FX7_strikeWeakest p c = some (0, w, pm s1 7 p 3 1) := by
          simp only [FX7_strikeWeakest, fX7_strikeWeakest_0, c1]
          simp only [fX7_strikeWeakest_60, fX7_strikeWeakest_75, hx, bnd_ok]
          rw [if_neg (by decide), if_pos ⟨hw6, Or.inr trivial⟩]
          exact d1
        simp only [FX11_round, fX11_round_0, fX11_round_20, fX11_round_41, h.soc, bnd_ok, if_pos hp, if_neg hp1, if_pos hp.1, e1, if_neg hl, es]
      · have em : fX12_round_37 (kX12_round 9999) 0 p (pm m 12 0 0 0) = some (0, w, s2) := by
          simp only [fX12_round_37, c2]
          simp only [fX12_round_119, if_pos hp9, o01]
          rw [if_pos ⟨hp9, Or.inr trivial⟩]
          have hx : gm (pm m 12 0 0 0) 109 0 p = gm m 109 0 p := by simp [gm_pm]
          rw [hx]
          exact g1
        simp only [FX12_round, fX12_round_0, fX12_round_15, fX12_round_28, fX12_round_29, h.isS, emHolds, bnd_ok, if_pos hp, m1, if_neg hl]
        simp [em]
      · rw [g2.f (by decide) 0]
        simp [gm_pm]
      · rw [g3]
        rfl
      · refine rl.keep0 h kc km (by show s1.2 = c.2; rw [d3]; rfl) ?_ ?_ ?_ ?_ ?_ ?_ ?_ ?_ ?_ ?_ ?_ ?_ ?_ ?_ <;> first | exact fun e => absurd e (by decide) | intro _
        have t0 : 0 ≤ t := by have := h.hN.2.1; omega
        have nN : gm s2 12 0 1 = gm m 12 0 1 := km.f (by decide) 0
        have n8 : ∀ i, gm s2 108 0 i = gm m 108 0 i := fun i => km.k (by decide) 0 i
        have n9 : ∀ i, gm s2 109 0 i = if i = p then ior (gm m 109 0 p) (ishl 1 w) else gm m 109 0 i := fun i => by
          rw [g2.k (by decide) 0 i]
          simp [gm_pm]
        have n10 : ∀ i, gm s2 110 0 i = if i = p then 1 else gm m 110 0 i := fun i => by
          rw [g2.k (by decide) 0 i]
          simp [gm_pm]
        have n11 : ∀ q, gm s2 111 0 q = if 6 * p + 0 ≤ q ∧ q < 6 * p + gm m 108 0 p then 0 else gm m 111 0 q := fun q => by
          rw [g4 q]
          simp [gm_pm]
        have x2 : ∀ i, gm (pm s1 7 p 3 1) 7 i 2 = gm c 7 i 2 := fun i => kc.f (by decide) i
        have x3 : ∀ i, gm (pm s1 7 p 3 1) 7 i 3 = if i = p then 1 else gm c 7 i 3 := fun i => by
          have r := d2.f (k := 7) (j := 3) (by decide) i
          simp only [gm_pm] at r ⊢
          simp at r ⊢
          rw [r]
        have x17 : ∀ i k, gm (pm s1 7 p 3 1) 17 i k = if i = p ∧ k = w then 1 else gm c 17 i k := fun i k => by
          have r := d2.k (k := 17) (by decide) i k
          simp only [gm_pm] at r ⊢
          simp at r ⊢
          rw [r]
        have x16 : ∀ i k, gm (pm s1 7 p 3 1) 16 i k = if i = p ∧ 0 ≤ k ∧ k < 6 then 0 else gm c 16 i k := fun i k => by
          have r := d4 i k
          simp only [gm_pm] at r ⊢
          simp at r ⊢
          rw [r]
        obtain ⟨o1, o2⟩ := ior_bit (v := gm m 109 0 p) (j := w) q6 (by omega) w3 (by omega)
        have o3 := ior_64 (v := gm m 109 0 p) (j := w) q6 q7 w3 (by omega)
        intro i i0 i1
        obtain ⟨b1, b2⟩ := h.hS i i0 i1
        simp only [nN, n8, n9, n10, n11, x2, x3, x17, x16]
        refine ⟨fun hi => ?_, fun hi => ?_⟩
        · rw [if_neg (by omega), if_neg (by omega)]
          exact b1 hi
        · obtain ⟨z1, z4, z5, z6, z7⟩ := b2 hi
          by_cases e : i = p
          · subst e
            simp only [if_true, true_and]
            refine ⟨z1, by simp, ⟨o1.1, o3⟩, fun k k0 k1 k2 => ?_, fun k k0 k1 => ?_⟩
            · rw [o2 k k0 k1, if_neg (by omega)]
              exact z6 k k0 k1 k2
            · obtain ⟨y1, y2, y3, y4⟩ := z7 k k0 k1
              rw [o2 k k0 (by omega), if_pos (show 0 ≤ k ∧ k < 6 by omega), if_pos (show 6 * i + 0 ≤ 6 * i + k ∧ 6 * i + k < 6 * i + gm m 108 0 i by omega)]
              refine ⟨?_, rfl, by omega, by omega⟩
              rw [y1]
          · simp only [if_neg e]
            refine ⟨z1, z4, z5, z6, fun k k0 k1 => ?_⟩
            obtain ⟨y1, y2, y3, y4⟩ := z7 k k0 k1
            rw [if_neg (fun z => e z.1), if_neg (fun z => e z.1), if_neg (by omega)]
            exact ⟨y1, y2, y3, by omega⟩
  · refine Step.thr h (o := 3) (v := 0) (x := 0) (k := 1) (by decide) ?_ ?_ rfl
    · simp [FX11_round, fX11_round_0, fX11_round_20, fX11_round_41, h.soc, bnd_ok, hp]
    · simp [FX12_round, fX12_round_0, fX12_round_15, fX12_round_28, fX12_round_29, fX12_round_37, fX12_round_42, fX12_round_84, fX12_round_88, fX12_round_89, fX12_round_111, fX12_round_112, fX12_round_119, fX12_round_141, fX12_round_171, h.isS, emHolds, bnd_ok, hp]
theorem op_about {t : Int} {c m : St} (h : rl t c m) (p w : Int) : Step t (cdn 3 1 9) c m (FX11_about 0 p w c) (FX12_about 0 p w m) := by
  have hn := h.n
  by_cases hp : 0 ≤ p ∧ p < gm m 12 0 1
  · have hp1 : ¬ p = -1 := by omega
    have hp9 : 0 ≤ p ∧ p < 10 := by omega
    by_cases hw : 0 ≤ w ∧ w ≤ 8
    · obtain ⟨⟨q1, q2, q3⟩, ⟨q4, q5⟩, ⟨q6, q7⟩, q8, q9⟩ := (h.hS p hp.1 (by omega)).2 hp.2
      have e1 := ecChosen q1 q2 q3 q6 q7 q8 (fun k k0 k1 => (q9 k k0 k1).1)
      have m1 := emChosen (s := pm m 12 0 0 0) hp9 (c := gm m 108 0 p) (v := gm m 109 0 p) (by simp [gm_pm]) (by simp [gm_pm]) q2 q3 q6 q7
      have e2 := (h.hH.pts hp.1 hp.2 hn.2).1
      have m2 := ((h.z 0).hH.pts (p := p) hp.1 hp.2 hn.2).2
      have m3 : ptv (pm m 12 0 0 0) p = ptv m p := rfl
      rw [m3] at m2
      obtain ⟨-, s1, -, s5, -⟩ := h.so hp.1 hp.2
      obtain ⟨-, -, s8⟩ := h.hT p hp9.1 hp9.2
      obtain ⟨s8, -⟩ := s8 hp.2
      obtain ⟨-, -, s10⟩ := h.hW.1 p hp9.1 hp9.2
      obtain ⟨s10, -⟩ := s10 hp.2
      have s6 := (h.hM p hp9.1 hp9.2).1 hp.2
      obtain ⟨-, s14, s15, -⟩ := h.hO.1 p hp9.1 hp9.2
      obtain ⟨s15, -⟩ := s15 hp.2
      have s4 := ((h.hH p hp9.1 hp9.2).2 hp.2).1.1
      have hs := h.soc
      have hi := h.isS
      refine Step.rd h (v := if w = 0 then gm m 102 0 p else if w = 1 then gm m 103 0 p else if w = 2 then gm m 106 0 p else if w = 3 then chv (gm m 109 0 p) (gm m 108 0 p) else if w = 4 then gm m 112 0 p else if w = 5 then ptv m p else if w = 6 then gm m 104 0 p else if w = 7 then gm m 124 0 p else gm m 147 0 p) ?_ ?_
      · clear h q9
        rcases (show w = 0 ∨ w = 1 ∨ w = 2 ∨ w = 3 ∨ w = 4 ∨ w = 5 ∨ w = 6 ∨ w = 7 ∨ w = 8 by omega) with rfl | rfl | rfl | rfl | rfl | rfl | rfl | rfl | rfl
        · simp [FX11_about, fX11_about_0, fX11_about_20, fX11_about_41, FX6_tell, fX6_tell_0, fX6_tell_48, fX6_tell_53, fX6_tell_58, fX6_tell_63, fX6_tell_71, fX6_tell_76, fX6_tell_84, fX6_tell_89, fX6_tell_100, fX6_tell_101, fX6_tell_102, hs, ecWithin, bnd_ok, hp, hp1, s5]
        · simp [FX11_about, fX11_about_0, fX11_about_20, fX11_about_41, FX6_tell, fX6_tell_0, fX6_tell_48, fX6_tell_53, fX6_tell_58, fX6_tell_63, fX6_tell_71, fX6_tell_76, fX6_tell_84, fX6_tell_89, fX6_tell_100, fX6_tell_101, fX6_tell_102, hs, ecWithin, bnd_ok, hp, hp1, s1]
        · simp [FX11_about, fX11_about_0, fX11_about_20, fX11_about_41, FX6_tell, fX6_tell_0, fX6_tell_48, fX6_tell_53, fX6_tell_58, fX6_tell_63, fX6_tell_71, fX6_tell_76, fX6_tell_84, fX6_tell_89, fX6_tell_100, fX6_tell_101, fX6_tell_102, hs, ecWithin, bnd_ok, hp, hp1, s8]
        · simp [FX11_about, fX11_about_0, fX11_about_20, fX11_about_41, FX6_tell, fX6_tell_0, fX6_tell_48, fX6_tell_53, fX6_tell_58, fX6_tell_63, fX6_tell_71, fX6_tell_76, fX6_tell_84, fX6_tell_89, fX6_tell_100, fX6_tell_101, fX6_tell_102, hs, ecWithin, bnd_ok, hp, hp1, e1]
        · simp [FX11_about, fX11_about_0, fX11_about_20, fX11_about_41, FX6_tell, fX6_tell_0, fX6_tell_48, fX6_tell_53, fX6_tell_58, fX6_tell_63, fX6_tell_71, fX6_tell_76, fX6_tell_84, fX6_tell_89, fX6_tell_100, fX6_tell_101, fX6_tell_102, hs, ecWithin, bnd_ok, hp, hp1, s10]
        · simp [FX11_about, fX11_about_0, fX11_about_20, fX11_about_41, FX6_tell, fX6_tell_0, fX6_tell_48, fX6_tell_53, fX6_tell_58, fX6_tell_63, fX6_tell_71, fX6_tell_76, fX6_tell_84, fX6_tell_89, fX6_tell_100, fX6_tell_101, fX6_tell_102, hs, ecWithin, bnd_ok, hp, hp1, e2]
        · simp [FX11_about, fX11_about_0, fX11_about_20, fX11_about_41, FX6_tell, fX6_tell_0, fX6_tell_48, fX6_tell_53, fX6_tell_58, fX6_tell_63, fX6_tell_71, fX6_tell_76, fX6_tell_84, fX6_tell_89, fX6_tell_100, fX6_tell_101, fX6_tell_102, hs, ecWithin, bnd_ok, hp, hp1, s6]
        · rcases s14 with s14 | s14 <;> simp [FX11_about, fX11_about_0, fX11_about_20, fX11_about_41, FX6_tell, fX6_tell_0, fX6_tell_48, fX6_tell_53, fX6_tell_58, fX6_tell_63, fX6_tell_71, fX6_tell_76, fX6_tell_84, fX6_tell_89, fX6_tell_100, fX6_tell_101, fX6_tell_102, hs, ecWithin, bnd_ok, hp, hp1, s15, s14]
        · simp [FX11_about, fX11_about_0, fX11_about_20, fX11_about_41, FX6_tell, fX6_tell_0, fX6_tell_48, fX6_tell_53, fX6_tell_58, fX6_tell_63, fX6_tell_71, fX6_tell_76, fX6_tell_84, fX6_tell_89, fX6_tell_100, fX6_tell_101, fX6_tell_102, hs, ecWithin, bnd_ok, hp, hp1, s4]
      · clear h q9
        rcases (show w = 0 ∨ w = 1 ∨ w = 2 ∨ w = 3 ∨ w = 4 ∨ w = 5 ∨ w = 6 ∨ w = 7 ∨ w = 8 by omega) with rfl | rfl | rfl | rfl | rfl | rfl | rfl | rfl | rfl
        · simp [FX12_about, fX12_about_0, fX12_about_13, fX12_about_27, fX12_about_28, fX12_about_36, fX12_about_54, fX12_about_68, fX12_about_82, fX12_about_87, fX12_about_88, fX12_about_108, fX12_about_121, fX12_about_127, fX12_about_128, fX12_about_147, fX12_about_151, fX12_about_157, hi, emIn, emHolds, bnd_ok, hp, hp9, gm_pm]
        · simp [FX12_about, fX12_about_0, fX12_about_13, fX12_about_27, fX12_about_28, fX12_about_36, fX12_about_54, fX12_about_68, fX12_about_82, fX12_about_87, fX12_about_88, fX12_about_108, fX12_about_121, fX12_about_127, fX12_about_128, fX12_about_147, fX12_about_151, fX12_about_157, hi, emIn, emHolds, bnd_ok, hp, hp9, gm_pm]
        · simp [FX12_about, fX12_about_0, fX12_about_13, fX12_about_27, fX12_about_28, fX12_about_36, fX12_about_54, fX12_about_68, fX12_about_82, fX12_about_87, fX12_about_88, fX12_about_108, fX12_about_121, fX12_about_127, fX12_about_128, fX12_about_147, fX12_about_151, fX12_about_157, hi, emIn, emHolds, bnd_ok, hp, hp9, gm_pm]
        · simp [FX12_about, fX12_about_0, fX12_about_13, fX12_about_27, fX12_about_28, fX12_about_36, fX12_about_54, fX12_about_68, fX12_about_82, fX12_about_87, fX12_about_88, fX12_about_108, fX12_about_121, fX12_about_127, fX12_about_128, fX12_about_147, fX12_about_151, fX12_about_157, hi, emIn, emHolds, bnd_ok, hp, m1]
        · simp [FX12_about, fX12_about_0, fX12_about_13, fX12_about_27, fX12_about_28, fX12_about_36, fX12_about_54, fX12_about_68, fX12_about_82, fX12_about_87, fX12_about_88, fX12_about_108, fX12_about_121, fX12_about_127, fX12_about_128, fX12_about_147, fX12_about_151, fX12_about_157, hi, emIn, emHolds, bnd_ok, hp, hp9, gm_pm]
        · simp [FX12_about, fX12_about_0, fX12_about_13, fX12_about_27, fX12_about_28, fX12_about_36, fX12_about_54, fX12_about_68, fX12_about_82, fX12_about_87, fX12_about_88, fX12_about_108, fX12_about_121, fX12_about_127, fX12_about_128, fX12_about_147, fX12_about_151, fX12_about_157, hi, emIn, emHolds, bnd_ok, hp, m2]
        · simp [FX12_about, fX12_about_0, fX12_about_13, fX12_about_27, fX12_about_28, fX12_about_36, fX12_about_54, fX12_about_68, fX12_about_82, fX12_about_87, fX12_about_88, fX12_about_108, fX12_about_121, fX12_about_127, fX12_about_128, fX12_about_147, fX12_about_151, fX12_about_157, hi, emIn, emHolds, bnd_ok, hp, hp9, gm_pm]
        · rcases s14 with s14 | s14 <;> simp [FX12_about, fX12_about_0, fX12_about_13, fX12_about_27, fX12_about_28, fX12_about_36, fX12_about_54, fX12_about_68, fX12_about_82, fX12_about_87, fX12_about_88, fX12_about_108, fX12_about_121, fX12_about_127, fX12_about_128, fX12_about_147, fX12_about_151, fX12_about_157, hi, emIn, emHolds, bnd_ok, hp, hp9, gm_pm, s14]
        · simp [FX12_about, fX12_about_0, fX12_about_13, fX12_about_27, fX12_about_28, fX12_about_36, fX12_about_54, fX12_about_68, fX12_about_82, fX12_about_87, fX12_about_88, fX12_about_108, fX12_about_121, fX12_about_127, fX12_about_128, fX12_about_147, fX12_about_151, fX12_about_157, hi, emIn, emHolds, bnd_ok, hp, hp9, gm_pm]
    · refine Step.thr h (o := 1) (v := 0) (x := 0) (k := 2) (by decide) ?_ ?_ rfl
      · simp [FX11_about, fX11_about_0, fX11_about_20, fX11_about_41, h.soc, ecWithin, bnd_ok, hp, hp1, hw]
      · simp [FX12_about, fX12_about_0, fX12_about_13, fX12_about_27, fX12_about_28, fX12_about_36, fX12_about_54, fX12_about_68, fX12_about_82, fX12_about_87, fX12_about_88, fX12_about_108, fX12_about_121, fX12_about_127, fX12_about_128, fX12_about_147, fX12_about_151, fX12_about_157, h.isS, emIn, emHolds, bnd_ok, hp, hw]
  · refine Step.thr h (o := 3) (v := 0) (x := 0) (k := 1) (by decide) ?_ ?_ rfl
    · simp [FX11_about, fX11_about_0, fX11_about_20, fX11_about_41, h.soc, bnd_ok, hp]
    · simp [FX12_about, fX12_about_0, fX12_about_13, fX12_about_27, fX12_about_28, fX12_about_36, fX12_about_54, fX12_about_68, fX12_about_82, fX12_about_87, fX12_about_88, fX12_about_108, fX12_about_121, fX12_about_127, fX12_about_128, fX12_about_147, fX12_about_151, fX12_about_157, h.isS, emHolds, bnd_ok, hp]
