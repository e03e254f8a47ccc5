/-! The line is formed. -/
theorem ecClr_lp {l : Int} : ∀ (d n : Nat) (i : Int) (c : St), d < n → 0 ≤ i → i + d = 12 → ∃ c', fX1_clear_22 (kX1_clear n) l i c = some (0, 0, c') ∧ Kp [(29, none)] c c' ∧ c'.2 = c.2 ∧ ∀ z j, gm c' 29 z j = if z = l ∧ i ≤ j ∧ j < 12 then 0 else gm c 29 z j
  | 0, n, i, c, hn, h0, hi => by
    refine ⟨c, ?_, Kp.rf _ _, rfl, fun z j => by rw [if_neg (by omega)]⟩
    simp only [fX1_clear_22, fX1_clear_44]
    rw [if_neg (by omega)]
  | d + 1, n, i, c, hn, h0, hi => by
    obtain ⟨n, rfl⟩ : ∃ n', n = n' + 1 := ⟨n - 1, by omega⟩
    obtain ⟨c', a1, a2, a3, a4⟩ := ecClr_lp (l := l) d n (i + 1) (pm c 29 l i 0) (by omega) (by omega) (by omega)
    refine ⟨c', ?_, (Kp.pm (Kp.rf _ _) (Or.inl (by decide))).tr a2, a3, fun z j => ?_⟩
    · simp only [fX1_clear_22]
      rw [if_pos (by omega), if_pos (by omega), wq (by omega) (by omega), uX1_clear_22]
      exact a1
    · rw [a4, gm_pm]
      by_cases e1 : z = l ∧ i + 1 ≤ j ∧ j < 12
      · rw [if_pos e1, if_pos (by omega)]
      · rw [if_neg e1]
        by_cases e2 : z = l ∧ j = i
        · rw [if_pos ⟨rfl, e2⟩, if_pos (by omega)]
        · rw [if_neg (fun w => e2 w.2), if_neg (by omega)]
theorem emClr_lp {l : Int} (hl : 0 ≤ l ∧ l < 2) : ∀ (d : Nat) (i : Int) (m : St), 0 ≤ i → i + d = 12 → ∃ m', (∀ n, fX12_begin_115 (kX12_begin (n + d)) 0 l i m = fX12_begin_141 (kX12_begin n) 0 l m') ∧ Kp [(141, none)] m m' ∧ m'.2 = m.2 ∧ ∀ j, gm m' 141 0 j = if 12 * l + i ≤ j ∧ j < 12 * l + 12 then 0 else gm m 141 0 j
  | 0, i, m, h0, hi => by
    refine ⟨m, fun n => ?_, Kp.rf _ _, rfl, fun j => by rw [if_neg (by omega)]⟩
    simp only [fX12_begin_115]
    rw [if_neg (by omega)]
    rfl
  | d + 1, i, m, h0, hi => by
    obtain ⟨m', a1, a2, a3, a4⟩ := emClr_lp hl d (i + 1) (pm m 141 0 (12 * l + i) 0) (by omega) (by omega)
    refine ⟨m', fun n => ?_, (Kp.pm (Kp.rf _ _) (Or.inl (by decide))).tr a2, a3, fun j => ?_⟩
    · rw [show n + (d + 1) = (n + d) + 1 from rfl]
      have w : wr (wr (12 * l) + i) = 12 * l + i := by rw [wq (z := 12 * l) (by omega) (by omega), wq (by omega) (by omega)]
      simp only [fX12_begin_115, w]
      rw [if_pos (by omega), if_pos (by omega), wq (by omega) (by omega), uX12_begin_115]
      exact a1 n
    · rw [a4, gm_pm]
      by_cases e1 : 12 * l + (i + 1) ≤ j ∧ j < 12 * l + 12
      · rw [if_pos e1, if_pos (by omega)]
      · rw [if_neg e1]
        by_cases e2 : j = 12 * l + i
        · rw [if_pos ⟨rfl, rfl, e2⟩, if_pos (by omega)]
        · rw [if_neg (fun w => e2 w.2.2), if_neg (by omega)]
/-- a row, with what the line takes of each -/
def rwW (l e0 : Int) (c m : St) : Prop := gm c 4 (2 * l) 1 = e0 ∧ gm m 126 0 l = e0 ∧ (0 ≤ e0 ∧ e0 ≤ 10) ∧ dis m l e0 ∧ ∀ k : Int, 0 ≤ k → k < e0 → gm c 27 (2 * l) k = gm m 127 0 (10 * l + k) ∧ (0 ≤ gm m 127 0 (10 * l + k) ∧ gm m 127 0 (10 * l + k) < 10) ∧ lnW (gm m 127 0 (10 * l + k)) c m
theorem rwW.kp {l e0 e e' : Int} {c c' m m' : St} (h : rwW l e0 c m) (g : lnF l e e' c m c' m') : rwW l e0 c' m' := by
  obtain ⟨h1, h2, h3, h4, h5⟩ := h
  refine ⟨by rw [g.1.k (by decide)]; exact h1, by rw [g.2.1.k (by decide)]; exact h2, h3, fun k k' a0 a1 a2 a3 a4 => h4 k k' a0 a1 a2 a3 (by rw [g.2.1.k (by decide), g.2.1.k (by decide)] at a4; exact a4), fun k k0 k1 => ?_⟩
  obtain ⟨a1, a2, a3⟩ := h5 k k0 k1
  rw [g.1.k (by decide), g.2.1.k (by decide)]
  exact ⟨a1, a2, a3.kp g.1 g.2.1 (by decide) (by decide)⟩
/-- whose parts there are -/
def own (l e0 e i : Int) (m : St) : Prop := (∀ k : Int, 0 ≤ k → k < e → ∃ r : Int, (0 ≤ r ∧ r < i) ∧ gm m 135 0 (60 * l + k) = gm m 127 0 (10 * l + r)) ∧ (∀ k k' r r' : Int, 0 ≤ k → k ≤ k' → k' < e → 0 ≤ r → r < e0 → 0 ≤ r' → r' < e0 → gm m 135 0 (60 * l + k) = gm m 127 0 (10 * l + r) → gm m 135 0 (60 * l + k') = gm m 127 0 (10 * l + r') → r ≤ r') ∧ ∀ r : Int, 0 ≤ r → r < i → ∃ k : Int, (0 ≤ k ∧ k < e) ∧ gm m 135 0 (60 * l + k) = gm m 127 0 (10 * l + r)
theorem form_lp {l e0 : Int} (hl : 0 ≤ l ∧ l < 2) : ∀ (d n : Nat) (i e : Int) (c m : St), d < n → 0 ≤ i → i + d = e0 → rwW l e0 c m → lnP l e c m → (0 ≤ e ∧ e ≤ 6 * i) → own l e0 e i m →
    ∃ c' m' e', fX1_form_22 (kX1_form n) l (2 * l) i c = some (0, e', c') ∧ (∀ n2, fX12_begin_144 (kX12_begin (n2 + 5 * d)) 0 l i m = some (0, e', m')) ∧ lnP l e' c' m' ∧ lnF l e e' c m c' m' ∧ (e ≤ e' ∧ e' ≤ 6 * e0) ∧ own l e0 e' e0 m'
  | 0, n, i, e, c, m, hn, h0, hi, hR, hP, he, hO => by
    have e1 : i = e0 := by omega
    subst e1
    refine ⟨c, m, e, ?_, fun n2 => ?_, hP, lnF.rf l e c m, by omega, hO⟩
    · simp only [fX1_form_22, fX1_form_56, hR.1, hP.1]
      rw [if_neg (by omega)]
    · simp only [fX12_begin_144, fX12_begin_279, hR.2.1, hP.2.1]
      rw [if_pos hl, if_neg (by omega), if_pos hl]
  | d + 1, n, i, e, c, m, hn, h0, hi, hR, hP, he, hO => by
    obtain ⟨n, rfl⟩ : ∃ n', n = n' + 1 := ⟨n - 1, by omega⟩
    obtain ⟨r1, r2, r3, r4, r5⟩ := id hR
    obtain ⟨x1, x2, x3⟩ := r5 i h0 (by omega)
    obtain ⟨p, hp⟩ : ∃ p, gm m 127 0 (10 * l + i) = p := ⟨_, rfl⟩
    rw [hp] at x1 x2 x3
    obtain ⟨w1, ⟨w2, w3⟩, w4, w5, w6, w7⟩ := id x3
    obtain ⟨c1, m1, e1, a1, a2, a3, a4, ⟨a5, a6⟩, a7, a8⟩ := up_lp (r := i) hl x2 (gm m 112 0 p).toNat 9999 0 e c m (by omega) (by omega) (by omega) x3 hP he.1 (by split <;> omega)
    have h127 : ∀ k, gm m1 127 0 k = gm m 127 0 k := fun k => a4.2.1.k (by decide) _ _
    have a9 : e < e1 := a7 (by omega)
    have a10 : e1 ≤ e + 6 := by
      by_cases z : gm m 112 0 p = 0
      · rw [if_pos z] at a6; omega
      · rw [if_neg z] at a6; omega
    have old := a4.2.2.2.2.2.2.2.2
    obtain ⟨o1, o2, o3⟩ := hO
    have hO2 : own l e0 e1 (i + 1) m1 := by
      refine ⟨fun k k0 k1 => ?_, fun k k' r r' k0 k1 k2 q0 q1 q2 q3 q4 q5 => ?_, fun r q0 q1 => ?_⟩
      · by_cases k2 : k < e
        · obtain ⟨r, b1, b2⟩ := o1 k k0 k2
          exact ⟨r, by omega, by rw [old k k0 k2, h127]; exact b2⟩
        · exact ⟨i, by omega, by rw [a8 k (by omega) k1, h127, hp]⟩
      · rw [h127] at q4 q5
        by_cases k3 : k' < e
        · rw [old k k0 (by omega)] at q4
          rw [old k' (by omega) k3] at q5
          exact o2 k k' r r' k0 k1 k3 q0 q1 q2 q3 q4 q5
        · rw [a8 k' (by omega) k2, ← hp] at q5
          have q6 := r4 i r' h0 (by omega) q2 q3 q5
          by_cases k4 : k < e
          · rw [old k k0 k4] at q4
            obtain ⟨r9, b1, b2⟩ := o1 k k0 k4
            rw [b2] at q4
            have := r4 r9 r b1.1 (by omega) q0 q1 q4
            omega
          · rw [a8 k (by omega) (by omega), ← hp] at q4
            have := r4 i r h0 (by omega) q0 q1 q4
            omega
      · by_cases q2 : r = i
        · exact ⟨e, by omega, by rw [a8 e (by omega) a9, h127, q2, hp]⟩
        · obtain ⟨k, b1, b2⟩ := o3 r q0 (by omega)
          exact ⟨k, by omega, by rw [old k b1.1 b1.2, h127]; exact b2⟩
    obtain ⟨c2, m2, e2, b1, b2, b3, b4, b5, b6⟩ := form_lp hl d n (i + 1) e1 c1 m1 (by omega) (by omega) (by omega) (hR.kp a4) a3 (by omega) hO2
    have wi : wr (i + 1) = i + 1 := wq (by omega) (by omega)
    refine ⟨c2, m2, e2, ?_, fun n2 => ?_, b3, a4.tr b4 (by omega), by omega, b6⟩
    · have eu : FX1_lineUp l p c = some (0, 0, c1) := by
        simp only [FX1_lineUp, fX1_lineUp_0]
        exact a1
      simp only [fX1_form_22, fX1_form_50, r1]
      rw [if_pos (by omega), ecAt (by omega) (by omega), r1, if_pos (by omega), x1]
      simp only [bnd_ok]
      rw [if_neg (by omega), eu]
      simp only [bnd_ok, wi, uX1_form_22]
      exact b1
    · obtain ⟨n3, hn3⟩ : ∃ n3, n2 + 5 * (d + 1) = n3 + 1 + (gm m 112 0 p).toNat ∧ ∃ n4, n3 = n4 + 5 * d := ⟨n2 + 5 * (d + 1) - 1 - (gm m 112 0 p).toNat, by omega, n2 + 4 - (gm m 112 0 p).toNat, by omega⟩
      obtain ⟨hn3, n4, hn4⟩ := hn3
      have q1 := a2 (n3 + 1)
      have q2 := b2 n4
      rw [← hn4] at q2
      rw [hn3]
      have w : wr (wr (10 * l) + i) = 10 * l + i := by rw [wq (z := 10 * l) (by omega) (by omega), wq (by omega) (by omega)]
      have w2 : idv (gm m 103 0 p) 10 = gm m 103 0 p / 10 := idv_id (by omega) (by omega) (by omega)
      have w3 : wr (gm m 103 0 p / 10 + 1) = gm m 103 0 p / 10 + 1 := wq (by omega) (by omega)
      have F : fX12_begin_144 (kX12_begin (n3 + 1 + (gm m 112 0 p).toNat)) 0 l i m = fX12_begin_202 (kX12_begin (n3 + 1 + (gm m 112 0 p).toNat)) 0 l i p (wgl m p) 0 m := by
        simp only [fX12_begin_144, fX12_begin_195, fX12_begin_197, r2, w, hp, w2, w3]
        rw [if_pos hl, if_pos (by omega), if_pos (by omega), if_pos x2, if_neg (by omega)]
        unfold wgl
        by_cases z : 9 < gm m 103 0 p / 10 + 1
        · rw [if_pos z, show min (gm m 103 0 p / 10 + 1) 9 = 9 by omega]
        · rw [if_neg z, show min (gm m 103 0 p / 10 + 1) 9 = gm m 103 0 p / 10 + 1 by omega]
      rw [F, q1]
      simp only [fX12_begin_273, wi, uX12_begin_144]
      exact q2
