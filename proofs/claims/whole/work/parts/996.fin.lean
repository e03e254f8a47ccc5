/-! A march ends. -/
/-- who is still to be seen from the i-th part on -/
def nwP (own : Int → Int) (e i s : Int) : Prop := (∃ j : Int, i ≤ j ∧ j < e ∧ own j = s) ∧ ∀ j : Int, 0 ≤ j → j < i → own j ≠ s
theorem ecEnd_lp {t l e a b : Int} {m : St} (hl : 0 ≤ l ∧ l < 2) (he : e = gm m 134 0 l) (ha : 0 ≤ a ∧ a ≤ 1000) (hb : 0 ≤ b ∧ b ≤ 1000)
    (hcon : ∀ k k' j : Int, 0 ≤ k → k' < e → k ≤ j → j ≤ k' → gm m 135 0 (60 * l + k) = gm m 135 0 (60 * l + k') → gm m 135 0 (60 * l + j) = gm m 135 0 (60 * l + k)) :
    ∀ (d n : Nat) (i : Int) (c : St), lin t l c m → gm c 1 l 4 = a → gm c 1 l 5 = b → (∀ s : Int, nwP (fun j => gm m 135 0 (60 * l + j)) e i s → gm c 5 s 4 = 0 ∧ (-1 ≤ gm c 6 s 12 ∧ gm c 6 s 12 ≤ 400000) ∧ (-1 ≤ gm c 6 s 13 ∧ gm c 6 s 13 ≤ 400000)) → d < n → 0 ≤ i → i + d = e →
    ∃ c', fX1_end_7 (kX1_end n) l i c = some (0, 0, c') ∧ (∀ s : Int, nwP (fun j => gm m 135 0 (60 * l + j)) e i s → pcL c' s (pnL a b (tmV (gm c 6 s 12) (gm c 6 s 13)) (gm c 6 s 14))) ∧ pcF (nwP (fun j => gm m 135 0 (60 * l + j)) e i) c c'
  | 0, n, i, c, H, h1, h2, h3, hn, i0, i1 => by
    obtain ⟨-, -, ⟨e5, e51, e52⟩, -⟩ := id H
    refine ⟨c, ?_, fun s hs => ?_, pcF.rf _ _⟩
    · simp only [fX1_end_7, fX1_end_67]
      rw [if_neg (by omega)]
    · obtain ⟨⟨j, j0, j1, -⟩, -⟩ := hs
      omega
  | d + 1, n, i, c, H, h1, h2, h3, hn, i0, i1 => by
    obtain ⟨n, rfl⟩ : ∃ n', n = n' + 1 := ⟨n - 1, by omega⟩
    obtain ⟨-, -, ⟨e5, e51, e52⟩, -, h7, -⟩ := id H
    have k1 : i < gm m 134 0 l := by omega
    obtain ⟨p0, ⟨p1, p11, -⟩, -⟩ := h7 i i0 k1
    obtain ⟨o1, o2, o3, o4, o5⟩ := H.out hl i0 k1
    have w1 : wr (i - 1) = i - 1 := wq (by omega) (by omega)
    have w2 : wr (i + 1) = i + 1 := wq (by omega) (by omega)
    obtain ⟨s, es⟩ : ∃ s, gm m 135 0 (60 * l + i) = s := ⟨_, rfl⟩
    rw [es] at p1 p11
    have w := ecIsOwner H hl (i - 1) s (by omega)
    have ij : ¬ (1 : Int) = 0 := by omega
    by_cases hf : (0 ≤ i - 1 ∧ i - 1 < gm m 134 0 l) ∧ gm m 135 0 (60 * l + (i - 1)) = s
    · -- not the first one of its society
      rw [if_pos hf] at w
      have iff : ∀ s', nwP (fun j => gm m 135 0 (60 * l + j)) e i s' ↔ nwP (fun j => gm m 135 0 (60 * l + j)) e (i + 1) s' := fun s' => by
        refine ⟨fun ⟨⟨j, j0, j1, j2⟩, z⟩ => ?_, fun ⟨⟨j, j0, j1, j2⟩, z⟩ => ⟨⟨j, by omega, j1, j2⟩, fun j' q0 q1 => z j' q0 (by omega)⟩⟩
        have ne : s ≠ s' := fun y => z (i - 1) (by omega) (by omega) (by show gm m 135 0 (60 * l + (i - 1)) = s'; rw [hf.2]; exact y)
        have nj : j ≠ i := fun y => by
          rw [y] at j2
          exact ne (es.symm.trans j2)
        refine ⟨⟨j, by omega, j1, j2⟩, fun j' q0 q1 => ?_⟩
        by_cases ej : j' = i
        · rw [ej]
          show gm m 135 0 (60 * l + i) ≠ s'
          rw [es]
          exact ne
        · exact z j' q0 (by omega)
      obtain ⟨c', g1, g2, g3⟩ := ecEnd_lp hl he ha hb hcon d n (i + 1) c H h1 h2 (fun s' hs => h3 s' ((iff s').mpr hs)) (by omega) (by omega) (by omega)
      refine ⟨c', ?_, fun s' hs => g2 s' ((iff s').mp hs), ?_⟩
      · rw [← g1]
        generalize hR : fX1_end_7 (kX1_end n) l (i + 1) c = R
        simp only [fX1_end_7, fX1_end_61, o5, bnd_ok, p1, w1, w, w2]
        rw [if_pos (by omega), if_neg (show ¬ gm c 28 l i = -1 by omega), if_pos p0, if_neg (by omega), if_pos p0, if_neg ij, uX1_end_7, hR]
      · exact (pcF.rf (fun _ => False) c).tr g3 (fun _ y => y.elim) (fun s' hs => (iff s').mpr hs)
    · rw [if_neg hf] at w
      have new : nwP (fun j => gm m 135 0 (60 * l + j)) e i s := by
        refine ⟨⟨i, Int.le_refl _, by omega, es⟩, fun j j0 j1 y => hf ⟨by omega, ?_⟩⟩
        have := hcon j i (i - 1) j0 (by omega) (by omega) (by omega) (by rw [es]; exact y)
        rw [this]
        exact y
      obtain ⟨z1, z2, z3⟩ := h3 s new
      obtain ⟨c1, a1, a2, a3⟩ := ecPunFor (c := c) (p := s) (a := a) (b := b) z1 ha hb z2 z3
      have H1 := H.kp a3.1 (Kp.rf [] m) (by decide) (by rw [a3.2.1])
      have iff : ∀ s', nwP (fun j => gm m 135 0 (60 * l + j)) e i s' ↔ (s' = s ∨ nwP (fun j => gm m 135 0 (60 * l + j)) e (i + 1) s') := fun s' => by
        refine ⟨fun ⟨⟨j, j0, j1, j2⟩, z⟩ => ?_, fun y => ?_⟩
        · by_cases e1 : s' = s
          · exact Or.inl e1
          · refine Or.inr ⟨⟨j, ?_, j1, j2⟩, fun j' q0 q1 => ?_⟩
            · by_cases ej : j = i
              · rw [ej] at j2
                exact absurd (j2.symm.trans es) e1
              · omega
            · by_cases ej : j' = i
              · rw [ej]
                show gm m 135 0 (60 * l + i) ≠ s'
                rw [es]
                exact fun y => e1 y.symm
              · exact z j' q0 (by omega)
        · rcases y with y | ⟨⟨j, j0, j1, j2⟩, z⟩
          · rw [y]; exact new
          · exact ⟨⟨j, by omega, j1, j2⟩, fun j' q0 q1 => z j' q0 (by omega)⟩
      have nw1 : ¬ nwP (fun j => gm m 135 0 (60 * l + j)) e (i + 1) s := fun ⟨_, z⟩ => z i i0 (by omega) es
      obtain ⟨c', g1, g2, g3⟩ := ecEnd_lp hl he ha hb hcon d n (i + 1) c1 H1 (by rw [a3.1.k (by decide)]; exact h1) (by rw [a3.1.k (by decide)]; exact h2) (fun s' hs => by
        rw [(a3.2.2 s' (fun y => nw1 (by rw [← y]; exact hs))).1, a3.1.k (show frk _ 6 = true by decide), a3.1.k (show frk _ 6 = true by decide)]
        exact h3 s' ((iff s').mpr (Or.inr hs))) (by omega) (by omega) (by omega)
      refine ⟨c', ?_, fun s' hs => ?_, a3.tr g3 (fun s' y => (iff s').mpr (Or.inl y)) (fun s' hs => (iff s').mpr (Or.inr hs))⟩
      · rw [← g1]
        generalize hR : fX1_end_7 (kX1_end n) l (i + 1) c1 = R
        simp only [fX1_end_7, fX1_end_61, o5, bnd_ok, p1, w1, w, w2, h1, h2, a1]
        rw [if_pos (by omega), if_neg (show ¬ gm c 28 l i = -1 by omega), if_pos p0, if_neg (by omega), if_pos p0, if_pos trivial, if_pos p0, if_pos p11.1, uX1_end_7, hR]
      · by_cases e1 : s' = s
        · rw [e1]
          exact a2.fr g3 nw1
        · have := g2 s' (by
            rcases (iff s').mp hs with y | y
            · exact absurd y e1
            · exact y)
          rw [a3.1.k (show frk _ 6 = true by decide), a3.1.k (show frk _ 6 = true by decide), a3.1.k (show frk _ 6 = true by decide)] at this
          exact this
theorem emEnd_lp {l a b : Int} (hl : 0 ≤ l ∧ l < 2) (ha : 0 ≤ a ∧ a ≤ 1000) (hb : 0 ≤ b ∧ b ≤ 1000) :
    ∀ (d n : Nat) (k : Int) (m : St), gm m 12 0 1 ≤ 10 → gm m 132 0 l = a → gm m 133 0 l = b → (∀ s : Int, k ≤ s → s < gm m 12 0 1 → gm m 102 0 s = l → ¬ gm m 124 0 s = 0 → gm m 147 0 s = 0 ∧ (-1 ≤ gm m 143 0 s ∧ gm m 143 0 s ≤ 400000) ∧ (-1 ≤ gm m 144 0 s ∧ gm m 144 0 s ≤ 400000)) → d < n → 0 ≤ k → k + d = gm m 12 0 1 →
    ∃ m', fX12_ends_9 (kX12_ends n) 0 l k m = some (0, 0, m') ∧ (∀ s : Int, k ≤ s → s < gm m 12 0 1 → gm m 102 0 s = l → ¬ gm m 124 0 s = 0 → pmL m' s (pnL a b (tmV (gm m 143 0 s) (gm m 144 0 s)) (gm m 145 0 s))) ∧ pmF (fun s => k ≤ s ∧ s < gm m 12 0 1 ∧ gm m 102 0 s = l ∧ ¬ gm m 124 0 s = 0) m m'
  | 0, n, k, m, h10, h1, h2, h3, hn, k0, k1 => by
    refine ⟨m, ?_, fun s s0 s1 => by omega, pmF.rf _ _⟩
    simp only [fX12_ends_9, fX12_ends_94]
    rw [if_neg (by omega)]
  | d + 1, n, k, m, h10, h1, h2, h3, hn, k0, k1 => by
    obtain ⟨n, rfl⟩ : ∃ n', n = n' + 1 := ⟨n - 1, by omega⟩
    have w2 : wr (k + 1) = k + 1 := wq (by omega) (by omega)
    have hk : 0 ≤ k ∧ k < 10 := by omega
    have hk1 : k < gm m 12 0 1 := by omega
    have e88 : ∀ s, fX12_ends_88 (kX12_ends (n + 1)) 0 l k s = fX12_ends_9 (kX12_ends n) 0 l (k + 1) s := fun s => by
      generalize hR : fX12_ends_9 (kX12_ends n) 0 l (k + 1) s = R
      simp only [fX12_ends_88, w2]
      rw [uX12_ends_9, hR]
    by_cases hq : gm m 102 0 k = l ∧ ¬ gm m 124 0 k = 0
    · obtain ⟨z1, z2, z3⟩ := h3 k (Int.le_refl _) hk1 hq.1 hq.2
      obtain ⟨m1, a1, a2, a3⟩ := emPunFor (m := m) (p := k) (a := a) (b := b) hk z1 (kX12_ends (n + 1)) z2 z3 l hl h1 h2 ha hb hk1 hq.1 hq.2
      have e12 : gm m1 12 0 1 = gm m 12 0 1 := a3.1.k (by decide) _ _
      have e102 : ∀ s, gm m1 102 0 s = gm m 102 0 s := fun s => a3.1.k (by decide) _ _
      have e124 : ∀ s, gm m1 124 0 s = gm m 124 0 s := fun s => a3.1.k (by decide) _ _
      obtain ⟨m', g1, g2, g3⟩ := emEnd_lp hl ha hb d n (k + 1) m1 (by rw [e12]; exact h10) (by rw [a3.1.k (by decide)]; exact h1) (by rw [a3.1.k (by decide)]; exact h2) (fun s s0 s1 s2 s3 => by
        rw [e12] at s1; rw [e102] at s2; rw [e124] at s3
        rw [(a3.2.2 s (by omega)).1, a3.1.k (show frk _ 143 = true by decide), a3.1.k (show frk _ 144 = true by decide)]
        exact h3 s (by omega) s1 s2 s3) (by omega) (by omega) (by rw [e12]; omega)
      rw [e12] at g2 g3
      refine ⟨m', ?_, fun s s0 s1 s2 s3 => ?_, a3.tr g3 (fun s y => by
        subst y
        exact ⟨Int.le_refl _, hk1, hq⟩) (fun s y => by
        obtain ⟨y1, y2, y3, y4⟩ := y
        rw [e102] at y3; rw [e124] at y4
        exact ⟨by omega, y2, y3, y4⟩)⟩
      · rw [a1, e88]
        exact g1
      · by_cases e1 : s = k
        · subst e1
          exact a2.fr (by have := pnL_le a b (tmV (gm m 143 0 s) (gm m 144 0 s)) (gm m 145 0 s); omega) g3 (by omega)
        · have := g2 s (by omega) s1 (by rw [e102]; exact s2) (by rw [e124]; exact s3)
          rw [a3.1.k (show frk _ 143 = true by decide), a3.1.k (show frk _ 144 = true by decide), a3.1.k (show frk _ 145 = true by decide)] at this
          exact this
    · obtain ⟨m', g1, g2, g3⟩ := emEnd_lp hl ha hb d n (k + 1) m h10 h1 h2 (fun s s0 s1 s2 s3 => h3 s (by omega) s1 s2 s3) (by omega) (by omega) (by omega)
      refine ⟨m', ?_, fun s s0 s1 s2 s3 => ?_, (pmF.rf (fun _ => False) m).tr g3 (fun _ y => y.elim) (fun s y => ⟨by omega, y.2⟩)⟩
      · rw [← g1, ← e88 m]
        generalize hR : fX12_ends_88 (kX12_ends (n + 1)) 0 l k m = R
        simp only [fX12_ends_9, if_pos hk1, if_pos hk]
        by_cases q1 : gm m 102 0 k = l
        · rw [if_pos q1, if_pos (by
            by_cases q2 : gm m 124 0 k = 0
            · exact q2
            · exact absurd ⟨q1, q2⟩ hq)]
          exact hR
        · rw [if_neg q1]
          exact hR
      · exact g2 s (by
          by_cases e1 : s = k
          · subst e1
            exact absurd ⟨s2, s3⟩ hq
          · omega) s1 s2 s3
