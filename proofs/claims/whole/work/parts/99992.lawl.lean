/-! The law's loop: every script is gone through, and the answer is 1. -/
def lawG (a0 : Int) (L : Int) (r : Res) : Prop := ∃ (t : Int) (s' : St), r = some (0, 1, s') ∧ rl t s' s' ∧ t ≤ 520
theorem lawG.it {a0 L : Int} {p : Prop} [Decidable p] {a b : Res} (h1 : lawG a0 L a) (h2 : lawG a0 L b) : lawG a0 L (if p then a else b) := by
  split
  · exact h1
  · exact h2
theorem law_lp {a0 L : Int} (hL : L ≤ 3584) : ∀ (d n : Nat) (i t : Int) (s : St), rl t s s → gm s 61 1 0 = L → 0 ≤ L → 0 ≤ i → i = 7 * t → i ≤ L → L < i + 7 * (d + 1) → d < n → lawG a0 L (fL_law_23 (kL_law n) a0 0 0 0 i s)
  | 0, n, i, t, s, h, h1, hL0, i0, it, iL, hd, hn => by
    have w : wr (L - 7) = L - 7 := wq (by omega) (by omega)
    refine ⟨t, s, ?_, h, by omega⟩
    simp only [fL_law_23, fL_law_2642, h1, w, z01, o01, or_true, true_or, if_true]
    rw [if_pos (by omega)]
  | d + 1, n, i, t, s, h, h1, hL0, i0, it, iL, hd, hn => by
    obtain ⟨n, rfl⟩ : ∃ n', n = n' + 1 := ⟨n - 1, by omega⟩
    have w : wr (L - 7) = L - 7 := wq (by omega) (by omega)
    have w7 : wr (i + 7) = i + 7 := wq (by omega) (by omega)
    by_cases he : L - 7 < i
    · refine ⟨t, s, ?_, h, by omega⟩
      simp only [fL_law_23, fL_law_2642, h1, w, z01, o01, or_true, true_or, if_true]
      rw [if_pos he]
    · have ir : 0 ≤ i ∧ i < L := by omega
      have ht : 0 ≤ t ∧ t ≤ 600 := by omega
      have go : ∀ (m' : St), rl (t + 1) m' m' → m'.1 61 = s.1 61 → lawG a0 L (fL_law_23 (kL_law n) a0 0 0 0 (i + 7) m') := fun m' q1 q2 =>
        law_lp hL d n (i + 7) (t + 1) m' q1 (by have : gm m' 61 1 0 = gm s 61 1 0 := by unfold gm; rw [q2]
                                                rw [this]; exact h1) hL0 (by omega) (by omega) (by omega) (by omega) (by omega)
      have gg : ∀ {f : Nat → Res}, (∃ m', (∀ n, f n = fL_law_23 (kL_law n) a0 0 0 0 (i + 7) m') ∧ rl (t + 1) m' m' ∧ m'.1 61 = s.1 61) → lawG a0 L (f n) := fun ⟨m', q1, q2, q3⟩ => by
        rw [q1 n]
        exact go m' q2 q3
      have gd : lawG a0 L (fL_law_2636 (kL_law (n + 1)) a0 0 0 0 i s) := by
        have e : fL_law_2636 (kL_law (n + 1)) a0 0 0 0 i s = fL_law_23 (kL_law n) a0 0 0 0 (i + 7) s := by
          generalize hR : fL_law_23 (kL_law n) a0 0 0 0 (i + 7) s = R
          simp only [fL_law_2636, w7]
          rw [uL_law_23, hR]
        rw [e]
        exact go s h.nxt rfl
      have g_society := gg (lL_society (a0 := a0) ht h h1 (by omega) i0 (by omega))
      have g_feud := gg (lL_feud (a0 := a0) ht h h1 (by omega) i0 (by omega))
      have g_theme := gg (lL_theme (a0 := a0) ht h h1 (by omega) i0 (by omega))
      have g_song := gg (lL_song (a0 := a0) ht h h1 (by omega) i0 (by omega))
      have g_vote := gg (lL_vote (a0 := a0) ht h h1 (by omega) i0 (by omega))
      have g_round := gg (lL_round (a0 := a0) ht h h1 (by omega) i0 (by omega))
      have g_street := gg (lL_street (a0 := a0) ht h h1 (by omega) i0 (by omega))
      have g_route := gg (lL_route (a0 := a0) ht h h1 (by omega) i0 (by omega))
      have g_goOn := gg (lL_goOn (a0 := a0) ht h h1 (by omega) i0 (by omega))
      have g_jury := gg (lL_jury (a0 := a0) ht h h1 (by omega) i0 (by omega))
      have g_build := gg (lL_build (a0 := a0) ht h h1 (by omega) i0 (by omega))
      have g_cut := gg (lL_cut (a0 := a0) ht h h1 (by omega) i0 (by omega))
      have g_fits := gg (lL_fits (a0 := a0) ht h h1 (by omega) i0 (by omega))
      have g_enter := gg (lL_enter (a0 := a0) ht h h1 (by omega) i0 (by omega))
      have g_change := gg (lL_change (a0 := a0) ht h h1 (by omega) i0 (by omega))
      have g_order := gg (lL_order (a0 := a0) ht h h1 (by omega) i0 (by omega))
      have g_begin := gg (lL_begin (a0 := a0) ht h h1 (by omega) i0 (by omega))
      have g_stop := gg (lL_stop (a0 := a0) ht h h1 (by omega) i0 (by omega))
      have g_rain := gg (lL_rain (a0 := a0) ht h h1 (by omega) i0 (by omega))
      have g_ambulance := gg (lL_ambulance (a0 := a0) ht h h1 (by omega) i0 (by omega))
      have g_march := gg (lL_march (a0 := a0) ht h h1 (by omega) i0 (by omega))
      have g_part := gg (lL_part (a0 := a0) ht h h1 (by omega) i0 (by omega))
      have g_clock := gg (lL_clock (a0 := a0) ht h h1 (by omega) i0 (by omega))
      have g_note := gg (lL_note (a0 := a0) ht h h1 (by omega) i0 (by omega))
      have g_penalty := gg (lL_penalty (a0 := a0) ht h h1 (by omega) i0 (by omega))
      have g_appeal := gg (lL_appeal (a0 := a0) ht h h1 (by omega) i0 (by omega))
      have g_draw := gg (lL_draw (a0 := a0) ht h h1 (by omega) i0 (by omega))
      have g_endYear := gg (lL_endYear (a0 := a0) ht h h1 (by omega) i0 (by omega))
      have g_about := gg (lL_about (a0 := a0) ht h h1 (by omega) i0 (by omega))
      have g_notes := gg (lL_notes (a0 := a0) ht h h1 (by omega) i0 (by omega))
      have g_penaltyAt := gg (lL_penaltyAt (a0 := a0) ht h h1 (by omega) i0 (by omega))
      have g_isDoubted := gg (lL_isDoubted (a0 := a0) ht h h1 (by omega) i0 (by omega))
      have g_table := gg (lL_table (a0 := a0) ht h h1 (by omega) i0 (by omega))
      have E : lawG a0 L (fL_law_23 (kL_law (n + 1)) a0 0 0 0 i s) := by
        simp only [fL_law_23, h1, w]
        rw [if_neg he, if_pos ir]
        exact lawG.it g_society (lawG.it g_feud (lawG.it g_theme (lawG.it g_song (lawG.it g_vote (lawG.it g_round (lawG.it g_street (lawG.it g_route (lawG.it g_goOn (lawG.it g_jury (lawG.it g_build (lawG.it g_cut (lawG.it g_fits (lawG.it g_enter (lawG.it g_change (lawG.it g_order (lawG.it g_begin (lawG.it g_stop (lawG.it g_rain (lawG.it g_ambulance (lawG.it g_march (lawG.it g_part (lawG.it g_clock (lawG.it g_note (lawG.it g_penalty (lawG.it g_appeal (lawG.it g_draw (lawG.it g_endYear (lawG.it g_about (lawG.it g_notes (lawG.it g_penaltyAt (lawG.it g_isDoubted (lawG.it g_table (gd)))))))))))))))))))))))))))))))))
      exact E
/-- the law's function on a state that fits -/
theorem law_one {a0 L : Int} (h0 : 0 ≤ L) (hL : L ≤ 3584) {s : St} (h : rl 0 s s) (h1 : gm s 61 1 0 = L) : ∃ (t : Int) (s' : St), FL_law a0 0 0 0 s = some (0, 1, s') ∧ rl t s' s' ∧ t ≤ 520 := by
  have e : FL_law a0 0 0 0 s = fL_law_23 (kL_law 9999) a0 0 0 0 0 s := by simp only [FL_law, fL_law_20]
  rw [e]
  exact law_lp (a0 := a0) hL 600 9999 0 0 s h h1 h0 (by omega) (by omega) h0 (by omega) (by omega)
