/-! Tables: both put each society behind as many as are ahead of it. -/
/-- who is in the table -/
abbrev tin (m : St) (l o : Int) : Prop := gm m 102 0 o = l ∧ gm m 124 0 o ≠ 0
/-- who is ahead of whom -/
abbrev ahd (m : St) (p q : Int) : Prop := rkV m q < rkV m p ∨ (rkV m q = rkV m p ∧ p < q)
def tif (m : St) (l o : Int) : Int := if tin m l o then 1 else 0
/-- is counted ahead of s -/
def ahf (m : St) (l s o : Int) : Int := if tin m l o ∧ o ≠ s ∧ ahd m o s then 1 else 0
def ahn (m : St) (l s : Int) (i : Nat) : Int := sm (ahf m l s) i 0
theorem sm_last (f : Int → Int) : ∀ (d : Nat) (j : Int), sm f (d + 1) j = sm f d j + f (j + d)
  | 0, j => by simp [sm]
  | d + 1, j => by
    have h := sm_last f d (j + 1)
    show f j + sm f (d + 1) (j + 1) = f j + sm f d (j + 1) + f (j + (d + 1 : Nat))
    rw [h, show j + 1 + (d : Int) = j + ((d + 1 : Nat) : Int) by omega]
    omega
theorem ahn_s (m : St) (l s : Int) (i : Nat) : ahn m l s (i + 1) = ahn m l s i + ahf m l s i := by
  unfold ahn
  rw [sm_last, Int.zero_add]
/-- the row of the ranking, with the first i societies in it -/
def tbI (l e : Int) (i : Nat) (c m : St) : Prop := gm c 4 (2 * l + 1) 1 = e ∧ (0 ≤ e ∧ e ≤ i) ∧ (∀ k : Int, 0 ≤ k → k < e → (0 ≤ gm c 27 (2 * l + 1) k ∧ gm c 27 (2 * l + 1) k < i) ∧ tin m l (gm c 27 (2 * l + 1) k) ∧ ahn m l (gm c 27 (2 * l + 1) k) i = k) ∧
  (∀ k k' : Int, 0 ≤ k → k < k' → k' < e → ahd m (gm c 27 (2 * l + 1) k) (gm c 27 (2 * l + 1) k')) ∧ (∀ o : Int, 0 ≤ o → o < i → tin m l o → ∃ k : Int, (0 ≤ k ∧ k < e) ∧ gm c 27 (2 * l + 1) k = o) ∧ sm (tif m l) i 0 = e
/-- the number of those ahead of a society that is to come, at the place where it comes -/
theorem ahn_new {l e p q : Int} {i : Nat} {c m : St} (T : tbI l e i c m) (hp : 0 ≤ p ∧ p ≤ e) (hq : (i : Int) ≤ q) (h1 : ∀ k : Int, 0 ≤ k → k < p → ahd m (gm c 27 (2 * l + 1) k) q) (h2 : ∀ k : Int, p ≤ k → k < e → ahd m q (gm c 27 (2 * l + 1) k)) : ahn m l q i = p := by
  obtain ⟨t1, t2, t3, t4, t5, t6⟩ := T
  by_cases hpe : p < e
  · obtain ⟨x1, x2, x3⟩ := t3 p hp.1 hpe
    rw [← x3]
    unfold ahn
    refine sm_cg i 0 (fun o o0 o1 => ?_)
    unfold ahf
    by_cases ht : tin m l o
    · obtain ⟨k, ⟨k0, k1⟩, k2⟩ := t5 o o0 (by omega) ht
      by_cases c1 : k < p
      · have a1 := h1 k k0 c1
        have a2 := t4 k p k0 c1 hpe
        rw [k2] at a1 a2
        have a3 : o ≠ gm c 27 (2 * l + 1) p := fun y => by rw [← y] at a2; omega
        rw [if_pos ⟨ht, by omega, a1⟩, if_pos ⟨ht, a3, a2⟩]
      · have a1 := h2 k (by omega) k1
        rw [k2] at a1
        rw [if_neg (fun y => by have := y.2.2; omega)]
        by_cases c2 : k = p
        · rw [if_neg (fun y => y.2.1 (by rw [← k2, c2]))]
        · have a2 := t4 p k hp.1 (by omega) k1
          rw [k2] at a2
          rw [if_neg (fun y => by have := y.2.2; omega)]
    · rw [if_neg (fun y => ht y.1), if_neg (fun y => ht y.1)]
  · -- all that are in it are ahead
    have pe : p = e := by omega
    rw [pe, ← t6]
    unfold ahn
    refine sm_cg i 0 (fun o o0 o1 => ?_)
    unfold ahf tif
    by_cases ht : tin m l o
    · obtain ⟨k, ⟨k0, k1⟩, k2⟩ := t5 o o0 (by omega) ht
      have a1 := h1 k k0 (by omega)
      rw [k2] at a1
      rw [if_pos ⟨ht, by omega, a1⟩, if_pos ht]
    · rw [if_neg (fun y => ht y.1), if_neg ht]
theorem tbI.no {l e : Int} {i : Nat} {c m : St} (T : tbI l e i c m) (h : ¬ tin m l i) : tbI l e (i + 1) c m := by
  obtain ⟨t1, t2, t3, t4, t5, t6⟩ := T
  refine ⟨t1, by omega, fun k k0 k1 => ?_, t4, fun o o0 o1 ht => ?_, ?_⟩
  · obtain ⟨x1, x2, x3⟩ := t3 k k0 k1
    refine ⟨by omega, x2, ?_⟩
    rw [ahn_s, x3]
    unfold ahf
    rw [if_neg (fun y => h y.1), Int.add_zero]
  · by_cases e1 : o = i
    · rw [e1] at ht
      exact absurd ht h
    · exact t5 o o0 (by omega) ht
  · rw [sm_last, t6, Int.zero_add]
    unfold tif
    rw [if_neg h, Int.add_zero]
theorem tbI.yes {l e p : Int} {i : Nat} {c c' m : St} (T : tbI l e i c m) (h : tin m l i) (hp : 0 ≤ p ∧ p ≤ e) (h1 : ∀ k : Int, 0 ≤ k → k < p → ahd m (gm c 27 (2 * l + 1) k) i) (h2 : ∀ k : Int, p ≤ k → k < e → ahd m i (gm c 27 (2 * l + 1) k))
    (x1 : gm c' 4 (2 * l + 1) 1 = e + 1) (x2 : ∀ j, gm c' 27 (2 * l + 1) j = if j = p then (i : Int) else if p < j ∧ j ≤ e then gm c 27 (2 * l + 1) (j - 1) else gm c 27 (2 * l + 1) j) : tbI l (e + 1) (i + 1) c' m := by
  have hn := ahn_new T hp (Int.le_refl _) h1 h2
  obtain ⟨t1, t2, t3, t4, t5, t6⟩ := T
  have y1 : ∀ j : Int, j < p → gm c' 27 (2 * l + 1) j = gm c 27 (2 * l + 1) j := fun j hj => by rw [x2, if_neg (by omega), if_neg (by omega)]
  have y2 : gm c' 27 (2 * l + 1) p = i := by rw [x2, if_pos rfl]
  have y3 : ∀ j : Int, p < j → j ≤ e → gm c' 27 (2 * l + 1) j = gm c 27 (2 * l + 1) (j - 1) := fun j h0 hj => by rw [x2, if_neg (by omega), if_pos ⟨h0, hj⟩]
  refine ⟨x1, by omega, fun k k0 k1 => ?_, fun k k' k0 k1 k2 => ?_, fun o o0 o1 ht => ?_, ?_⟩
  · rw [ahn_s]
    by_cases c1 : k < p
    · obtain ⟨z1, z2, z3⟩ := t3 k k0 (by omega)
      have a1 := h1 k k0 c1
      rw [y1 k c1, z3]
      refine ⟨by omega, z2, ?_⟩
      unfold ahf
      rw [if_neg (fun y => by have := y.2.2; omega), Int.add_zero]
    · by_cases c2 : k = p
      · rw [c2, y2, hn]
        refine ⟨by omega, h, ?_⟩
        unfold ahf
        rw [if_neg (fun y => y.2.1 rfl), Int.add_zero]
      · obtain ⟨z1, z2, z3⟩ := t3 (k - 1) (by omega) (by omega)
        have a1 := h2 (k - 1) (by omega) (by omega)
        rw [y3 k (by omega) (by omega), z3]
        refine ⟨by omega, z2, ?_⟩
        unfold ahf
        rw [if_pos ⟨h, by omega, a1⟩]
        omega
  · by_cases c1 : k' < p
    · rw [y1 k (by omega), y1 k' c1]
      exact t4 k k' k0 k1 (by omega)
    · by_cases c2 : k' = p
      · rw [c2, y2, y1 k (by omega)]
        exact h1 k k0 (by omega)
      · rw [y3 k' (by omega) (by omega)]
        by_cases c3 : k < p
        · rw [y1 k c3]
          exact t4 k (k' - 1) k0 (by omega) (by omega)
        · by_cases c4 : k = p
          · rw [c4, y2]
            exact h2 (k' - 1) (by omega) (by omega)
          · rw [y3 k (by omega) (by omega)]
            exact t4 (k - 1) (k' - 1) (by omega) (by omega) (by omega)
  · by_cases e1 : o = i
    · exact ⟨p, by omega, by rw [y2, e1]⟩
    · obtain ⟨k, k0, k1⟩ := t5 o o0 (by omega) ht
      by_cases c1 : k < p
      · exact ⟨k, by omega, by rw [y1 k c1, k1]⟩
      · exact ⟨k + 1, by omega, by rw [y3 (k + 1) (by omega) (by omega), show k + 1 - 1 = k by omega, k1]⟩
  · rw [sm_last, t6, Int.zero_add]
    unfold tif
    rw [if_pos h]
/-- what the ranking rests on -/
def rkC (l : Int) (c m : St) : Prop := inC l c m ∧ rlH c m ∧ (0 ≤ gm m 12 0 51 ∧ gm m 12 0 51 < 5)
theorem rkC.kp {l : Int} {c c' m : St} (h : rkC l c m) (hc : Kp [(27, none), (4, some 1)] c c') : rkC l c' m := ⟨h.1.kp hc (Kp.rf [] m) (by decide) (by decide), h.2.1.kp hc (Kp.rf [] m) (by decide), h.2.2⟩
theorem ecRkPl_lp {l e : Int} {c m : St} (C : rkC l c m) (he : gm c 4 (2 * l + 1) 1 = e) (he2 : 0 ≤ e ∧ e ≤ 10) (hx : ∀ k : Int, 0 ≤ k → k < e → 0 ≤ gm c 27 (2 * l + 1) k ∧ gm c 27 (2 * l + 1) k < gm m 12 0 1) {q : Int} (q0 : 0 ≤ q) (q1 : q < gm m 12 0 1) : ∀ (d n : Nat) (k : Int), d < n → 0 ≤ k → k + d = e → (∀ j : Int, 0 ≤ j → j < k → ¬ rkV m (gm c 27 (2 * l + 1) j) < rkV m q) →
    ∃ p, fX0_rankPlace_2 (kX0_rankPlace n) l q (gm m 12 0 51) k c = some (0, p, c) ∧ (0 ≤ p ∧ p ≤ e) ∧ (∀ j : Int, 0 ≤ j → j < p → ¬ rkV m (gm c 27 (2 * l + 1) j) < rkV m q) ∧ (p = e ∨ rkV m (gm c 27 (2 * l + 1) p) < rkV m q)
  | 0, n, k, hn, k0, k1, hj => by
    refine ⟨e, ?_, by omega, fun j j0 j1 => hj j j0 (by omega), Or.inl rfl⟩
    simp only [fX0_rankPlace_2, fX0_rankPlace_46, he]
    rw [if_neg (by omega)]
  | d + 1, n, k, hn, k0, k1, hj => by
    obtain ⟨n, rfl⟩ : ∃ n', n = n' + 1 := ⟨n - 1, by omega⟩
    obtain ⟨x0, x1⟩ := hx k k0 (by omega)
    have ea := ecAt (a0 := 2 * l + 1) (a1 := k) (s := c) (by omega) (by omega)
    rw [he, if_pos ⟨k0, by omega⟩] at ea
    have eb := ecBetter C.2.1 q0 q1 x0 x1 C.1.1.2 C.2.2
    have w1 : wr (k + 1) = k + 1 := wq (by omega) (by omega)
    by_cases z : rkV m (gm c 27 (2 * l + 1) k) < rkV m q
    · refine ⟨k, ?_, by omega, hj, Or.inr z⟩
      rw [if_pos z] at eb
      simp only [fX0_rankPlace_2, he, ea, bnd_ok, eb, if_pos q0]
      rw [if_pos (by omega), if_neg (by omega), if_neg (by omega)]
    · rw [if_neg z] at eb
      obtain ⟨p, g1, g2⟩ := ecRkPl_lp C he he2 hx q0 q1 d n (k + 1) (by omega) (by omega) (by omega) (fun j j0 j1 => by
        by_cases e1 : j = k
        · rw [e1]; exact z
        · exact hj j j0 (by omega))
      refine ⟨p, ?_, g2⟩
      rw [← g1]
      generalize hR : fX0_rankPlace_2 (kX0_rankPlace n) l q (gm m 12 0 51) (k + 1) c = R
      simp only [fX0_rankPlace_2, fX0_rankPlace_40, he, ea, bnd_ok, eb, if_pos q0, w1, if_true]
      rw [if_pos (by omega), if_neg (by omega), uX0_rankPlace_2, hR]
theorem ecRank_lp {l : Int} (hl : 0 ≤ l ∧ l < 2) : ∀ (d n i : Nat) (e : Int) (c m : St), rkC l c m → (i : Int) ≤ gm m 12 0 1 → tbI l e i c m → d < n → i + d = 10 →
    ∃ e' c', fX0_rank_9 (kX0_rank n) l 0 (gm m 12 0 51) i c = some (0, 0, c') ∧ tbI l e' (gm m 12 0 1).toNat c' m ∧ Kp [(27, none), (4, some 1)] c c' ∧ c'.2 = c.2 ∧ ∀ z j, z ≠ 2 * l + 1 → gm c' 27 z j = gm c 27 z j ∧ gm c' 4 z 1 = gm c 4 z 1
  | 0, n, i, e, c, m, C, hi, T, hn, hd => by
    have hn := C.1.1
    refine ⟨e, c, ?_, by rw [show (gm m 12 0 1).toNat = i by omega]; exact T, Kp.rf _ _, rfl, fun _ _ _ => ⟨rfl, rfl⟩⟩
    simp only [fX0_rank_9, fX0_rank_51]
    rw [if_neg (by omega)]
  | d + 1, n, i, e, c, m, C, hi, T, hn, hd => by
    obtain ⟨n, rfl⟩ : ∃ n', n = n' + 1 := ⟨n - 1, by omega⟩
    obtain ⟨i1, i2, i3, i4, i5⟩ := C.1
    have h13 := i5 i (by omega) (by omega)
    have w1 : wr ((i : Int) + 1) = ((i + 1 : Nat) : Int) := by rw [wq (by omega) (by omega)]; omega
    have hb : (i : Int) < 10 := by omega
    have hb2 : 0 ≤ (i : Int) ∧ (i : Int) < 10 := by omega
    by_cases hlt : (i : Int) < gm m 12 0 1
    · rw [if_pos hlt] at h13
      obtain ⟨a1, a2, a3, a4, a5, a6⟩ := i2 i (by omega) hlt
      have he := ecHasEntrant l (i : Int) c (by omega)
      rw [a4, a5, i4] at he
      by_cases ht : tin m l i
      · rw [if_pos ⟨by omega, ht.1, ht.2⟩] at he
        obtain ⟨t1, t2, t3, t4, t5, t6⟩ := id T
        obtain ⟨p, g1, g2, g3, g4⟩ := ecRkPl_lp C t1 (by omega) (fun k k0 k1 => by have := (t3 k k0 k1).1; omega) (q := i) (by omega) hlt e.toNat 9999 0 (by omega) (by omega) (by omega) (fun j j0 j1 => by omega)
        obtain ⟨c1, f1, f2, f3, f4, f5, f6⟩ := ecInsert (c := c) (r := 2 * l + 1) (p := p) (q := i) (e := e) t1 (by omega) g2
        have C1 := C.kp f2
        have T1 := T.yes ht g2 (fun k k0 k1 => by
          have := g3 k k0 k1
          have := (t3 k k0 (by omega)).1
          omega) (fun k k0 k1 => by
          have e1 : rkV m (gm c 27 (2 * l + 1) p) < rkV m i := by
            rcases g4 with g4 | g4
            · omega
            · exact g4
          by_cases e2 : k = p
          · rw [e2]; exact Or.inl e1
          · have := t4 p k g2.1 (by omega) k1
            omega) f5 f6
        obtain ⟨e', c', b1, b2, b3, b4, b5⟩ := ecRank_lp hl d n (i + 1) (e + 1) c1 m C1 (by omega) T1 (by omega) (by omega)
        refine ⟨e', c', ?_, b2, f2.tr b3, b4.trans f3, fun z j hz => ⟨(b5 z j hz).1.trans (f4 z j hz).1, (b5 z j hz).2.trans (f4 z j hz).2⟩⟩
        have g1' : FX0_rankPlace l i (gm m 12 0 51) c = some (0, p, c) := by
          simp only [FX0_rankPlace, fX0_rankPlace_0]
          exact g1
        rw [← b1]
        generalize hR : fX0_rank_9 (kX0_rank n) l 0 (gm m 12 0 51) _ c1 = R
        simp only [fX0_rank_9, fX0_rank_45, if_pos hb, if_pos hb2, h13, he, bnd_ok, g1', f1, if_neg (show ¬ (1 : Int) = 0 by omega), w1]
        rw [uX0_rank_9, hR]
      · rw [if_neg (fun y => ht ⟨y.2.1, y.2.2⟩)] at he
        obtain ⟨e', c', b1, b2⟩ := ecRank_lp hl d n (i + 1) e c m C (by omega) (T.no ht) (by omega) (by omega)
        refine ⟨e', c', ?_, b2⟩
        rw [← b1]
        generalize hR : fX0_rank_9 (kX0_rank n) l 0 (gm m 12 0 51) _ c = R
        simp only [fX0_rank_9, fX0_rank_45, if_pos hb, if_pos hb2, h13, he, bnd_ok, if_true, w1]
        rw [uX0_rank_9, hR]
    · -- no more societies
      rw [if_neg hlt] at h13
      have he := ecHasEntrant l (-1) c (by omega)
      rw [if_neg (by omega)] at he
      have stay : ∀ (d n j : Nat), gm m 12 0 1 ≤ j → d < n → j + d = 10 → fX0_rank_9 (kX0_rank n) l 0 (gm m 12 0 51) j c = some (0, 0, c) := fun d => by
        induction d with
        | zero =>
          intro n j j0 j1 j2
          simp only [fX0_rank_9, fX0_rank_51]
          rw [if_neg (by omega)]
        | succ d ih =>
          intro n j j0 j1 j2
          obtain ⟨n, rfl⟩ : ∃ n', n = n' + 1 := ⟨n - 1, by omega⟩
          have h13 := i5 j (by omega) (by omega)
          rw [if_neg (by omega)] at h13
          have w1 : wr ((j : Int) + 1) = ((j + 1 : Nat) : Int) := by rw [wq (by omega) (by omega)]; omega
          rw [← ih n (j + 1) (by omega) (by omega) (by omega)]
          generalize hR : fX0_rank_9 (kX0_rank n) l 0 (gm m 12 0 51) _ c = R
          simp only [fX0_rank_9, fX0_rank_45, h13, he, bnd_ok, if_true, w1]
          rw [if_pos (by omega), if_pos (by omega), uX0_rank_9, hR]
      refine ⟨e, c, stay (d + 1) (n + 1) i (by omega) (by omega) hd, by rw [show (gm m 12 0 1).toNat = i by omega]; exact T, Kp.rf _ _, rfl, fun _ _ _ => ⟨rfl, rfl⟩⟩
theorem ecRank {l : Int} (hl : 0 ≤ l ∧ l < 2) {c m : St} (C : rkC l c m) : ∃ e c', FX0_rank l 0 (gm m 12 0 51) c = some (0, 0, c') ∧ tbI l e (gm m 12 0 1).toNat c' m ∧ Kp [(27, none), (4, some 1)] c c' ∧ c'.2 = c.2 ∧ ∀ z j, z ≠ 2 * l + 1 → gm c' 27 z j = gm c 27 z j ∧ gm c' 4 z 1 = gm c 4 z 1 := by
  have kA : Kp [(27, none), (4, some 1)] c (pm c 4 (2 * l + 1) 1 0) := Kp.pm (Kp.rf _ _) (Or.inr (by decide))
  have T0 : tbI l 0 0 (pm c 4 (2 * l + 1) 1 0) m := ⟨by simp [gm_pm], by omega, fun k k0 k1 => by omega, fun k k' k0 k1 k2 => by omega, fun o o0 o1 => by omega, rfl⟩
  obtain ⟨e, c', a1, a2, a3, a4, a5⟩ := ecRank_lp hl 10 9999 0 0 _ m (C.kp kA) C.1.1.1 T0 (by omega) (by omega)
  refine ⟨e, c', ?_, a2, kA.tr a3, a4, fun z j hz => ?_⟩
  · have ec : FX4_clear (2 * l + 1) c = some (0, 0, pm c 4 (2 * l + 1) 1 0) := by simp only [FX4_clear, fX4_clear_0]
    simp only [FX0_rank, fX0_rank_0, ec, bnd_ok]
    exact a1
  · have := a5 z j hz
    rw [this.1, this.2]
    simp [gm_pm, hz]
