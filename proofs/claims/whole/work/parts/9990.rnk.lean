/-! Who is ahead in a table: one number for each society. -/
def hrn (f : Int → Int) : Nat → Int → Int → Int
  | 0, _, a => a
  | d + 1, i, a => hrn f d (i + 1) (1000 * a + f i)
theorem hrn_0 (f : Int → Int) (i a : Int) : hrn f 0 i a = a := rfl
theorem uBet20 (n : Nat) (x0 x1 x2 x3 x4 x5 x6 : Int) (s : St) : kX6_isBetterThan (n + 1) 20 [(3, 6, x0), (2, 6, x1), (0, 0, x2), (0, 0, x3), (0, 0, x4), (0, 0, x5), (0, 0, x6)] [] s = fX6_isBetterThan_20 (kX6_isBetterThan n) x0 x1 x2 x3 x4 x5 s := rfl
theorem hrn_lt {f g : Int → Int} : ∀ (d : Nat) (i a b : Int), (∀ j : Int, i ≤ j → j < i + d → -200 ≤ f j ∧ f j ≤ 400 ∧ -200 ≤ g j ∧ g j ≤ 400) → a < b → hrn f d i a < hrn g d i b
  | 0, _, _, _, _, h => h
  | d + 1, i, a, b, hb, h => by
    have := hb i (by omega) (by omega)
    exact hrn_lt d (i + 1) _ _ (fun j j0 j1 => hb j (by omega) (by omega)) (by omega)
/-- the notes by the order of the categories drawn -/
def ntv (m : St) (p n : Int) : Int := tg (fun j => gm m 146 0 (20 * p + 5 * j + (gm m 12 0 51 + n) % 5))
def rkV (m : St) (p : Int) : Int := hrn (ntv m p) 5 0 (ptv m p)
theorem rlH.nv1 {c m : St} (h : rlH c m) {p n : Int} (h0 : 0 ≤ p) (h1 : p < gm m 12 0 1) (hn : gm m 12 0 1 ≤ 10) (d0 : 0 ≤ gm m 12 0 51 ∧ gm m 12 0 51 < 5) (n0 : 0 ≤ n) : FX5_together p ((gm m 12 0 51 + n) % 5) c = some (0, ntv m p n, c) ∧ FX12_noteSum 0 p ((gm m 12 0 51 + n) % 5) m = some (0, ntv m p n, m) ∧ -200 ≤ ntv m p n ∧ ntv m p n ≤ 400 :=
  h.tog h0 h1 hn (by omega)
theorem rlH.nv2 {c m : St} (h : rlH c m) {p q : Int} (h0 : 0 ≤ p) (h1 : p < gm m 12 0 1) (g0 : 0 ≤ q) (g1 : q < gm m 12 0 1) (hn : gm m 12 0 1 ≤ 10) (d0 : 0 ≤ gm m 12 0 51 ∧ gm m 12 0 51 < 5) (d : Nat) (i : Int) (i0 : 0 ≤ i) : ∀ j : Int, i ≤ j → j < i + d → -200 ≤ ntv m p j ∧ ntv m p j ≤ 400 ∧ -200 ≤ ntv m q j ∧ ntv m q j ≤ 400 := fun j j0 _ => by
  obtain ⟨-, -, a1, a2⟩ := h.nv1 (n := j) h0 h1 hn d0 (by omega)
  obtain ⟨-, -, b1, b2⟩ := h.nv1 (n := j) g0 g1 hn d0 (by omega)
  exact ⟨a1, a2, b1, b2⟩
theorem ecBet_lp {c m : St} (h : rlH c m) {p q : Int} (h0 : 0 ≤ p) (h1 : p < gm m 12 0 1) (g0 : 0 ≤ q) (g1 : q < gm m 12 0 1) (hn : gm m 12 0 1 ≤ 10) (d0 : 0 ≤ gm m 12 0 51 ∧ gm m 12 0 51 < 5) :
    ∀ (d n : Nat) (i a b A B : Int), d < n → 0 ≤ i → i + d = 5 → (a = b ↔ A = B) → (b < a ↔ B < A) → fX6_isBetterThan_20 (kX6_isBetterThan n) p q (gm m 12 0 51) a b i c = some (0, if hrn (ntv m q) d i B < hrn (ntv m p) d i A then 1 else 0, c)
  | 0, n, i, a, b, A, B, hd, i0, i1, e1, e2 => by
    simp only [fX6_isBetterThan_20, fX6_isBetterThan_67, fX6_isBetterThan_77, fX6_isBetterThan_78, z01, o01, or_true, true_or, if_true]
    rw [if_neg (by omega), hrn_0, hrn_0]
    by_cases z : b < a
    · rw [if_pos z, if_pos (e2.mp z)]
    · rw [if_neg z, if_neg (fun y => z (e2.mpr y))]
  | d + 1, n, i, a, b, A, B, hd, i0, i1, e1, e2 => by
    obtain ⟨n, rfl⟩ : ∃ n', n = n' + 1 := ⟨n - 1, by omega⟩
    obtain ⟨x1, -, -, -⟩ := h.nv1 (n := i) h0 h1 hn d0 i0
    obtain ⟨x2, -, -, -⟩ := h.nv1 (n := i) g0 g1 hn d0 i0
    have bd := h.nv2 (q := q) h0 h1 g0 g1 hn d0 (d + 1) i i0
    have bd2 := h.nv2 (q := p) g0 g1 h0 h1 hn d0 (d + 1) i i0
    have w1 : wr (i + 1) = i + 1 := wq (by omega) (by omega)
    have w2 : wr (gm m 12 0 51 + i) = gm m 12 0 51 + i := wq (by omega) (by omega)
    have w3 : irm (gm m 12 0 51 + i) 5 = (gm m 12 0 51 + i) % 5 := irm_id (by omega)
    by_cases e : a = b
    · have ih := ecBet_lp h h0 h1 g0 g1 hn d0 d n (i + 1) (ntv m p i) (ntv m q i) (1000 * A + ntv m p i) (1000 * B + ntv m q i) (by omega) (by omega) (by omega) (by have := e1.mp e; omega) (by have := e1.mp e; omega)
      generalize hR : (some (0, if hrn (ntv m q) (d + 1) i B < hrn (ntv m p) (d + 1) i A then 1 else 0, c) : Res) = R
      simp only [fX6_isBetterThan_20, if_pos e, w1, w2, w3, x1, x2, bnd_ok, if_pos g0]
      rw [if_pos (by omega), if_neg (by omega), uBet20, ih, ← hR]
      rfl
    · simp only [fX6_isBetterThan_20, fX6_isBetterThan_67, fX6_isBetterThan_77, fX6_isBetterThan_78, if_neg e, z01, o01, or_true, true_or, if_true]
      rw [if_pos (by omega)]
      by_cases z : b < a
      · rw [if_pos z, if_pos (hrn_lt (d + 1) i B A bd2 (e2.mp z))]
      · rw [if_neg z, if_neg (fun y => by
          have z1 : ¬ A = B := fun y => e (e1.mpr y)
          have z2 : ¬ B < A := fun y => z (e2.mpr y)
          have := hrn_lt (d + 1) i A B bd (by omega)
          omega)]
theorem ecBetter {c m : St} (h : rlH c m) {p q : Int} (h0 : 0 ≤ p) (h1 : p < gm m 12 0 1) (g0 : 0 ≤ q) (g1 : q < gm m 12 0 1) (hn : gm m 12 0 1 ≤ 10) (d0 : 0 ≤ gm m 12 0 51 ∧ gm m 12 0 51 < 5) : FX6_isBetterThan p q (gm m 12 0 51) c = some (0, if rkV m q < rkV m p then 1 else 0, c) := by
  obtain ⟨x1, -⟩ := h.pts h0 h1 hn
  obtain ⟨x2, -⟩ := h.pts g0 g1 hn
  have e := ecBet_lp h h0 h1 g0 g1 hn d0 5 9999 0 (ptv m p) (ptv m q) (ptv m p) (ptv m q) (by omega) (by omega) (by omega) Iff.rfl Iff.rfl
  simp only [FX6_isBetterThan, fX6_isBetterThan_0, x1, x2, bnd_ok, if_pos g0]
  exact e
theorem emAh_lp {c m : St} (h : rlH c m) {p q : Int} (h0 : 0 ≤ p) (h1 : p < gm m 12 0 1) (g0 : 0 ≤ q) (g1 : q < gm m 12 0 1) (hn : gm m 12 0 1 ≤ 10) (d0 : 0 ≤ gm m 12 0 51 ∧ gm m 12 0 51 < 5) :
    ∀ (d n : Nat) (i A B : Int), d < n → 0 ≤ i → i + d = 5 → A = B → fX12_isAhead_34 (kX12_isAhead n) 0 p q i m = some (0, if hrn (ntv m q) d i B < hrn (ntv m p) d i A ∨ (hrn (ntv m q) d i B = hrn (ntv m p) d i A ∧ p < q) then 1 else 0, m)
  | 0, n, i, A, B, hd, i0, i1, e => by
    simp only [fX12_isAhead_34, fX12_isAhead_95, fX12_isAhead_104, fX12_isAhead_105, z01, o01, or_true, true_or, if_true]
    rw [if_neg (by omega), hrn_0, hrn_0]
    by_cases z : p < q
    · rw [if_pos z, if_pos (by omega)]
    · rw [if_neg z, if_neg (by omega)]
  | d + 1, n, i, A, B, hd, i0, i1, e => by
    obtain ⟨n, rfl⟩ : ∃ n', n = n' + 1 := ⟨n - 1, by omega⟩
    obtain ⟨-, x1, -, -⟩ := h.nv1 (n := i) h0 h1 hn d0 i0
    obtain ⟨-, x2, -, -⟩ := h.nv1 (n := i) g0 g1 hn d0 i0
    have bd := h.nv2 (q := q) h0 h1 g0 g1 hn d0 d (i + 1) (by omega)
    have bd2 := h.nv2 (q := p) g0 g1 h0 h1 hn d0 d (i + 1) (by omega)
    have w1 : wr (i + 1) = i + 1 := wq (by omega) (by omega)
    have w2 : wr (gm m 12 0 51 + i) = gm m 12 0 51 + i := wq (by omega) (by omega)
    have w3 : irm (gm m 12 0 51 + i) 5 = (gm m 12 0 51 + i) % 5 := irm_id (by omega)
    by_cases z : ntv m p i = ntv m q i
    · have ih := emAh_lp h h0 h1 g0 g1 hn d0 d n (i + 1) (1000 * A + ntv m p i) (1000 * B + ntv m q i) (by omega) (by omega) (by omega) (by omega)
      generalize hR : (some (0, if hrn (ntv m q) (d + 1) i B < hrn (ntv m p) (d + 1) i A ∨ (hrn (ntv m q) (d + 1) i B = hrn (ntv m p) (d + 1) i A ∧ p < q) then 1 else 0, m) : Res) = R
      simp only [fX12_isAhead_34, fX12_isAhead_89, w1, w2, w3, x1, x2, bnd_ok, if_pos z]
      rw [if_pos (by omega), if_neg (by omega), uX12_isAhead_34, ih, ← hR]
      rfl
    · simp only [fX12_isAhead_34, fX12_isAhead_87, fX12_isAhead_88, w1, w2, w3, x1, x2, bnd_ok, if_neg z, z01, o01, or_true, true_or, if_true]
      rw [if_pos (by omega), if_neg (by omega)]
      unfold hrn
      by_cases y : ntv m q i < ntv m p i
      · have := hrn_lt d (i + 1) (1000 * B + ntv m q i) (1000 * A + ntv m p i) bd2 (by omega)
        rw [if_pos y, if_pos (Or.inl this)]
      · have := hrn_lt d (i + 1) (1000 * A + ntv m p i) (1000 * B + ntv m q i) bd (by omega)
        rw [if_neg y, if_neg (by omega)]
theorem emAhead {c m : St} (h : rlH c m) {p q : Int} (h0 : 0 ≤ p) (h1 : p < gm m 12 0 1) (g0 : 0 ≤ q) (g1 : q < gm m 12 0 1) (hn : gm m 12 0 1 ≤ 10) (d0 : 0 ≤ gm m 12 0 51 ∧ gm m 12 0 51 < 5) : FX12_isAhead 0 p q m = some (0, if rkV m q < rkV m p ∨ (rkV m q = rkV m p ∧ p < q) then 1 else 0, m) := by
  obtain ⟨-, x1⟩ := h.pts h0 h1 hn
  obtain ⟨-, x2⟩ := h.pts g0 g1 hn
  have bd := h.nv2 (q := q) h0 h1 g0 g1 hn d0 5 0 (by omega)
  have bd2 := h.nv2 (q := p) g0 g1 h0 h1 hn d0 5 0 (by omega)
  unfold rkV
  by_cases z : ptv m p = ptv m q
  · have e := emAh_lp h h0 h1 g0 g1 hn d0 5 9999 0 (ptv m p) (ptv m q) (by omega) (by omega) (by omega) z
    simp only [FX12_isAhead, fX12_isAhead_0, fX12_isAhead_32, x1, x2, bnd_ok, if_pos z]
    exact e
  · simp only [FX12_isAhead, fX12_isAhead_0, fX12_isAhead_30, fX12_isAhead_31, x1, x2, bnd_ok, if_neg z, z01, o01, or_true, true_or, if_true]
    by_cases y : ptv m q < ptv m p
    · have := hrn_lt 5 0 (ptv m q) (ptv m p) bd2 y
      rw [if_pos y, if_pos (Or.inl this)]
    · have := hrn_lt 5 0 (ptv m p) (ptv m q) bd (by omega)
      rw [if_neg y, if_neg (by omega)]
