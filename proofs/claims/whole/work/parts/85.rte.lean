/-! Streets between corners, routes, what fits. -/
theorem ecBetween_lp {a b S : Int} {c m : St} (h22 : ∀ i : Int, 0 ≤ i → i < 16 → gm c 22 0 i = if i < S then i else -1) (h8 : ∀ i : Int, 0 ≤ i → i < S → gm c 8 i 0 = gm m 115 0 i ∧ gm c 8 i 1 = gm m 116 0 i) :
    ∀ (d n : Nat) (i : Int), d < n → 0 ≤ i → i + d = 16 → ∃ r, fX9_between_2 (kX9_between n) 0 a b i c = some (0, r, c) ∧ ((r = -1 ∧ ∀ j, i ≤ j → j < 16 → j < S → ¬ jns m j a b) ∨ (i ≤ r ∧ r < S ∧ jns m r a b))
  | 0, n, i, hn, h0, hi => by
    refine ⟨-1, ?_, Or.inl ⟨rfl, fun j j0 j1 => by omega⟩⟩
    simp only [fX9_between_2, fX9_between_43]
    rw [if_neg (by omega)]
  | d + 1, n, i, hn, h0, hi => by
    obtain ⟨n, rfl⟩ : ∃ n', n = n' + 1 := ⟨n - 1, by omega⟩
    obtain ⟨r, ih, hr⟩ := ecBetween_lp (a := a) (b := b) h22 h8 d n (i + 1) (by omega) (by omega) (by omega)
    have hb : 0 ≤ i ∧ i < 16 := by omega
    simp only [fX9_between_2, fX9_between_37, if_pos hb, h22 i h0 hb.2, ecJoins]
    simp (disch := omega) only [bnd_ok, wq]
    simp only [uX9_between_2, ih]
    rw [if_pos hb.2]
    by_cases hS : i < S
    · obtain ⟨q1, q2⟩ := h8 i h0 hS
      simp only [if_pos hS, q1, q2]
      by_cases hj : jns m i a b
      · refine ⟨i, ?_, Or.inr ⟨Int.le_refl _, hS, hj⟩⟩
        have hj' : (gm m 115 0 i = a ∧ gm m 116 0 i = b) ∨ gm m 115 0 i = b ∧ gm m 116 0 i = a := hj
        rw [if_neg (by omega), if_pos h0, if_pos hj', if_neg (by decide)]
      · refine ⟨r, ?_, ?_⟩
        · have hj' : ¬ ((gm m 115 0 i = a ∧ gm m 116 0 i = b) ∨ gm m 115 0 i = b ∧ gm m 116 0 i = a) := hj
          rw [if_neg (by omega), if_pos h0, if_neg hj', if_pos rfl]
        · rcases hr with ⟨r1, r2⟩ | ⟨r1, r2, r3⟩
          · refine Or.inl ⟨r1, fun j j0 j1 j2 => ?_⟩
            by_cases e : j = i
            · rw [e]; exact hj
            · exact r2 j (by omega) j1 j2
          · exact Or.inr ⟨by omega, r2, r3⟩
    · refine ⟨r, ?_, ?_⟩
      · simp only [if_neg hS, if_true]
      · rcases hr with ⟨r1, r2⟩ | ⟨r1, r2, r3⟩
        · exact Or.inl ⟨r1, fun j j0 j1 j2 => by omega⟩
        · omega
theorem emBetween_lp {a b S : Int} {m : St} (hS : gm m 12 0 14 = S) (hS2 : S ≤ 16) : ∀ (d n : Nat) (i acc : Int), d < n → 0 ≤ i → i + d = S → ∃ r, fX12_streetBetween_5 (kX12_streetBetween n) 0 a b acc i m = some (0, r, m) ∧ ((r = acc ∧ ∀ j, i ≤ j → j < S → ¬ jns m j a b) ∨ (i ≤ r ∧ r < S ∧ jns m r a b))
  | 0, n, i, acc, hn, h0, hi => by
    refine ⟨acc, ?_, Or.inl ⟨rfl, fun j j0 j1 => by omega⟩⟩
    simp only [fX12_streetBetween_5, fX12_streetBetween_83, hS]
    rw [if_neg (by omega)]
  | d + 1, n, i, acc, hn, h0, hi => by
    obtain ⟨n, rfl⟩ : ∃ n', n = n' + 1 := ⟨n - 1, by omega⟩
    have hb : 0 ≤ i ∧ i < 16 := by omega
    have hiS : i < S := by omega
    by_cases hj : jns m i a b
    · obtain ⟨r, ih, hr⟩ := emBetween_lp (a := a) (b := b) hS hS2 d n (i + 1) i (by omega) (by omega) (by omega)
      refine ⟨r, ?_, ?_⟩
      · simp only [fX12_streetBetween_5, fX12_streetBetween_36, fX12_streetBetween_58, fX12_streetBetween_62, fX12_streetBetween_63, fX12_streetBetween_75, fX12_streetBetween_76, if_pos hb, hS, if_pos hiS]
        simp (disch := omega) only [wq]
        simp only [uX12_streetBetween_5, ih]
        rcases hj with ⟨j1, j2⟩ | ⟨j1, j2⟩
        · simp [j1, j2]
        · by_cases e : gm m 115 0 i = a <;> by_cases e2 : gm m 116 0 i = b <;> simp_all
      · rcases hr with ⟨r1, r2⟩ | ⟨r1, r2, r3⟩
        · exact Or.inr ⟨by omega, by omega, by rw [r1]; exact hj⟩
        · exact Or.inr ⟨by omega, r2, r3⟩
    · obtain ⟨r, ih, hr⟩ := emBetween_lp (a := a) (b := b) hS hS2 d n (i + 1) acc (by omega) (by omega) (by omega)
      refine ⟨r, ?_, ?_⟩
      · simp only [fX12_streetBetween_5, fX12_streetBetween_36, fX12_streetBetween_58, fX12_streetBetween_62, fX12_streetBetween_63, fX12_streetBetween_75, fX12_streetBetween_76, if_pos hb, hS, if_pos hiS]
        simp (disch := omega) only [wq]
        simp only [uX12_streetBetween_5, ih]
        have j1 : ¬ (gm m 115 0 i = a ∧ gm m 116 0 i = b) := fun z => hj (Or.inl z)
        have j2 : ¬ (gm m 115 0 i = b ∧ gm m 116 0 i = a) := fun z => hj (Or.inr z)
        by_cases e1 : gm m 115 0 i = a
        · have e2 : ¬ gm m 116 0 i = b := fun z => j1 ⟨e1, z⟩
          by_cases e3 : gm m 115 0 i = b
          · have e4 : ¬ gm m 116 0 i = a := fun z => j2 ⟨e3, z⟩
            simp [e1, e2, e3, e4]
          · have e5 : ¬ a = b := fun z => e3 (e1.trans z)
            simp [e1, e2, e5]
        · by_cases e3 : gm m 115 0 i = b
          · have e4 : ¬ gm m 116 0 i = a := fun z => j2 ⟨e3, z⟩
            have e5 : ¬ b = a := fun z => e1 (e3.trans z)
            simp [e1, e3, e4, e5]
          · simp [e1, e3]
      · rcases hr with ⟨r1, r2⟩ | ⟨r1, r2, r3⟩
        · refine Or.inl ⟨r1, fun j j0 j1 => ?_⟩
          by_cases e : j = i
          · rw [e]; exact hj
          · exact r2 j (by omega) j1
        · exact Or.inr ⟨by omega, r2, r3⟩
/-- the street between two corners, or none -/
theorem rlD.btw {c m : St} (h : rlD c m) (a b : Int) : ∃ r, FX9_between 0 a b c = some (0, r, c) ∧ FX12_streetBetween 0 a b m = some (0, r, m) ∧ ((r = -1 ∧ ∀ j, 0 ≤ j → j < gm m 12 0 14 → ¬ jns m j a b) ∨ (0 ≤ r ∧ r < gm m 12 0 14 ∧ jns m r a b)) := by
  obtain ⟨⟨h1, h2, h3, h4⟩, h5, h6, h7⟩ := h
  obtain ⟨r1, e1, q1⟩ := ecBetween_lp (a := a) (b := b) h5 (fun i i0 i1 => ⟨(h6 i i0 i1).1.1, (h6 i i0 i1).1.2.1⟩) 16 9999 0 (by omega) (by omega) (by omega)
  obtain ⟨r2, e2, q2⟩ := emBetween_lp (a := a) (b := b) (m := m) rfl h3 (gm m 12 0 14).toNat 9999 0 (-1) (by omega) (by omega) (by omega)
  have e : r1 = r2 := by
    rcases q1 with ⟨q1, q3⟩ | ⟨q1, q3, q4⟩ <;> rcases q2 with ⟨q2, q5⟩ | ⟨q2, q5, q6⟩
    · rw [q1, q2]
    · exact absurd q6 (q3 r2 q2 (by omega) q5)
    · exact absurd q4 (q5 r1 q1 q3)
    · exact h7 r1 r2 a b q1 q3 q2 q5 q4 q6
  subst e
  refine ⟨r1, ?_, ?_, ?_⟩
  · simp only [FX9_between, fX9_between_0]; exact e1
  · simp only [FX12_streetBetween, fX12_streetBetween_0]; exact e2
  · rcases q2 with ⟨q2, q5⟩ | ⟨q2, q5, q6⟩
    · exact Or.inl ⟨q2, q5⟩
    · exact Or.inr ⟨q2, q5, q6⟩
theorem emStreetOf {c m : St} (hD : rlD c m) (hR : rlR c m) {l k : Int} (hl : 0 ≤ l ∧ l < 2) (hk : 0 ≤ k) (hk2 : k + 1 < gm m 121 0 l) : FX12_streetOf 0 l k m = some (0, gm c 26 l (k + 1), m) ∧ 0 ≤ gm c 26 l (k + 1) ∧ gm c 26 l (k + 1) < gm m 12 0 14 := by
  obtain ⟨⟨r1, r2, r3⟩, r4, r5, r6, r7⟩ := hR l hl.1 hl.2
  obtain ⟨⟨s1, s2⟩, s3, s4⟩ := r6 (k + 1) (by omega) hk2
  rw [show k + 1 - 1 = k by omega] at s3 s4
  obtain ⟨r, -, e2, q⟩ := hD.btw (gm m 122 0 (10 * l + k)) (gm m 122 0 (10 * l + (k + 1)))
  have er : r = gm c 26 l (k + 1) := by
    rcases q with ⟨q1, q2⟩ | ⟨q1, q2, q3⟩
    · exact absurd s3 (q2 _ s1 s2)
    · exact hD.2.2.2 _ _ _ _ q1 q2 s1 s2 q3 s3
  refine ⟨?_, s1, s2⟩
  simp only [FX12_streetOf, fX12_streetOf_0]
  simp (disch := omega) only [wq]
  rw [if_pos (by omega), if_pos (by omega), show 10 * l + k + 1 = 10 * l + (k + 1) by omega, e2, er]
  rfl
theorem rlR.st_le {c m : St} (hD : rlD c m) (hR : rlR c m) {l : Int} (hl : 0 ≤ l ∧ l < 2) : ∀ (d : Nat) (k : Int), k = d → k < gm m 121 0 l → k ≤ gm c 25 l k ∧ gm c 25 l k ≤ 30 * k
  | 0, k, hk, hk2 => by
    obtain ⟨-, r4, -⟩ := hR l hl.1 hl.2
    have : k = 0 := by omega
    subst this
    omega
  | d + 1, k, hk, hk2 => by
    obtain ⟨-, -, -, r6, -⟩ := hR l hl.1 hl.2
    obtain ⟨⟨s1, s2⟩, s3, s4⟩ := r6 k (by omega) hk2
    have ih := rlR.st_le hD hR hl d (k - 1) (by omega) (by omega)
    have := (hD.2.2.1 _ s1 s2).2.1
    omega
theorem emCells_lp {c m : St} (hD : rlD c m) (hR : rlR c m) {l : Int} (hl : 0 ≤ l ∧ l < 2) (hc : 1 ≤ gm m 121 0 l) : ∀ (d n : Nat) (i : Int), d < n → 0 ≤ i → i + d = gm m 121 0 l - 1 → fX12_cells_4 (kX12_cells n) 0 l (gm c 25 l i) i m = some (0, gm c 25 l (gm m 121 0 l - 1), m)
  | 0, n, i, hn, h0, hi => by
    obtain ⟨⟨r1, r2, r3⟩, -⟩ := hR l hl.1 hl.2
    simp only [fX12_cells_4, fX12_cells_36, if_pos hl]
    rw [wq (by omega) (by omega), if_neg (by omega), show i = gm m 121 0 l - 1 by omega]
  | d + 1, n, i, hn, h0, hi => by
    obtain ⟨n, rfl⟩ : ∃ n', n = n' + 1 := ⟨n - 1, by omega⟩
    obtain ⟨⟨r1, r2, r3⟩, -, -, r6, -⟩ := hR l hl.1 hl.2
    obtain ⟨e1, e2, e3⟩ := emStreetOf hD hR hl h0 (show i + 1 < gm m 121 0 l by omega)
    have hs := hD.1.2.2.1
    have b1 := rlR.st_le hD hR hl i.toNat i (by omega) (by omega)
    have b2 := (hD.2.2.1 _ e2 e3).2.1
    have s4 := (r6 (i + 1) (by omega) (by omega)).2.2
    rw [show i + 1 - 1 = i by omega] at s4
    simp only [fX12_cells_4, if_pos hl, e1, bnd_ok]
    simp (disch := omega) only [wq]
    rw [if_pos (by omega), if_pos (by omega), uX12_cells_4, ← s4]
    exact emCells_lp hD hR hl hc d n (i + 1) (by omega) (by omega) (by omega)
/-- how many cells a route has -/
def clv (c m : St) (l : Int) : Int := if 1 ≤ gm m 121 0 l then gm c 25 l (gm m 121 0 l - 1) else 0
theorem ecCellsV {c m : St} (hR : rlR c m) {l : Int} (hl : 0 ≤ l ∧ l < 2) : FX3_cells l c = some (0, clv c m l, c) := by
  obtain ⟨⟨r1, r2, r3⟩, -⟩ := hR l hl.1 hl.2
  rw [ecCells (by omega) (by omega), r1]
  rfl
theorem emCellsV {c m : St} (hD : rlD c m) (hR : rlR c m) {l : Int} (hl : 0 ≤ l ∧ l < 2) : FX12_cells 0 l m = some (0, clv c m l, m) := by
  obtain ⟨⟨r1, r2, r3⟩, r4, -⟩ := hR l hl.1 hl.2
  simp only [FX12_cells, fX12_cells_0, clv]
  by_cases hc : 1 ≤ gm m 121 0 l
  · rw [if_pos hc]
    have r := emCells_lp hD hR hl hc (gm m 121 0 l - 1).toNat 9999 0 (by omega) (by omega) (by omega)
    rw [r4] at r
    exact r
  · rw [if_neg hc]
    simp only [fX12_cells_4, fX12_cells_36, if_pos hl]
    rw [wq (by omega) (by omega), if_neg (by omega)]
theorem clv_le {c m : St} (hD : rlD c m) (hR : rlR c m) {l : Int} (hl : 0 ≤ l ∧ l < 2) : 0 ≤ clv c m l ∧ clv c m l ≤ 300 ∧ (2 ≤ gm m 121 0 l → 1 ≤ clv c m l) := by
  obtain ⟨⟨r1, r2, r3⟩, -⟩ := hR l hl.1 hl.2
  unfold clv
  split
  · have b := rlR.st_le hD hR hl (gm m 121 0 l - 1).toNat (gm m 121 0 l - 1) (by omega) (by omega)
    omega
  · omega
theorem ecPlace_lp {c m : St} (hR : rlR c m) {l x : Int} (hl : 0 ≤ l ∧ l < 2) : ∀ (d n : Nat) (i : Int), d < n → 0 ≤ i → i + d = gm m 121 0 l → ∃ r, fX3_placeOf_2 (kX3_placeOf n) l x i c = some (0, r, c) ∧ ((r = -1 ∧ ∀ j, i ≤ j → j < gm m 121 0 l → gm m 122 0 (10 * l + j) ≠ x) ∨ (i ≤ r ∧ r < gm m 121 0 l ∧ gm m 122 0 (10 * l + r) = x))
  | 0, n, i, hn, h0, hi => by
    obtain ⟨⟨r1, r2, r3⟩, -⟩ := hR l hl.1 hl.2
    refine ⟨-1, ?_, Or.inl ⟨rfl, fun j j0 j1 => by omega⟩⟩
    simp only [fX3_placeOf_2, fX3_placeOf_27, r1]
    rw [if_neg (by omega)]
  | d + 1, n, i, hn, h0, hi => by
    obtain ⟨n, rfl⟩ : ∃ n', n = n' + 1 := ⟨n - 1, by omega⟩
    obtain ⟨⟨r1, r2, r3⟩, r4, r5, -⟩ := hR l hl.1 hl.2
    obtain ⟨r, ih, hr⟩ := ecPlace_lp (x := x) hR hl d n (i + 1) (by omega) (by omega) (by omega)
    simp only [fX3_placeOf_2, fX3_placeOf_21, r1]
    rw [if_pos (by omega), ecCornerAt (by omega) (by omega), r1, if_pos (by omega), (r5 i h0 (by omega)).1]
    simp (disch := omega) only [bnd_ok, wq]
    simp only [uX3_placeOf_2, ih]
    by_cases e : gm m 122 0 (10 * l + i) = x
    · exact ⟨i, by rw [if_pos e], Or.inr ⟨Int.le_refl _, by omega, e⟩⟩
    · refine ⟨r, by rw [if_neg e], ?_⟩
      rcases hr with ⟨q1, q2⟩ | ⟨q1, q2, q3⟩
      · refine Or.inl ⟨q1, fun j j0 j1 => ?_⟩
        by_cases ej : j = i
        · rw [ej]; exact e
        · exact q2 j (by omega) j1
      · exact Or.inr ⟨by omega, q2, q3⟩
theorem emPlace_lp {c m : St} (hR : rlR c m) {l x : Int} (hl : 0 ≤ l ∧ l < 2) : ∀ (d n : Nat) (i acc : Int), d < n → 0 ≤ i → i + d = gm m 121 0 l → ∃ r, fX12_placeOf_5 (kX12_placeOf n) 0 l x acc i m = some (0, r, m) ∧ ((r = acc ∧ ∀ j, i ≤ j → j < gm m 121 0 l → gm m 122 0 (10 * l + j) ≠ x) ∨ (i ≤ r ∧ r < gm m 121 0 l ∧ gm m 122 0 (10 * l + r) = x))
  | 0, n, i, acc, hn, h0, hi => by
    refine ⟨acc, ?_, Or.inl ⟨rfl, fun j j0 j1 => by omega⟩⟩
    simp only [fX12_placeOf_5, fX12_placeOf_45, if_pos hl]
    rw [if_neg (by omega)]
  | d + 1, n, i, acc, hn, h0, hi => by
    obtain ⟨n, rfl⟩ : ∃ n', n = n' + 1 := ⟨n - 1, by omega⟩
    obtain ⟨⟨r1, r2, r3⟩, -⟩ := hR l hl.1 hl.2
    obtain ⟨r, ih, hr⟩ := emPlace_lp (x := x) hR hl d n (i + 1) (if gm m 122 0 (10 * l + i) = x then i else acc) (by omega) (by omega) (by omega)
    refine ⟨r, ?_, ?_⟩
    · simp only [fX12_placeOf_5, fX12_placeOf_37, fX12_placeOf_38, if_pos hl]
      simp (disch := omega) only [wq]
      rw [if_pos (by omega), if_pos (by omega)]
      simp only [uX12_placeOf_5]
      rw [← ih]
      by_cases e : gm m 122 0 (10 * l + i) = x
      · rw [if_pos e, if_pos e]
      · rw [if_neg e, if_neg e]
    · by_cases e : gm m 122 0 (10 * l + i) = x
      · rw [if_pos e] at hr
        rcases hr with ⟨q1, q2⟩ | ⟨q1, q2, q3⟩
        · exact Or.inr ⟨by omega, by omega, by rw [q1]; exact e⟩
        · exact Or.inr ⟨by omega, q2, q3⟩
      · rw [if_neg e] at hr
        rcases hr with ⟨q1, q2⟩ | ⟨q1, q2, q3⟩
        · refine Or.inl ⟨q1, fun j j0 j1 => ?_⟩
          by_cases ej : j = i
          · rw [ej]; exact e
          · exact q2 j (by omega) j1
        · exact Or.inr ⟨by omega, q2, q3⟩
/-- where a corner is in a route, or nowhere -/
theorem rlR.plc {c m : St} (hR : rlR c m) {l : Int} (hl : 0 ≤ l ∧ l < 2) (x : Int) : ∃ r, FX3_placeOf l x c = some (0, r, c) ∧ FX12_placeOf 0 l x m = some (0, r, m) ∧ ((r = -1 ∧ ∀ j, 0 ≤ j → j < gm m 121 0 l → gm m 122 0 (10 * l + j) ≠ x) ∨ (0 ≤ r ∧ r < gm m 121 0 l ∧ gm m 122 0 (10 * l + r) = x)) := by
  obtain ⟨⟨r1, r2, r3⟩, -, -, -, r7⟩ := hR l hl.1 hl.2
  obtain ⟨a, e1, q1⟩ := ecPlace_lp (x := x) hR hl (gm m 121 0 l).toNat 9999 0 (by omega) (by omega) (by omega)
  obtain ⟨b, e2, q2⟩ := emPlace_lp (x := x) hR hl (gm m 121 0 l).toNat 9999 0 (-1) (by omega) (by omega) (by omega)
  have e : a = b := by
    rcases q1 with ⟨q1, q3⟩ | ⟨q1, q3, q4⟩ <;> rcases q2 with ⟨q2, q5⟩ | ⟨q2, q5, q6⟩
    · rw [q1, q2]
    · exact absurd q6 (q3 b q2 q5)
    · exact absurd q4 (q5 a q1 q3)
    · exact r7 a b q1 q3 q2 q5 (q4.trans q6.symm)
  subst e
  refine ⟨a, ?_, ?_, q1⟩
  · simp only [FX3_placeOf, fX3_placeOf_0]; exact e1
  · simp only [FX12_placeOf, fX12_placeOf_0]; exact e2
