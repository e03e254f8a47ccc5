/-! Points and doubts. -/
theorem ecPts1 {f : Int → Int} {a0 : Int} {s : St} (h : ∀ c, 0 ≤ c → c < 5 → FX5_together a0 c s = some (0, f c, s) ∧ -200 ≤ f c ∧ f c ≤ 400) : ∀ (d n : Nat) (c acc : Int), 0 ≤ c → c + d = 5 → -200 * c ≤ acc → acc ≤ 400 * c → fX5_points_4 (kX5_points (n + d)) a0 acc c s = fX5_points_23 (kX5_points n) a0 (acc + sm f d c) s
  | 0, n, c, acc, h0, hc, b1, b2 => by
    simp only [fX5_points_4, sm]
    rw [if_neg (by omega)]
    simp
  | d + 1, n, c, acc, h0, hc, b1, b2 => by
    obtain ⟨h1, h2, h3⟩ := h c h0 (by omega)
    rw [show n + (d + 1) = n + d + 1 from rfl]
    simp only [fX5_points_4, sm]
    rw [if_pos (by omega), h1]
    simp (disch := omega) only [bnd_ok, wq]
    rw [uX5_points_4, ecPts1 h d n (c + 1) (acc + f c) (by omega) (by omega) (by omega) (by omega), Int.add_assoc]
theorem ecPts2 {f : Int → Int} {a0 : Int} {s : St} {q : Int} (hq : gm s 5 a0 4 = q) (q0 : 0 ≤ q) (q1 : q ≤ 20) (h : ∀ k, 0 ≤ k → k < q → (if gm s 21 a0 k = 0 then gm s 20 a0 k else 0) = f k ∧ 0 ≤ f k ∧ f k ≤ 4000000) : ∀ (d n : Nat) (k acc : Int), 0 ≤ k → k + d = q → -1000 - 4000000 * k ≤ acc → acc ≤ 2000 → fX5_points_25 (kX5_points (n + d)) a0 acc k s = some (0, acc - sm f d k, s)
  | 0, n, k, acc, h0, hc, b1, b2 => by
    simp only [fX5_points_25, fX5_points_69, sm, hq]
    rw [if_neg (by omega)]
    simp
  | d + 1, n, k, acc, h0, hc, b1, b2 => by
    obtain ⟨h1, h2, h3⟩ := h k h0 (by omega)
    rw [show n + (d + 1) = n + d + 1 from rfl]
    simp only [fX5_points_25, fX5_points_60, fX5_points_61, sm, hq]
    rw [if_pos (by omega), ecHasPenalty (by omega) (by omega), hq]
    simp only [bnd_ok]
    have hr : 0 ≤ k ∧ k < 20 := by omega
    rw [if_pos (show 0 ≤ k ∧ k < q by omega), if_neg (by decide)]
    simp only [if_pos hr]
    simp (disch := omega) only [wq]
    by_cases hz : gm s 21 a0 k = 0
    · rw [if_pos hz] at h1
      rw [if_pos hz, h1]
      try simp (disch := omega) only [wq]
      rw [uX5_points_25, ecPts2 hq q0 q1 h d n (k + 1) (acc - f k) (by omega) (by omega) (by omega) (by omega)]
      rw [show acc - f k - sm f d (k + 1) = acc - (f k + sm f d (k + 1)) by omega]
    · rw [if_neg hz] at h1
      rw [if_neg hz]
      rw [uX5_points_25, Int.sub_zero, ecPts2 hq q0 q1 h d n (k + 1) acc (by omega) (by omega) (by omega) (by omega), ← h1]
      rw [Int.zero_add]
theorem ecPoints {f g : Int → Int} {a0 : Int} {s : St} {q : Int} (hq : gm s 5 a0 4 = q) (q0 : 0 ≤ q) (q1 : q ≤ 20) (h : ∀ c, 0 ≤ c → c < 5 → FX5_together a0 c s = some (0, f c, s) ∧ -200 ≤ f c ∧ f c ≤ 400)
    (h' : ∀ k, 0 ≤ k → k < q → (if gm s 21 a0 k = 0 then gm s 20 a0 k else 0) = g k ∧ 0 ≤ g k ∧ g k ≤ 4000000) : FX5_points a0 s = some (0, sm f 5 0 - sm g q.toNat 0, s) := by
  have e : (9999 : Nat) = (9994 - q.toNat) + q.toNat + 5 := by omega
  simp only [FX5_points, fX5_points_0]
  rw [e, ecPts1 h 5 _ 0 0 (by omega) (by omega) (by omega) (by omega)]
  simp only [fX5_points_23, Int.zero_add]
  have b : ∀ i, 0 ≤ i → i < 5 → -200 ≤ f i ∧ f i ≤ 400 := fun i h0 h1 => (h i h0 h1).2
  have b0 := b 0 (by omega) (by omega)
  have b1 := b 1 (by omega) (by omega)
  have b2 := b 2 (by omega) (by omega)
  have b3 := b 3 (by omega) (by omega)
  have b4 := b 4 (by omega) (by omega)
  have e5 : sm f 5 0 = f 0 + (f 1 + (f 2 + (f 3 + (f 4 + 0)))) := rfl
  exact ecPts2 hq q0 q1 h' q.toNat _ 0 (sm f 5 0) (by omega) (by omega) (by omega) (by omega)
theorem emPts1 {f : Int → Int} {i : Int} {s : St} (h : ∀ c, 0 ≤ c → c < 5 → FX12_noteSum 0 i c s = some (0, f c, s) ∧ -200 ≤ f c ∧ f c ≤ 400) : ∀ (d n : Nat) (c acc : Int), 0 ≤ c → c + d = 5 → -200 * c ≤ acc → acc ≤ 400 * c → fX12_pointsOf_4 (kX12_pointsOf (n + d)) 0 i acc c s = fX12_pointsOf_24 (kX12_pointsOf n) 0 i (acc + sm f d c) s
  | 0, n, c, acc, h0, hc, b1, b2 => by
    simp only [fX12_pointsOf_4, sm]
    rw [if_neg (by omega)]
    simp
  | d + 1, n, c, acc, h0, hc, b1, b2 => by
    obtain ⟨h1, h2, h3⟩ := h c h0 (by omega)
    rw [show n + (d + 1) = n + d + 1 from rfl]
    simp only [fX12_pointsOf_4, sm]
    rw [if_pos (by omega), h1]
    simp (disch := omega) only [bnd_ok, wq]
    rw [uX12_pointsOf_4, emPts1 h d n (c + 1) (acc + f c) (by omega) (by omega) (by omega) (by omega), Int.add_assoc]
theorem emPts2 {f : Int → Int} {i : Int} {s : St} {q : Int} (hi : 0 ≤ i ∧ i < 10) (hq : gm s 147 0 i = q) (q0 : 0 ≤ q) (q1 : q ≤ 20) (h : ∀ k, 0 ≤ k → k < q → (if gm s 150 0 (20 * i + k) = 0 then gm s 149 0 (20 * i + k) else 0) = f k ∧ 0 ≤ f k ∧ f k ≤ 4000000) : ∀ (d n : Nat) (k acc : Int), 0 ≤ k → k + d = q → -1000 - 4000000 * k ≤ acc → acc ≤ 2000 → fX12_pointsOf_29 (kX12_pointsOf (n + d)) 0 i acc (20 * i + k) s = some (0, acc - sm f d k, s)
  | 0, n, k, acc, h0, hc, b1, b2 => by
    simp only [fX12_pointsOf_29, fX12_pointsOf_72, sm, hq]
    simp (disch := omega) only [wq]
    rw [if_pos hi, if_neg (by omega)]
    simp
  | d + 1, n, k, acc, h0, hc, b1, b2 => by
    obtain ⟨h1, h2, h3⟩ := h k h0 (by omega)
    rw [show n + (d + 1) = n + d + 1 from rfl]
    simp only [fX12_pointsOf_29, fX12_pointsOf_58, fX12_pointsOf_64, sm, hq]
    simp (disch := omega) only [wq]
    have hr : 0 ≤ 20 * i + k ∧ 20 * i + k < 200 := by omega
    rw [if_pos hi, if_pos (by omega)]
    simp only [if_pos hr]
    simp only [uX12_pointsOf_29]
    rw [show 20 * i + k + 1 = 20 * i + (k + 1) by omega]
    by_cases hz : gm s 150 0 (20 * i + k) = 0
    · rw [if_pos hz] at h1
      rw [if_pos hz, h1]
      try simp (disch := omega) only [wq]
      rw [emPts2 hi hq q0 q1 h d n (k + 1) (acc - f k) (by omega) (by omega) (by omega) (by omega)]
      rw [show acc - f k - sm f d (k + 1) = acc - (f k + sm f d (k + 1)) by omega]
    · rw [if_neg hz] at h1
      rw [if_neg hz]
      rw [Int.sub_zero, emPts2 hi hq q0 q1 h d n (k + 1) acc (by omega) (by omega) (by omega) (by omega), ← h1]
      rw [Int.zero_add]
theorem emPointsOf {f g : Int → Int} {i : Int} {s : St} {q : Int} (hi : 0 ≤ i ∧ i < 10) (hq : gm s 147 0 i = q) (q0 : 0 ≤ q) (q1 : q ≤ 20) (h : ∀ c, 0 ≤ c → c < 5 → FX12_noteSum 0 i c s = some (0, f c, s) ∧ -200 ≤ f c ∧ f c ≤ 400)
    (h' : ∀ k, 0 ≤ k → k < q → (if gm s 150 0 (20 * i + k) = 0 then gm s 149 0 (20 * i + k) else 0) = g k ∧ 0 ≤ g k ∧ g k ≤ 4000000) : FX12_pointsOf 0 i s = some (0, sm f 5 0 - sm g q.toNat 0, s) := by
  have e : (9999 : Nat) = (9994 - q.toNat) + q.toNat + 5 := by omega
  simp only [FX12_pointsOf, fX12_pointsOf_0]
  rw [e, emPts1 h 5 _ 0 0 (by omega) (by omega) (by omega) (by omega)]
  simp only [fX12_pointsOf_24, Int.zero_add]
  have b : ∀ i, 0 ≤ i → i < 5 → -200 ≤ f i ∧ f i ≤ 400 := fun i h0 h1 => (h i h0 h1).2
  have b0 := b 0 (by omega) (by omega)
  have b1 := b 1 (by omega) (by omega)
  have b2 := b 2 (by omega) (by omega)
  have b3 := b 3 (by omega) (by omega)
  have b4 := b 4 (by omega) (by omega)
  have e5 : sm f 5 0 = f 0 + (f 1 + (f 2 + (f 3 + (f 4 + 0)))) := rfl
  have r := emPts2 hi hq q0 q1 h' q.toNat (9994 - q.toNat) 0 (sm f 5 0) (by omega) (by omega) (by omega) (by omega)
  rw [Int.add_zero] at r
  rw [wq (by omega) (by omega)]
  exact r
def dbC (g : Int → Int) (jd : Int) : Nat → Int → Int → Int → Int
  | 0, _, s, c => if 0 < c ∧ s / c + 15 ≤ g jd then 1 else 0
  | d + 1, j, s, c => if j ≠ jd ∧ 0 < g j then dbC g jd d (j + 1) (s + g j) (c + 1) else dbC g jd d (j + 1) s c
theorem dbC_01 {g : Int → Int} {jd : Int} : ∀ (d : Nat) (j s c : Int), dbC g jd d j s c = 0 ∨ dbC g jd d j s c = 1
  | 0, _, s, c => by
    simp only [dbC]
    split <;> simp
  | d + 1, j, s, c => by
    simp only [dbC]
    split <;> exact dbC_01 d _ _ _
theorem div_le {s c : Int} (h0 : 0 ≤ s) (h1 : s ≤ 1000) (hc : 0 < c) : 0 ≤ s / c ∧ s / c ≤ 1000 := by
  have a := Int.ediv_nonneg h0 (Int.le_of_lt hc)
  have b := Int.ediv_le_self c h0
  omega
theorem ecDb_lp {g : Int → Int} {a0 a1 a2 : Int} {s : St} (h : ∀ j, 0 ≤ j → j < 4 → gm s 18 a0 (5 * j + a2) = g j ∧ 0 ≤ g j ∧ g j ≤ 100) (hj1 : 0 ≤ a1 ∧ a1 < 4) (ha : 0 ≤ a2 ∧ a2 < 5) :
    ∀ (d n : Nat) (j sum c : Int), d < n → 0 ≤ j → j + d = 4 → 0 ≤ sum → sum ≤ 100 * j → 0 ≤ c → c ≤ j → fX5_isDoubtful_8 (kX5_isDoubtful n) a0 a1 a2 sum c j s = some (0, dbC g a1 d j sum c, s)
  | 0, n, j, sum, c, hn, h0, hj, b1, b2, b3, b4 => by
    simp only [fX5_isDoubtful_8, fX5_isDoubtful_48, fX5_isDoubtful_73, fX5_isDoubtful_74, dbC, z01, o01, if_true]
    rw [if_neg (by omega), ecNoteBy hj1.1 hj1.2 ha.1 ha.2, (h a1 hj1.1 hj1.2).1]
    simp only [bnd_ok]
    by_cases hc : 0 < c
    · have b := div_le b1 (by omega) hc
      rw [if_pos hc, if_neg (by omega), idv_id b1 (by omega) hc, wq (by omega) (by omega)]
      grind
    · grind
  | d + 1, n, j, sum, c, hn, h0, hj, b1, b2, b3, b4 => by
    obtain ⟨n, rfl⟩ : ∃ n', n = n' + 1 := ⟨n - 1, by omega⟩
    obtain ⟨g1, g2, g3⟩ := h j h0 (by omega)
    simp only [fX5_isDoubtful_8, fX5_isDoubtful_42, dbC]
    rw [if_pos (by omega), ecNoteBy h0 (by omega) ha.1 ha.2]
    simp (disch := omega) only [bnd_ok, g1, wq]
    simp only [uX5_isDoubtful_8]
    rw [ecDb_lp h hj1 ha d n (j + 1) _ _ (by omega) (by omega) (by omega) b1 (by omega) b3 (by omega)]
    by_cases e : j = a1
    · simp [e]
    · rw [if_neg e]
      by_cases hp : 0 < g j
      · rw [if_pos hp, if_pos ⟨e, hp⟩]
        exact ecDb_lp h hj1 ha d n (j + 1) _ _ (by omega) (by omega) (by omega) (by omega) (by omega) (by omega) (by omega)
      · rw [if_neg hp, if_neg (fun z => hp z.2)]
theorem ecDoubtful {g : Int → Int} {a0 a1 a2 : Int} {s : St} (h : ∀ j, 0 ≤ j → j < 4 → gm s 18 a0 (5 * j + a2) = g j ∧ 0 ≤ g j ∧ g j ≤ 100) (hj1 : 0 ≤ a1 ∧ a1 < 4) (ha : 0 ≤ a2 ∧ a2 < 5) : FX5_isDoubtful a0 a1 a2 s = some (0, dbC g a1 4 0 0 0, s) := by
  simp only [FX5_isDoubtful, fX5_isDoubtful_0]
  exact ecDb_lp h hj1 ha 4 9999 0 0 0 (by omega) (by omega) (by omega) (by omega) (by omega) (by omega) (by omega)
theorem emFar_lp {g : Int → Int} {i a1 a2 : Int} {s : St} (h : ∀ j, 0 ≤ j → j < 4 → gm s 146 0 (20 * i + 5 * j + a2) = g j ∧ (g j = 0 ∨ 50 ≤ g j ∧ g j ≤ 100)) (hi : 0 ≤ i ∧ i < 10) (hj1 : 0 ≤ a1 ∧ a1 < 4) (ha : 0 ≤ a2 ∧ a2 < 5) :
    ∀ (d n : Nat) (j sum c : Int), d < n → 0 ≤ j → j + d = 4 → 0 ≤ sum → sum ≤ 100 * j → 0 ≤ c → c ≤ j → fX12_isFar_26 (kX12_isFar n) 0 a1 i a2 (g a1) sum c j s = some (0, dbC g a1 d j sum c, s)
  | 0, n, j, sum, c, hn, h0, hj, b1, b2, b3, b4 => by
    have h9 := (h a1 hj1.1 hj1.2).2
    simp only [fX12_isFar_26, fX12_isFar_88, fX12_isFar_115, fX12_isFar_116, dbC, z01, o01, if_true]
    rw [if_neg (by omega)]
    by_cases hc : 0 < c
    · have b := div_le b1 (by omega) hc
      by_cases ho : 0 < g a1
      · rw [if_pos ho, if_pos hc, if_neg (by omega), idv_id b1 (by omega) hc, wq (by omega) (by omega)]
        grind
      · have hz : ¬ (0 < c ∧ sum / c + 15 ≤ g a1) := by omega
        rw [if_neg ho, if_neg hz]
        simp
    · grind
  | d + 1, n, j, sum, c, hn, h0, hj, b1, b2, b3, b4 => by
    obtain ⟨n, rfl⟩ : ∃ n', n = n' + 1 := ⟨n - 1, by omega⟩
    obtain ⟨g1, g2⟩ := h j h0 (by omega)
    simp only [fX12_isFar_26, fX12_isFar_42, fX12_isFar_58, fX12_isFar_78, fX12_isFar_79, dbC]
    simp (disch := omega) only [wq]
    rw [if_pos (by omega), if_pos (show 0 ≤ 20 * i + 5 * j + a2 ∧ 20 * i + 5 * j + a2 < 200 by omega), g1]
    simp only [uX12_isFar_26]
    by_cases e : j = a1
    · rw [if_pos e, if_neg (by decide), if_neg (fun z => z.1 e)]
      try simp (disch := omega) only [wq]
      simp only [Int.add_zero]
      exact emFar_lp h hi hj1 ha d n (j + 1) _ _ (by omega) (by omega) (by omega) b1 (by omega) b3 (by omega)
    · rw [if_neg e]
      by_cases hp : 0 < g j
      · rw [if_pos hp, if_pos ⟨e, hp⟩]
        try simp (disch := omega) only [wq]
        exact emFar_lp h hi hj1 ha d n (j + 1) _ _ (by omega) (by omega) (by omega) (by omega) (by omega) (by omega) (by omega)
      · have z : g j = 0 := by omega
        rw [if_neg hp, if_neg (fun z => hp z.2), z]
        try simp (disch := omega) only [wq]
        simp only [Int.add_zero]
        exact emFar_lp h hi hj1 ha d n (j + 1) _ _ (by omega) (by omega) (by omega) b1 (by omega) b3 (by omega)
theorem emFar {g : Int → Int} {i a1 a2 : Int} {s : St} (h : ∀ j, 0 ≤ j → j < 4 → gm s 146 0 (20 * i + 5 * j + a2) = g j ∧ (g j = 0 ∨ 50 ≤ g j ∧ g j ≤ 100)) (hi : 0 ≤ i ∧ i < 10) (hj1 : 0 ≤ a1 ∧ a1 < 4) (ha : 0 ≤ a2 ∧ a2 < 5) : FX12_isFar 0 a1 i a2 s = some (0, dbC g a1 4 0 0 0, s) := by
  simp only [FX12_isFar, fX12_isFar_0]
  simp (disch := omega) only [wq]
  rw [if_pos (by omega), (h a1 hj1.1 hj1.2).1]
  exact emFar_lp h hi hj1 ha 4 9999 0 0 0 (by omega) (by omega) (by omega) (by omega) (by omega) (by omega) (by omega)
theorem ecCast_lp {f : Int → Int} {a0 a1 : Int} {s : St} (h : ∀ c, 0 ≤ c → c < 5 → FX5_isDoubtful a0 a1 c s = some (0, f c, s) ∧ (f c = 0 ∨ f c = 1)) : ∀ (d n : Nat) (c acc : Int), d < n → 0 ≤ c → c + d = 5 → 0 ≤ acc → acc ≤ c → fX5_castsDoubtOn_4 (kX5_castsDoubtOn n) a0 a1 acc c s = some (0, if 3 ≤ acc + sm f d c then 1 else 0, s)
  | 0, n, c, acc, hn, h0, hc, b1, b2 => by
    simp only [fX5_castsDoubtOn_4, fX5_castsDoubtOn_32, fX5_castsDoubtOn_41, fX5_castsDoubtOn_42, sm, z01, o01, if_true]
    rw [if_neg (by omega)]
    grind
  | d + 1, n, c, acc, hn, h0, hc, b1, b2 => by
    obtain ⟨n, rfl⟩ : ∃ n', n = n' + 1 := ⟨n - 1, by omega⟩
    obtain ⟨h1, h2⟩ := h c h0 (by omega)
    simp only [fX5_castsDoubtOn_4, fX5_castsDoubtOn_23, fX5_castsDoubtOn_24]
    rw [show sm f (d + 1) c = f c + sm f d (c + 1) from rfl]
    rw [if_pos (by omega), h1]
    simp (disch := omega) only [bnd_ok, wq]
    simp only [uX5_castsDoubtOn_4]
    rcases h2 with h2 | h2
    · rw [h2, if_pos rfl, ecCast_lp h d n (c + 1) _ (by omega) (by omega) (by omega) (by omega) (by omega), Int.add_zero, Int.zero_add]
    · rw [h2, if_neg (by decide), ecCast_lp h d n (c + 1) _ (by omega) (by omega) (by omega) (by omega) (by omega), Int.add_assoc]
theorem ecCast {f : Int → Int} {a0 a1 : Int} {s : St} (h : ∀ c, 0 ≤ c → c < 5 → FX5_isDoubtful a0 a1 c s = some (0, f c, s) ∧ (f c = 0 ∨ f c = 1)) : FX5_castsDoubtOn a0 a1 s = some (0, if 3 ≤ sm f 5 0 then 1 else 0, s) := by
  simp only [FX5_castsDoubtOn, fX5_castsDoubtOn_0]
  rw [ecCast_lp h 5 9999 0 0 (by omega) (by omega) (by omega) (by omega) (by omega), Int.zero_add]
theorem emDoubts_lp {f : Int → Int} {i a1 : Int} {s : St} (h : ∀ c, 0 ≤ c → c < 5 → FX12_isFar 0 a1 i c s = some (0, f c, s) ∧ (f c = 0 ∨ f c = 1)) : ∀ (d n : Nat) (c acc : Int), d < n → 0 ≤ c → c + d = 5 → 0 ≤ acc → acc ≤ c → fX12_doubts_5 (kX12_doubts n) 0 a1 i acc c s = some (0, if 3 ≤ acc + sm f d c then 1 else 0, s)
  | 0, n, c, acc, hn, h0, hc, b1, b2 => by
    simp only [fX12_doubts_5, fX12_doubts_36, fX12_doubts_45, fX12_doubts_46, sm, z01, o01, if_true]
    rw [if_neg (by omega)]
    grind
  | d + 1, n, c, acc, hn, h0, hc, b1, b2 => by
    obtain ⟨n, rfl⟩ : ∃ n', n = n' + 1 := ⟨n - 1, by omega⟩
    obtain ⟨h1, h2⟩ := h c h0 (by omega)
    simp only [fX12_doubts_5, fX12_doubts_27, fX12_doubts_28]
    rw [show sm f (d + 1) c = f c + sm f d (c + 1) from rfl]
    rw [if_pos (by omega), h1]
    simp (disch := omega) only [bnd_ok, wq]
    simp only [uX12_doubts_5]
    rcases h2 with h2 | h2
    · rw [h2, if_pos rfl, emDoubts_lp h d n (c + 1) _ (by omega) (by omega) (by omega) (by omega) (by omega), Int.add_zero, Int.zero_add]
    · rw [h2, if_neg (by decide), emDoubts_lp h d n (c + 1) _ (by omega) (by omega) (by omega) (by omega) (by omega), Int.add_assoc]
theorem emDoubts {f : Int → Int} {i a1 : Int} {s : St} (h : ∀ c, 0 ≤ c → c < 5 → FX12_isFar 0 a1 i c s = some (0, f c, s) ∧ (f c = 0 ∨ f c = 1)) : FX12_doubts 0 a1 i s = some (0, if 3 ≤ sm f 5 0 then 1 else 0, s) := by
  simp only [FX12_doubts, fX12_doubts_0]
  rw [emDoubts_lp h 5 9999 0 0 (by omega) (by omega) (by omega) (by omega) (by omega), Int.zero_add]
