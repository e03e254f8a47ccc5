/-! How far a part may move: what the corners of its route leave it. -/
def mnq (q v : Int → Int) : Nat → Int → Int → Int
  | 0, _, a => a
  | d + 1, i, a => mnq q v d (i + 1) (if q i ≠ 0 then min a (v i) else a)
theorem mnq_min {q v : Int → Int} : ∀ (d : Nat) (i a b : Int), mnq q v d i (min a b) = min a (mnq q v d i b)
  | 0, _, _, _ => rfl
  | d + 1, i, a, b => by
    unfold mnq
    by_cases h : q i ≠ 0
    · rw [if_pos h, if_pos h, show min (min a b) (v i) = min a (min b (v i)) by omega]
      exact mnq_min d (i + 1) a _
    · rw [if_neg h, if_neg h]
      exact mnq_min d (i + 1) a b
theorem mnq_le {q v : Int → Int} : ∀ (d : Nat) (i a : Int), mnq q v d i a ≤ a
  | 0, _, _ => Int.le_refl _
  | d + 1, i, a => by
    unfold mnq
    have h := mnq_le (q := q) (v := v) d (i + 1) (if q i ≠ 0 then min a (v i) else a)
    by_cases h1 : q i ≠ 0
    · rw [if_pos h1] at h ⊢; omega
    · rw [if_neg h1] at h ⊢; omega
theorem mnq_ge {q v : Int → Int} {b : Int} : ∀ (d : Nat) (i a : Int), (∀ j : Int, i ≤ j → j < i + d → q j ≠ 0 → b ≤ v j) → b ≤ a → b ≤ mnq q v d i a
  | 0, _, _, _, h => h
  | d + 1, i, a, h, ha => by
    unfold mnq
    refine mnq_ge d (i + 1) _ (fun j j0 j1 => h j (by omega) (by omega)) ?_
    by_cases h1 : q i ≠ 0
    · rw [if_pos h1]; have := h i (by omega) (by omega) h1; omega
    · rw [if_neg h1]; exact ha
/-- which corners are held ahead of a front, where it has to stop then; which have a jury -/
def hlq (c m : St) (l f i : Int) : Int := if 0 < gm m 141 0 (12 * l + gm m 122 0 (10 * l + i)) ∧ f < cav c m l i then 1 else 0
def hlv (c m : St) (l i : Int) : Int := cav c m l i - 1
def jrq (c m : St) (l f i : Int) : Int := if gm m 123 0 (gm m 122 0 (10 * l + i)) ≠ 0 ∧ f < cav c m l i then 1 else 0
theorem ite10 (P : Prop) [Decidable P] : ((if P then (1 : Int) else 0) ≠ 0) = P := by
  by_cases h : P <;> simp [h]
theorem cav_le {c m : St} (hD : rlD c m) (hR : rlR c m) {l r : Int} (hl : 0 ≤ l ∧ l < 2) (h0 : 0 ≤ r) (h1 : r < gm m 121 0 l) : -1 ≤ cav c m l r ∧ cav c m l r ≤ 300 := by
  have b := rlR.st_le hD hR hl r.toNat r (by omega) (by omega)
  obtain ⟨⟨-, r2, r3⟩, -⟩ := hR l hl.1 hl.2
  unfold cav
  split <;> omega
theorem ecHeld_lp {c m : St} (hD : rlD c m) (hR : rlR c m) {l f : Int} (hl : 0 ≤ l ∧ l < 2) (hH : ∀ j : Int, 0 ≤ j → j < gm m 121 0 l → gm c 29 l (gm m 122 0 (10 * l + j)) = gm m 141 0 (12 * l + gm m 122 0 (10 * l + j))) :
    ∀ (d n : Nat) (i a : Int), d < n → 0 ≤ i → i + d = gm m 121 0 l → fX1_cellBeforeHeld_6 (kX1_cellBeforeHeld n) l f l a i c = some (0, mnq (hlq c m l f) (hlv c m l) d i a, c)
  | 0, n, i, a, hn, h0, hi => by
    obtain ⟨⟨r1, r2, r3⟩, -⟩ := hR l hl.1 hl.2
    simp only [fX1_cellBeforeHeld_6, fX1_cellBeforeHeld_57, mnq, r1]
    rw [if_neg (by omega)]
  | d + 1, n, i, a, hn, h0, hi => by
    obtain ⟨n, rfl⟩ : ∃ n', n = n' + 1 := ⟨n - 1, by omega⟩
    obtain ⟨⟨r1, r2, r3⟩, -, r5, -⟩ := hR l hl.1 hl.2
    have ih := ecHeld_lp (f := f) hD hR hl hH d n (i + 1) (if hlq c m l f i ≠ 0 then min a (hlv c m l i) else a) (by omega) (by omega) (by omega)
    have h1 : i < gm m 121 0 l := by omega
    obtain ⟨q1, q2, q3⟩ := r5 i h0 h1
    have e1 := ecCornerAt (a0 := l) (a1 := i) (s := c) (by omega) (by omega)
    rw [r1, if_pos ⟨h0, h1⟩, q1] at e1
    have e2 := ecIsHeld l (gm m 122 0 (10 * l + i)) c
    rw [hH i h0 h1] at e2
    have e3 := ecCellAt hD hR hl h0 h1
    have b := cav_le hD hR hl h0 h1
    have w1 : wr (i + 1) = i + 1 := wq (by omega) (by omega)
    have w2 : wr (cav c m l i - 1) = cav c m l i - 1 := wq (by omega) (by omega)
    unfold mnq
    rw [← ih]
    generalize hT : (if hlq c m l f i ≠ 0 then min a (hlv c m l i) else a) = T
    generalize hR : fX1_cellBeforeHeld_6 (kX1_cellBeforeHeld n) l f l T (i + 1) c = R
    simp only [fX1_cellBeforeHeld_6, fX1_cellBeforeHeld_51, r1, e1, e2, e3, bnd_ok, ecMin, w1, w2]
    rw [if_pos h1, uX1_cellBeforeHeld_6, uX1_cellBeforeHeld_6]
    have eq : hlq c m l f i ≠ 0 ↔ 0 < gm m 141 0 (12 * l + gm m 122 0 (10 * l + i)) ∧ f < cav c m l i := by
      unfold hlq
      rw [ite10]
    have ev : hlv c m l i = cav c m l i - 1 := rfl
    rw [ev] at hT
    by_cases c1 : 0 < gm m 141 0 (12 * l + gm m 122 0 (10 * l + i))
    · rw [if_pos (show 0 ≤ gm m 122 0 (10 * l + i) ∧ gm m 122 0 (10 * l + i) < 12 ∧ 0 < gm m 141 0 (12 * l + gm m 122 0 (10 * l + i)) from ⟨q2, q3, c1⟩), if_neg (show ¬ (1 : Int) = 0 by omega)]
      by_cases c2 : f < cav c m l i
      · rw [if_pos (eq.mpr ⟨c1, c2⟩)] at hT
        rw [if_pos c2, hT, hR]
      · rw [if_neg (fun w => c2 (eq.mp w).2)] at hT
        rw [if_neg c2, hT, hR]
    · rw [if_neg (fun w => c1 (eq.mp w).1)] at hT
      rw [if_neg (show ¬ (0 ≤ gm m 122 0 (10 * l + i) ∧ gm m 122 0 (10 * l + i) < 12 ∧ 0 < gm m 141 0 (12 * l + gm m 122 0 (10 * l + i))) from fun w => c1 w.2.2), if_pos (show (0 : Int) = 0 from rfl), hT, hR]
theorem ecJury_lp {c m : St} (hD : rlD c m) (hR : rlR c m) (hJ : rlJ c m) {l f : Int} (hl : 0 ≤ l ∧ l < 2) :
    ∀ (d n : Nat) (i a : Int), d < n → 0 ≤ i → i + d = gm m 121 0 l → fX1_nextJuryCell_6 (kX1_nextJuryCell n) f l 0 a i c = some (0, mnq (jrq c m l f) (cav c m l) d i a, c)
  | 0, n, i, a, hn, h0, hi => by
    obtain ⟨⟨r1, r2, r3⟩, -⟩ := hR l hl.1 hl.2
    simp only [fX1_nextJuryCell_6, fX1_nextJuryCell_55, mnq, r1]
    rw [if_neg (by omega)]
  | d + 1, n, i, a, hn, h0, hi => by
    obtain ⟨n, rfl⟩ : ∃ n', n = n' + 1 := ⟨n - 1, by omega⟩
    obtain ⟨⟨r1, r2, r3⟩, -, r5, -⟩ := hR l hl.1 hl.2
    have ih := ecJury_lp (f := f) hD hR hJ hl d n (i + 1) (if jrq c m l f i ≠ 0 then min a (cav c m l i) else a) (by omega) (by omega) (by omega)
    have h1 : i < gm m 121 0 l := by omega
    obtain ⟨q1, q2, q3⟩ := r5 i h0 h1
    have e1 := ecCornerAt (a0 := l) (a1 := i) (s := c) (by omega) (by omega)
    rw [r1, if_pos ⟨h0, h1⟩, q1] at e1
    have e2 := ecHasJury 0 (gm m 122 0 (10 * l + i)) c
    rw [(hJ _ q2 q3).1] at e2
    have e3 := ecCellAt hD hR hl h0 h1
    have b := cav_le hD hR hl h0 h1
    have w1 : wr (i + 1) = i + 1 := wq (by omega) (by omega)
    unfold mnq
    rw [← ih]
    generalize hT : (if jrq c m l f i ≠ 0 then min a (cav c m l i) else a) = T
    generalize hR : fX1_nextJuryCell_6 (kX1_nextJuryCell n) f l 0 T (i + 1) c = R
    simp only [fX1_nextJuryCell_6, fX1_nextJuryCell_49, r1, e1, e2, e3, bnd_ok, ecMin, w1]
    rw [if_pos h1, uX1_nextJuryCell_6, uX1_nextJuryCell_6]
    have eq : jrq c m l f i ≠ 0 ↔ gm m 123 0 (gm m 122 0 (10 * l + i)) ≠ 0 ∧ f < cav c m l i := by
      unfold jrq
      rw [ite10]
    by_cases c1 : gm m 123 0 (gm m 122 0 (10 * l + i)) ≠ 0
    · rw [if_pos (show 0 ≤ gm m 122 0 (10 * l + i) ∧ gm m 122 0 (10 * l + i) < 12 ∧ gm m 123 0 (gm m 122 0 (10 * l + i)) ≠ 0 from ⟨q2, q3, c1⟩), if_neg (show ¬ (1 : Int) = 0 by omega)]
      by_cases c2 : f < cav c m l i
      · rw [if_pos (eq.mpr ⟨c1, c2⟩)] at hT
        rw [if_pos c2, hT, hR]
      · rw [if_neg (fun w => c2 (eq.mp w).2)] at hT
        rw [if_neg c2, hT, hR]
    · rw [if_neg (fun w => c1 (eq.mp w).1)] at hT
      rw [if_neg (show ¬ (0 ≤ gm m 122 0 (10 * l + i) ∧ gm m 122 0 (10 * l + i) < 12 ∧ gm m 123 0 (gm m 122 0 (10 * l + i)) ≠ 0) from fun w => c1 w.2.2), if_pos (show (0 : Int) = 0 from rfl), hT, hR]
/-- the reference: held corners, then juries -/
theorem emHeld_lp {c m : St} (hD : rlD c m) (hR : rlR c m) {l q : Int} (hl : 0 ≤ l ∧ l < 2) (h2 : 2 ≤ gm m 121 0 l) (hq : 0 ≤ q ∧ q < 120) :
    ∀ (d n : Nat) (i a : Int), d < n → 0 ≤ i → i + d = gm m 121 0 l → fX12_moves_124 (kX12_moves n) 0 l q a i m = fX12_moves_216 (kX12_moves (n - d)) 0 l q (mnq (hlq c m l (gm m 138 0 q)) (hlv c m l) d i a) m
  | 0, n, i, a, hn, h0, hi => by
    obtain ⟨⟨r1, r2, r3⟩, -⟩ := hR l hl.1 hl.2
    simp only [fX12_moves_124, mnq]
    rw [if_pos hl, if_neg (by omega)]
    rfl
  | d + 1, n, i, a, hn, h0, hi => by
    obtain ⟨n, rfl⟩ : ∃ n', n = n' + 1 := ⟨n - 1, by omega⟩
    obtain ⟨⟨r1, r2, r3⟩, -, r5, -⟩ := hR l hl.1 hl.2
    have ih := emHeld_lp hD hR hl h2 hq d n (i + 1) (if hlq c m l (gm m 138 0 q) i ≠ 0 then min a (hlv c m l i) else a) (by omega) (by omega) (by omega)
    have h1 : i < gm m 121 0 l := by omega
    obtain ⟨q1, q2, q3⟩ := r5 i h0 h1
    have e3 := emCellOf hD hR hl h0 h1 h2
    have b := cav_le hD hR hl h0 h1
    have w1 : wr (i + 1) = i + 1 := wq (by omega) (by omega)
    have w2 : wr (cav c m l i - 1) = cav c m l i - 1 := wq (by omega) (by omega)
    have w3 : wr (wr (10 * l) + i) = 10 * l + i := by rw [wq (z := 10 * l) (by omega) (by omega), wq (by omega) (by omega)]
    have w4 : wr (wr (12 * l) + gm m 122 0 (10 * l + i)) = 12 * l + gm m 122 0 (10 * l + i) := by rw [wq (z := 12 * l) (by omega) (by omega), wq (by omega) (by omega)]
    have g1 : 0 ≤ 10 * l + i ∧ 10 * l + i < 20 := by omega
    have g2 : 0 ≤ 12 * l + gm m 122 0 (10 * l + i) ∧ 12 * l + gm m 122 0 (10 * l + i) < 24 := by omega
    unfold mnq
    rw [show n + 1 - (d + 1) = n - d by omega, ← ih]
    generalize hT : (if hlq c m l (gm m 138 0 q) i ≠ 0 then min a (hlv c m l i) else a) = T
    generalize hR : fX12_moves_124 (kX12_moves n) 0 l q T (i + 1) m = R
    simp only [fX12_moves_124]
    rw [if_pos hl, if_pos h1, e3]
    simp only [bnd_ok, w3, w4, if_pos g1, if_pos g2]
    have eq : hlq c m l (gm m 138 0 q) i ≠ 0 ↔ 0 < gm m 141 0 (12 * l + gm m 122 0 (10 * l + i)) ∧ gm m 138 0 q < cav c m l i := by
      unfold hlq
      rw [ite10]
    have ev : hlv c m l i = cav c m l i - 1 := rfl
    rw [ev] at hT
    by_cases c1 : 0 < gm m 141 0 (12 * l + gm m 122 0 (10 * l + i))
    · simp only [if_pos c1, fX12_moves_174, fX12_moves_206, fX12_moves_208, w1, w2, if_pos hq, if_neg (show ¬ (1 : Int) = 0 by omega)]
      rw [uX12_moves_124, uX12_moves_124]
      by_cases c2 : gm m 138 0 q < cav c m l i
      · rw [if_pos (eq.mpr ⟨c1, c2⟩)] at hT
        rw [if_pos c2]
        by_cases c3 : a < cav c m l i
        · rw [if_pos c3, show a = T by omega]; exact hR
        · rw [if_neg c3, show cav c m l i - 1 = T by omega]; exact hR
      · rw [if_neg (fun w => c2 (eq.mp w).2)] at hT
        rw [if_neg c2, hT]; exact hR
    · rw [if_neg (fun w => c1 (eq.mp w).1)] at hT
      simp only [if_neg c1, fX12_moves_173, fX12_moves_174, fX12_moves_206, fX12_moves_208, w1, if_true]
      rw [uX12_moves_124, hT]; exact hR
theorem pm_pm (s : St) (k : Nat) (n j v v' : Int) : pm (pm s k n j v) k n j v' = pm s k n j v' := St_ext (fun k' n' j' => by
  simp only [gm_pm]
  split <;> rfl) rfl
theorem pm_self (s : St) (k : Nat) (n j : Int) : pm s k n j (gm s k n j) = s := St_ext (fun k' n' j' => by
  rw [gm_pm]
  split
  · rename_i h
    rw [h.1, h.2.1, h.2.2]
  · rfl) rfl
theorem emJury_lp {c m : St} (hD : rlD c m) (hR : rlR c m) {l q : Int} (hl : 0 ≤ l ∧ l < 2) (h2 : 2 ≤ gm m 121 0 l) (hq : 0 ≤ q ∧ q < 120) :
    ∀ (d n : Nat) (i a w : Int), d < n → 0 ≤ i → i + d = gm m 121 0 l → a < 2147483647 → fX12_moves_219 (kX12_moves n) 0 l q a i (pm m 140 0 q w) = fX12_moves_294 (kX12_moves (n - d)) 0 q (if a < mnq (jrq c m l (gm m 138 0 q)) (cav c m l) d i 2147483647 then a else mnq (jrq c m l (gm m 138 0 q)) (cav c m l) d i 2147483647) (pm m 140 0 q (if a < mnq (jrq c m l (gm m 138 0 q)) (cav c m l) d i 2147483647 then w else 1))
  | 0, n, i, a, w, hn, h0, hi, ha => by
    have r1 : gm (pm m 140 0 q w) 121 0 l = gm m 121 0 l := rfl
    rw [show mnq (jrq c m l (gm m 138 0 q)) (cav c m l) 0 i 2147483647 = 2147483647 from rfl, if_pos ha, if_pos ha]
    simp only [fX12_moves_219, r1]
    rw [if_pos hl, if_neg (by omega)]
    rfl
  | d + 1, n, i, a, w, hn, h0, hi, ha => by
    obtain ⟨n, rfl⟩ : ∃ n', n = n' + 1 := ⟨n - 1, by omega⟩
    obtain ⟨⟨r1, r2, r3⟩, -, r5, -⟩ := hR l hl.1 hl.2
    have h1 : i < gm m 121 0 l := by omega
    obtain ⟨q1, q2, q3⟩ := r5 i h0 h1
    have km : Kp [(140, none)] m (pm m 140 0 q w) := Kp.pm (Kp.rf _ _) (Or.inl (by decide))
    have e3 := emCellOf (rlD.kp hD (Kp.rf [] c) km (by decide) rfl) (rlR.kp hR (Kp.rf [] c) km (by decide)) hl h0 (show i < gm (pm m 140 0 q w) 121 0 l from h1) h2
    have ec : cav c (pm m 140 0 q w) l i = cav c m l i := rfl
    rw [ec] at e3
    have b := cav_le hD hR hl h0 h1
    have w1 : wr (i + 1) = i + 1 := wq (by omega) (by omega)
    have w3 : wr (wr (10 * l) + i) = 10 * l + i := by rw [wq (z := 10 * l) (by omega) (by omega), wq (by omega) (by omega)]
    have g1 : 0 ≤ 10 * l + i ∧ 10 * l + i < 20 := by omega
    have x1 : gm (pm m 140 0 q w) 121 0 l = gm m 121 0 l := rfl
    have x2 : gm (pm m 140 0 q w) 122 0 (10 * l + i) = gm m 122 0 (10 * l + i) := rfl
    have x3 : ∀ j, gm (pm m 140 0 q w) 123 0 j = gm m 123 0 j := fun j => rfl
    have x4 : gm (pm m 140 0 q w) 138 0 q = gm m 138 0 q := rfl
    have g2 : 0 ≤ gm m 122 0 (10 * l + i) ∧ gm m 122 0 (10 * l + i) < 12 := ⟨q2, q3⟩
    have hJ : mnq (jrq c m l (gm m 138 0 q)) (cav c m l) (d + 1) i 2147483647 = if gm m 123 0 (gm m 122 0 (10 * l + i)) ≠ 0 ∧ gm m 138 0 q < cav c m l i then min (cav c m l i) (mnq (jrq c m l (gm m 138 0 q)) (cav c m l) d (i + 1) 2147483647) else mnq (jrq c m l (gm m 138 0 q)) (cav c m l) d (i + 1) 2147483647 := by
      have e : jrq c m l (gm m 138 0 q) i ≠ 0 ↔ gm m 123 0 (gm m 122 0 (10 * l + i)) ≠ 0 ∧ gm m 138 0 q < cav c m l i := by
        unfold jrq
        rw [ite10]
      show mnq (jrq c m l (gm m 138 0 q)) (cav c m l) d (i + 1) (if jrq c m l (gm m 138 0 q) i ≠ 0 then min 2147483647 (cav c m l i) else 2147483647) = _
      by_cases c1 : gm m 123 0 (gm m 122 0 (10 * l + i)) ≠ 0 ∧ gm m 138 0 q < cav c m l i
      · rw [if_pos (e.mpr c1), if_pos c1, show min 2147483647 (cav c m l i) = min (cav c m l i) 2147483647 by omega, mnq_min]
      · rw [if_neg (fun z => c1 (e.mp z)), if_neg c1]
    rw [hJ]
    have ih := fun a w ha => emJury_lp hD hR hl h2 hq d n (i + 1) a w (by omega) (by omega) (by omega) ha
    clear hJ
    rw [show n + 1 - (d + 1) = n - d by omega]
    generalize mnq (jrq c m l (gm m 138 0 q)) (cav c m l) d (i + 1) 2147483647 = J at ih ⊢
    generalize hR : fX12_moves_294 (kX12_moves (n - d)) 0 q _ _ = R
    simp only [fX12_moves_219, x1]
    rw [if_pos hl, if_pos h1, e3]
    simp only [bnd_ok, w3, x2, x3, x4, if_pos g1, if_pos g2, if_pos hq, z01, o01, or_true, true_or, and_true, if_true, fX12_moves_288, w1, pm_pm]
    rw [uX12_moves_219, uX12_moves_219, ih a w ha, ih (cav c m l i) 1 (by omega)]
    rw [← hR]
    by_cases c1 : gm m 123 0 (gm m 122 0 (10 * l + i)) = 0
    · rw [if_pos c1, if_neg (show ¬ (gm m 123 0 (gm m 122 0 (10 * l + i)) ≠ 0 ∧ gm m 138 0 q < cav c m l i) from fun z => z.1 c1)]
    · rw [if_neg c1]
      by_cases c2 : gm m 138 0 q < cav c m l i
      · rw [if_pos c2, if_pos (show gm m 123 0 (gm m 122 0 (10 * l + i)) ≠ 0 ∧ gm m 138 0 q < cav c m l i from ⟨c1, c2⟩)]
        by_cases c3 : a < cav c m l i
        · rw [if_pos c3]
          by_cases c4 : a < J
          · rw [if_pos c4, if_pos c4, if_pos (by omega), if_pos (by omega)]
          · rw [if_neg c4, if_neg c4, if_neg (by omega), if_neg (by omega), show min (cav c m l i) J = J by omega]
        · rw [if_neg c3]
          rw [if_neg (show ¬ a < min (cav c m l i) J by omega), if_neg (show ¬ a < min (cav c m l i) J by omega)]
          by_cases c4 : cav c m l i < J
          · rw [if_pos c4, if_pos c4, show min (cav c m l i) J = cav c m l i by omega]
          · rw [if_neg c4, if_neg c4, show min (cav c m l i) J = J by omega]
      · rw [if_neg c2, if_neg (show ¬ (gm m 123 0 (gm m 122 0 (10 * l + i)) ≠ 0 ∧ gm m 138 0 q < cav c m l i) from fun z => c2 z.2)]
