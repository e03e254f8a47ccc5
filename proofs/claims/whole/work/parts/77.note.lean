/-! Notes, points, doubts: one value for both. -/
def sm (f : Int → Int) : Nat → Int → Int
  | 0, _ => 0
  | d + 1, j => f j + sm f d (j + 1)
theorem sm_cg {f g : Int → Int} : ∀ (d : Nat) (j : Int), (∀ i, j ≤ i → i < j + d → f i = g i) → sm f d j = sm g d j
  | 0, _, _ => rfl
  | d + 1, j, h => by
    simp only [sm]
    rw [h j (by omega) (by omega), sm_cg d (j + 1) (fun i h1 h2 => h i (by omega) (by omega))]
theorem sm_le {f : Int → Int} {b : Int} : ∀ (d : Nat) (j : Int), (∀ i, j ≤ i → i < j + d → 0 ≤ f i ∧ f i ≤ b) → 0 ≤ sm f d j ∧ sm f d j ≤ b * d
  | 0, _, _ => by simp [sm]
  | d + 1, j, h => by
    have a := h j (by omega) (by omega)
    have r := sm_le d (j + 1) (fun i h1 h2 => h i (by omega) (by omega))
    simp only [sm]
    have e : b * ((d + 1 : Nat) : Int) = b * d + b := by
      rw [show ((d + 1 : Nat) : Int) = (d : Int) + 1 by omega, Int.mul_add, Int.mul_one]
    rw [e]
    omega
def tgC (g : Int → Int) : Nat → Int → Int → Int → Int → Int → Int
  | 0, _, s, c, lo, hi => s - (if 3 ≤ c then lo else 0) - (if 4 ≤ c then hi else 0)
  | d + 1, j, s, c, lo, hi => if 0 < g j then tgC g d (j + 1) (s + g j) (c + 1) (if c = 0 then g j else min lo (g j)) (max hi (g j)) else tgC g d (j + 1) s c lo hi
def tg (g : Int → Int) : Int := tgC g 4 0 0 0 0 0
theorem tgC_cg {g g' : Int → Int} : ∀ (d : Nat) (j s c lo hi : Int), (∀ i, j ≤ i → i < j + d → g i = g' i) → tgC g d j s c lo hi = tgC g' d j s c lo hi
  | 0, _, _, _, _, _, _ => rfl
  | d + 1, j, s, c, lo, hi, h => by
    simp only [tgC]
    rw [h j (by omega) (by omega)]
    rw [tgC_cg d (j + 1) _ _ _ _ (fun i h1 h2 => h i (by omega) (by omega)), tgC_cg d (j + 1) _ _ _ _ (fun i h1 h2 => h i (by omega) (by omega))]
theorem tg_cg {g g' : Int → Int} (h : ∀ i, 0 ≤ i → i < 4 → g i = g' i) : tg g = tg g' := tgC_cg 4 0 0 0 0 0 (fun i h1 h2 => h i h1 (by omega))
theorem tgC_le {g : Int → Int} : ∀ (d : Nat) (j s c lo hi : Int), (∀ i, j ≤ i → i < j + d → 0 ≤ g i ∧ g i ≤ 100) → 0 ≤ lo → lo ≤ 100 → 0 ≤ hi → hi ≤ 100 → s - 200 ≤ tgC g d j s c lo hi ∧ tgC g d j s c lo hi ≤ s + 100 * d
  | 0, _, s, c, lo, hi, _, h1, h2, h3, h4 => by
    simp only [tgC]
    split <;> split <;> omega
  | d + 1, j, s, c, lo, hi, h, h1, h2, h3, h4 => by
    have a := h j (by omega) (by omega)
    simp only [tgC]
    split
    · have r := tgC_le d (j + 1) (s + g j) (c + 1) (if c = 0 then g j else min lo (g j)) (max hi (g j)) (fun i h1 h2 => h i (by omega) (by omega)) (by split <;> omega) (by split <;> omega) (by omega) (by omega)
      omega
    · have r := tgC_le d (j + 1) s c lo hi (fun i h1 h2 => h i (by omega) (by omega)) h1 h2 h3 h4
      omega
theorem tg_le {g : Int → Int} (h : ∀ i, 0 ≤ i → i < 4 → 0 ≤ g i ∧ g i ≤ 100) : -200 ≤ tg g ∧ tg g ≤ 400 := by
  have r := tgC_le 4 0 0 0 0 0 (fun i h1 h2 => h i h1 (by omega)) (by omega) (by omega) (by omega) (by omega)
  unfold tg
  omega
theorem ecTog_lp {g : Int → Int} {a0 a1 : Int} {s : St} (h : ∀ j, 0 ≤ j → j < 4 → gm s 18 a0 (5 * j + a1) = g j ∧ 0 ≤ g j ∧ g j ≤ 100) (ha : 0 ≤ a1 ∧ a1 < 5) :
    ∀ (d n : Nat) (j sum c lo hi : Int), d < n → 0 ≤ j → j + d = 4 → 0 ≤ sum → sum ≤ 100 * j → 0 ≤ c → c ≤ j → 0 ≤ lo → lo ≤ 100 → 0 ≤ hi → hi ≤ 100 → fX5_together_13 (kX5_together n) a0 a1 sum c lo hi j s = some (0, tgC g d j sum c lo hi, s)
  | 0, n, j, sum, c, lo, hi, hn, h0, hj, b1, b2, b3, b4, b5, b6, b7, b8 => by
    simp only [fX5_together_13, fX5_together_74, fX5_together_84, fX5_together_94, tgC]
    rw [if_neg (by omega)]
    simp (disch := omega) only [wq]
    grind [wq]
  | d + 1, n, j, sum, c, lo, hi, hn, h0, hj, b1, b2, b3, b4, b5, b6, b7, b8 => by
    obtain ⟨n, rfl⟩ : ∃ n', n = n' + 1 := ⟨n - 1, by omega⟩
    obtain ⟨g1, g2, g3⟩ := h j h0 (by omega)
    simp only [fX5_together_13, fX5_together_42, fX5_together_49, fX5_together_68, tgC]
    rw [if_pos (by omega), ecNoteBy h0 (by omega) ha.1 ha.2]
    simp only [bnd_ok, g1]
    by_cases hp : 0 < g j
    · rw [if_pos hp, if_pos hp]
      by_cases hc : c = 0
      · rw [if_pos hc, if_pos hc]
        simp (disch := omega) only [wq, ecMax, bnd_ok]
        rw [uX5_together_13]
        exact ecTog_lp h ha d n (j + 1) _ _ _ _ (by omega) (by omega) (by omega) (by omega) (by omega) (by omega) (by omega) (by omega) (by omega) (by omega) (by omega)
      · rw [if_neg hc, if_neg hc]
        simp (disch := omega) only [wq, ecMax, ecMin, bnd_ok]
        rw [uX5_together_13]
        exact ecTog_lp h ha d n (j + 1) _ _ _ _ (by omega) (by omega) (by omega) (by omega) (by omega) (by omega) (by omega) (by omega) (by omega) (by omega) (by omega)
    · rw [if_neg hp, if_neg hp]
      simp (disch := omega) only [wq]
      rw [uX5_together_13]
      exact ecTog_lp h ha d n (j + 1) _ _ _ _ (by omega) (by omega) (by omega) (by omega) (by omega) (by omega) (by omega) (by omega) (by omega) (by omega) (by omega)
theorem ecTogether {g : Int → Int} {a0 a1 : Int} {s : St} (h : ∀ j, 0 ≤ j → j < 4 → gm s 18 a0 (5 * j + a1) = g j ∧ 0 ≤ g j ∧ g j ≤ 100) (ha : 0 ≤ a1 ∧ a1 < 5) : FX5_together a0 a1 s = some (0, tg g, s) := by
  simp only [FX5_together, fX5_together_0]
  exact ecTog_lp h ha 4 9999 0 0 0 0 0 (by omega) (by omega) (by omega) (by omega) (by omega) (by omega) (by omega) (by omega) (by omega) (by omega) (by omega)
theorem emTog_lp {g : Int → Int} {i a1 : Int} {s : St} (h : ∀ j, 0 ≤ j → j < 4 → gm s 146 0 (20 * i + 5 * j + a1) = g j ∧ (g j = 0 ∨ 50 ≤ g j ∧ g j ≤ 100)) (hi : 0 ≤ i ∧ i < 10) (ha : 0 ≤ a1 ∧ a1 < 5) :
    ∀ (d n : Nat) (j sum c lo le mo : Int), d < n → 0 ≤ j → j + d = 4 → 0 ≤ sum → sum ≤ 100 * j → 0 ≤ c → c ≤ j → 0 ≤ lo → lo ≤ 100 → 0 ≤ mo → mo ≤ 100 → (c = 0 → le = 1000) → (c ≠ 0 → le = lo) → fX12_noteSum_16 (kX12_noteSum n) 0 i a1 sum c le mo j s = some (0, tgC g d j sum c lo mo, s)
  | 0, n, j, sum, c, lo, le, mo, hn, h0, hj, b1, b2, b3, b4, b5, b6, b7, b8, q1, q2 => by
    simp only [fX12_noteSum_16, fX12_noteSum_103, fX12_noteSum_115, fX12_noteSum_116, fX12_noteSum_128, fX12_noteSum_129, tgC]
    rw [if_neg (by omega)]
    grind [wq]
  | d + 1, n, j, sum, c, lo, le, mo, hn, h0, hj, b1, b2, b3, b4, b5, b6, b7, b8, q1, q2 => by
    obtain ⟨n, rfl⟩ : ∃ n', n = n' + 1 := ⟨n - 1, by omega⟩
    obtain ⟨g1, g2⟩ := h j h0 (by omega)
    simp only [fX12_noteSum_16, fX12_noteSum_56, fX12_noteSum_57, fX12_noteSum_77, fX12_noteSum_79, fX12_noteSum_93, fX12_noteSum_95, tgC]
    simp (disch := omega) only [wq]
    rw [if_pos (by omega), if_pos (by omega), g1]
    simp only [uX12_noteSum_16]
    by_cases hp : 0 < g j
    · rw [if_pos hp, if_pos hp, if_pos hp]
      have r := emTog_lp h hi ha d n (j + 1) (sum + g j) (c + 1) (if c = 0 then g j else min lo (g j)) (if g j < le then g j else le) (max mo (g j)) (by omega) (by omega) (by omega) (by omega) (by omega) (by omega) (by omega) (by split <;> omega) (by split <;> omega) (by omega) (by omega) (by omega) (fun _ => by split <;> split <;> omega)
      rw [← r]
      have e : max mo (g j) = if mo < g j then g j else mo := by split <;> omega
      rw [e]
      by_cases l1 : g j < le <;> by_cases l2 : mo < g j <;> simp [l1, l2]
    · have z : g j = 0 := by omega
      have r := emTog_lp h hi ha d n (j + 1) sum c lo le mo (by omega) (by omega) (by omega) (by omega) (by omega) (by omega) (by omega) (by omega) (by omega) (by omega) (by omega) q1 q2
      rw [if_neg hp, if_neg hp, if_neg (by omega), z]
      simp only [Int.add_zero]
      exact r
theorem emNoteSum {g : Int → Int} {i a1 : Int} {s : St} (h : ∀ j, 0 ≤ j → j < 4 → gm s 146 0 (20 * i + 5 * j + a1) = g j ∧ (g j = 0 ∨ 50 ≤ g j ∧ g j ≤ 100)) (hi : 0 ≤ i ∧ i < 10) (ha : 0 ≤ a1 ∧ a1 < 5) : FX12_noteSum 0 i a1 s = some (0, tg g, s) := by
  simp only [FX12_noteSum, fX12_noteSum_0]
  exact emTog_lp h hi ha 4 9999 0 0 0 0 1000 0 (by omega) (by omega) (by omega) (by omega) (by omega) (by omega) (by omega) (by omega) (by omega) (by omega) (by omega) (fun _ => rfl) (fun h => absurd rfl h)
