/-! Who entered is put in order. -/
def ky (m : St) (l q : Int) : Int := if q = gm m 12 0 28 then -1 else if q = gm m 129 0 l then 100 else gm m 125 0 q
def rk (m : St) (l q : Int) : Int := if q = gm m 12 0 28 then -1 else if q = gm m 129 0 l then 10000 else 10 * gm m 125 0 q + q
/-- what both look at -/
def inC (l : Int) (c m : St) : Prop := (0 ≤ gm m 12 0 1 ∧ gm m 12 0 1 ≤ 10) ∧ (∀ i : Int, 0 ≤ i → i < gm m 12 0 1 → gm c 6 i 0 = i ∧ gm c 6 i 11 = gm m 125 0 i ∧ (0 ≤ gm m 125 0 i ∧ gm m 125 0 i ≤ 99) ∧ gm c 6 i 5 = gm m 102 0 i ∧ gm c 6 i 15 = gm m 124 0 i ∧ (gm m 124 0 i = 0 ∨ gm m 124 0 i = 1)) ∧ gm c 0 l 5 = gm m 129 0 l ∧ gm c 0 l 0 = l ∧ ∀ i : Int, 0 ≤ i → i < 10 → gm c 13 0 i = if i < gm m 12 0 1 then i else -1
theorem ky_rk {m : St} {l a b : Int} (h0 : 0 ≤ a) (h1 : a < b) (h2 : b < 10) (ha : 0 ≤ gm m 125 0 a ∧ gm m 125 0 a ≤ 99) (hb : 0 ≤ gm m 125 0 b ∧ gm m 125 0 b ≤ 99) : (ky m l b < ky m l a ↔ rk m l b < rk m l a) ∧ rk m l a ≠ rk m l b := by
  unfold ky rk
  by_cases c1 : a = gm m 12 0 28
  · have c2 : ¬ b = gm m 12 0 28 := by omega
    rw [if_pos c1, if_pos c1, if_neg c2, if_neg c2]
    split <;> omega
  · rw [if_neg c1, if_neg c1]
    by_cases c2 : b = gm m 12 0 28
    · rw [if_pos c2, if_pos c2]
      split <;> omega
    · rw [if_neg c2, if_neg c2]
      by_cases c3 : a = gm m 129 0 l
      · have c4 : ¬ b = gm m 129 0 l := by omega
        rw [if_pos c3, if_pos c3, if_neg c4, if_neg c4]
        omega
      · rw [if_neg c3, if_neg c3]
        split <;> omega
theorem rk_kp {T : List (Nat × Option Int)} {m m' : St} (h : Kp T m m') (hd : (fre T 12 28 && frk T 129 && frk T 125) = true) (l q : Int) : rk m' l q = rk m l q := by
  obtain ⟨d1, d3⟩ := and2 hd
  obtain ⟨d1, d2⟩ := and2 d1
  unfold rk
  rw [h.f d1 0, h.k d2, h.k d3]
theorem ecKey {c m : St} {l q : Int} (h : inC l c m) (h0 : 0 ≤ q) (h1 : q < gm m 12 0 1) : FX0_orderKey l q (gm m 12 0 28) c = some (0, ky m l q, c) := by
  obtain ⟨-, hs, h2, -, -⟩ := h
  obtain ⟨s1, s2, -⟩ := hs q h0 h1
  simp only [FX0_orderKey, fX0_orderKey_0, fX0_orderKey_10, fX0_orderKey_26, fX0_orderKey_30, s1, s2, h2, if_pos h0, ky]
  split
  · rfl
  · split <;> rfl
theorem emRankOf {c m : St} {l q : Int} (h : inC l c m) (hl : 0 ≤ l ∧ l < 2) (h0 : 0 ≤ q) (h1 : q < gm m 12 0 1) (h2 : gm m 102 0 q = l) : FX12_rankOf 0 q m = some (0, rk m l q, m) := by
  obtain ⟨hn, hs, -⟩ := h
  obtain ⟨-, -, s3, -⟩ := hs q h0 h1
  have h9 : 0 ≤ q ∧ q < 10 := by omega
  simp only [FX12_rankOf, fX12_rankOf_0, fX12_rankOf_19, fX12_rankOf_35, fX12_rankOf_46, h2, if_pos h9, if_pos hl, rk]
  rw [wq (z := 10 * gm m 125 0 q) (by omega) (by omega), wq (by omega) (by omega)]
  split
  · rfl
  · split <;> rfl
theorem ecInsert_lp {r p q : Int} (hp : 0 ≤ p) : ∀ (d n : Nat) (k : Int) (c : St), d < n → k = p + d → k < 10 → ∃ c', fX4_insert_36 (kX4_insert n) r p q k c = some (0, 0, c') ∧ Kp [(27, none), (4, some 1)] c c' ∧ c'.2 = c.2 ∧ (∀ z i, z ≠ r → gm c' 27 z i = gm c 27 z i ∧ gm c' 4 z 1 = gm c 4 z 1) ∧ gm c' 4 r 1 = wr (gm c 4 r 1 + 1) ∧
    ∀ j, gm c' 27 r j = if j = p then q else if p < j ∧ j ≤ k then gm c 27 r (j - 1) else gm c 27 r j
  | 0, n, k, c, hn, hk, hk2 => by
    have e : k = p := by omega
    subst e
    refine ⟨pm (pm c 27 r k q) 4 r 1 (wr (gm c 4 r 1 + 1)), ?_, Kp.pm (Kp.pm (Kp.rf _ _) (Or.inl (by decide))) (Or.inr (by decide)), rfl, fun z i hz => ?_, ?_, fun j => ?_⟩
    · simp only [fX4_insert_36, fX4_insert_61]
      rw [if_neg (by omega), if_pos (by omega)]
      simp [gm_pm]
    · simp [gm_pm, hz]
    · simp [gm_pm]
    · simp [gm_pm]
      by_cases e : j = k
      · simp [e]
      · rw [if_neg e, if_neg e, if_neg (by omega)]
  | d + 1, n, k, c, hn, hk, hk2 => by
    obtain ⟨n, rfl⟩ : ∃ n', n = n' + 1 := ⟨n - 1, by omega⟩
    obtain ⟨c', e1, e2, e2b, e3, e4, e5⟩ := ecInsert_lp hp (r := r) (q := q) d n (k - 1) (pm c 27 r k (gm c 27 r (k - 1))) (by omega) (by omega) (by omega)
    refine ⟨c', ?_, (Kp.pm (Kp.rf _ _) (Or.inl (by decide))).tr e2, e2b, fun z i hz => ?_, ?_, fun j => ?_⟩
    · simp only [fX4_insert_36]
      rw [if_pos (by omega), wq (z := k - 1) (by omega) (by omega), wq (z := k + -1) (by omega) (by omega), if_pos (by omega), if_pos (by omega), uX4_insert_36]
      exact e1
    · have := e3 z i hz
      rw [this.1, this.2]
      simp [gm_pm, hz]
    · rw [e4]; simp [gm_pm]
    · rw [e5]
      by_cases c1 : j = p
      · rw [if_pos c1, if_pos c1]
      · rw [if_neg c1, if_neg c1]
        by_cases c2 : p < j ∧ j ≤ k - 1
        · rw [if_pos c2, if_pos (by omega), gm_pm, if_neg (by omega)]
        · rw [if_neg c2, gm_pm]
          by_cases c3 : j = k
          · rw [if_pos ⟨rfl, rfl, c3⟩, if_pos (by omega), c3]
          · rw [if_neg (by omega), if_neg (by omega)]
theorem ecInsert {c : St} {r p q e : Int} (he : gm c 4 r 1 = e) (he2 : 0 ≤ e ∧ e < 10) (hp : 0 ≤ p ∧ p ≤ e) : ∃ c', FX4_insert r p q c = some (0, 0, c') ∧ Kp [(27, none), (4, some 1)] c c' ∧ c'.2 = c.2 ∧ (∀ z i, z ≠ r → gm c' 27 z i = gm c 27 z i ∧ gm c' 4 z 1 = gm c 4 z 1) ∧ gm c' 4 r 1 = e + 1 ∧
    ∀ j, gm c' 27 r j = if j = p then q else if p < j ∧ j ≤ e then gm c 27 r (j - 1) else gm c 27 r j := by
  obtain ⟨c', e1, e2, e2b, e3, e4, e5⟩ := ecInsert_lp hp.1 (r := r) (q := q) (e - p).toNat 9999 e c (by omega) (by omega) (by omega)
  refine ⟨c', ?_, e2, e2b, e3, ?_, e5⟩
  · simp only [FX4_insert, fX4_insert_0, fX4_insert_30, fX4_insert_31, ecWithin, bnd_ok, he]
    have a1 : 0 ≤ e ∧ e ≤ 9 := by omega
    have w : wr (10 - 1) = 9 := by rw [wq (by omega) (by omega)]; omega
    simp only [w, if_pos a1, if_pos hp, if_neg (show ¬ (1 : Int) = 0 by omega)]
    exact e1
  · rw [e4, he, wq (by omega) (by omega)]
theorem ecOrdPl_lp {c m : St} {l q e : Int} (h : inC l c m) (he : gm c 4 (2 * l) 1 = e) (he2 : 0 ≤ e ∧ e ≤ 10) (hx : ∀ k : Int, 0 ≤ k → k < e → 0 ≤ gm c 27 (2 * l) k ∧ gm c 27 (2 * l) k < gm m 12 0 1) (hq : 0 ≤ q ∧ q < gm m 12 0 1) : ∀ (d n : Nat) (k acc : Int), d < n → k + 1 = d → k < acc → acc ≤ e → (∀ j : Int, k < j → j < acc → ¬ ky m l q < ky m l (gm c 27 (2 * l) j)) → (acc = e ∨ ky m l q < ky m l (gm c 27 (2 * l) acc)) →
    ∃ p, fX0_orderPlace_19 (kX0_orderPlace n) l q (gm m 12 0 28) acc k c = some (0, p, c) ∧ (0 ≤ p ∧ p ≤ e) ∧ (∀ j : Int, 0 ≤ j → j < p → ¬ ky m l q < ky m l (gm c 27 (2 * l) j)) ∧ (p = e ∨ ky m l q < ky m l (gm c 27 (2 * l) p))
  | 0, n, k, acc, hn, hk, hk2, ha, hj, hg => by
    refine ⟨acc, ?_, by omega, fun j j0 j1 => hj j (by omega) j1, hg⟩
    simp only [fX0_orderPlace_19, fX0_orderPlace_65]
    rw [if_pos (by omega)]
  | d + 1, n, k, acc, hn, hk, hk2, ha, hj, hg => by
    obtain ⟨n, rfl⟩ : ∃ n', n = n' + 1 := ⟨n - 1, by omega⟩
    have x1 := hx k (by omega) (by omega)
    have w1 : wr (k + -1) = k + -1 := wq (by omega) (by omega)
    simp only [fX0_orderPlace_19, fX0_orderPlace_59, w1]
    rw [if_neg (by omega), ecAt (by omega) (by omega), he, if_pos (by omega)]
    simp only [bnd_ok]
    rw [if_neg (by omega), ecKey h x1.1 x1.2, ]
    simp only [bnd_ok]
    rw [ecKey h hq.1 hq.2]
    simp only [bnd_ok, uX0_orderPlace_19]
    by_cases g : ky m l q < ky m l (gm c 27 (2 * l) k)
    · rw [if_pos g]
      exact ecOrdPl_lp h he he2 hx hq d n (k + -1) k (by omega) (by omega) (by omega) (by omega) (fun j j0 j1 => by omega) (Or.inr g)
    · rw [if_neg g]
      refine ecOrdPl_lp h he he2 hx hq d n (k + -1) acc (by omega) (by omega) (by omega) (by omega) (fun j j0 j1 => ?_) hg
      by_cases e : j = k
      · rw [e]; exact g
      · exact hj j (by omega) j1
theorem emShift_lp {c : St} {l e q p : Int} (hl : 0 ≤ l ∧ l < 2) (hp : 0 ≤ p) : ∀ (d : Nat) (k : Int) (m : St), inC l c m → k = p + d → k < 10 → (0 ≤ q ∧ q < gm m 12 0 1 ∧ gm m 102 0 q = l) → (∀ j : Int, 0 ≤ j → j < k → 0 ≤ gm m 127 0 (10 * l + j) ∧ gm m 127 0 (10 * l + j) < gm m 12 0 1 ∧ gm m 102 0 (gm m 127 0 (10 * l + j)) = l) → (∀ j : Int, p ≤ j → j < k → rk m l q < rk m l (gm m 127 0 (10 * l + j))) → (0 < p → ¬ rk m l q < rk m l (gm m 127 0 (10 * l + (p - 1)))) →
    ∃ m', (∀ n : Nat, fX12_findsOrder_34 (kX12_findsOrder (n + d)) 0 l e q k m = fX12_findsOrder_97 (kX12_findsOrder n) 0 l e q p m') ∧ Kp [(127, none)] m m' ∧ m'.2 = m.2 ∧ ∀ j, gm m' 127 0 j = if 10 * l + p < j ∧ j ≤ 10 * l + k then gm m 127 0 (j - 1) else gm m 127 0 j
  | 0, k, m, h, hk, hk2, hq, hx, hg, hb => by
    have e1 : k = p := by omega
    subst e1
    refine ⟨m, fun n => ?_, Kp.rf _ _, rfl, fun j => by rw [if_neg (by omega)]⟩
    simp only [fX12_findsOrder_34]
    by_cases c1 : 0 < k
    · have x1 := hx (k - 1) (by omega) (by omega)
      have g1 := hb c1
      have w1 : wr (wr (wr (10 * l) + k) - 1) = 10 * l + (k - 1) := by
        rw [wq (z := 10 * l) (by omega) (by omega), wq (z := 10 * l + k) (by omega) (by omega), wq (by omega) (by omega)]; omega
      rw [if_pos c1, w1, if_pos (by omega), emRankOf h hl x1.1 x1.2.1 x1.2.2]
      simp only [bnd_ok]
      rw [emRankOf h hl hq.1 hq.2.1 hq.2.2]
      simp only [bnd_ok]
      rw [if_neg g1]
      rfl
    · rw [if_neg c1]
      rfl
  | d + 1, k, m, h, hk, hk2, hq, hx, hg, hb => by
    have k0 : 0 < k := by omega
    have x1 := hx (k - 1) (by omega) (by omega)
    have g1 := hg (k - 1) (by omega) (by omega)
    have w1 : wr (wr (wr (10 * l) + k) - 1) = 10 * l + (k - 1) := by
      rw [wq (z := 10 * l) (by omega) (by omega), wq (z := 10 * l + k) (by omega) (by omega), wq (by omega) (by omega)]; omega
    have w2 : wr (wr (10 * l) + k) = 10 * l + k := by
      rw [wq (z := 10 * l) (by omega) (by omega), wq (by omega) (by omega)]
    have w3 : wr (k + -1) = k - 1 := by rw [wq (by omega) (by omega)]; omega
    have hkp : Kp [(127, none)] m (pm m 127 0 (10 * l + k) (gm m 127 0 (10 * l + (k - 1)))) := Kp.pm (Kp.rf _ _) (Or.inl (by decide))
    have at1 : ∀ j : Int, j < k → gm (pm m 127 0 (10 * l + k) (gm m 127 0 (10 * l + (k - 1)))) 127 0 (10 * l + j) = gm m 127 0 (10 * l + j) := fun j hj => by rw [gm_pm, if_neg (by omega)]
    have hr : ∀ z, rk (pm m 127 0 (10 * l + k) (gm m 127 0 (10 * l + (k - 1)))) l z = rk m l z := rk_kp hkp (by decide) l
    obtain ⟨m', e1, e2, e2b, e3⟩ := emShift_lp hl hp (c := c) (e := e) (q := q) d (k - 1) (pm m 127 0 (10 * l + k) (gm m 127 0 (10 * l + (k - 1)))) h (by omega) (by omega) hq (fun j j0 j1 => by rw [at1 j (by omega)]; exact hx j j0 (by omega)) (fun j j0 j1 => by rw [at1 j (by omega), hr, hr]; exact hg j j0 (by omega)) (fun z => by rw [at1 _ (by omega), hr, hr]; exact hb z)
    refine ⟨m', fun n => ?_, hkp.tr e2, e2b, fun j => ?_⟩
    · rw [show n + (d + 1) = (n + d) + 1 from rfl]
      simp only [fX12_findsOrder_34, w2, w3]
      rw [w2] at w1
      simp only [w1]
      rw [if_pos k0, if_pos (by omega), emRankOf h hl x1.1 x1.2.1 x1.2.2]
      simp only [bnd_ok]
      rw [emRankOf h hl hq.1 hq.2.1 hq.2.2]
      simp only [bnd_ok]
      rw [if_pos g1, if_pos (by omega), if_pos (by omega), uX12_findsOrder_34]
      exact e1 n
    · rw [e3]
      by_cases c2 : 10 * l + p < j ∧ j ≤ 10 * l + (k - 1)
      · rw [if_pos c2, if_pos (by omega), gm_pm, if_neg (by omega)]
      · rw [if_neg c2, gm_pm]
        by_cases c3 : j = 10 * l + k
        · rw [if_pos ⟨rfl, rfl, c3⟩, if_pos (by omega), c3]
          congr 1; omega
        · rw [if_neg (by omega), if_neg (by omega)]
