/-! What fits a route. -/
def fitI (c m : St) (l s0 s1 s2 s3 i : Int) : Int := if s0 ≤ gm m 118 0 (gm c 26 l i) - 2 ∧ s1 ≤ gm m 119 0 (gm c 26 l i) - 1 ∧ s2 ≤ gm m 120 0 (gm c 26 l i) ∧ (i = 1 ∨ s3 ≤ gm m 118 0 (gm c 26 l (i - 1)) + gm m 118 0 (gm c 26 l i)) then 1 else 0
def alF (f : Int → Int) : Nat → Int → Int
  | 0, _ => 1
  | d + 1, i => if f i = 0 then 0 else alF f d (i + 1)
theorem alF_01 (f : Int → Int) : ∀ (d : Nat) (i : Int), alF f d i = 0 ∨ alF f d i = 1
  | 0, _ => Or.inr rfl
  | d + 1, i => by
    simp only [alF]
    split
    · exact Or.inl rfl
    · exact alF_01 f d (i + 1)
theorem ecLets_lp {c m : St} (hD : rlD c m) (hR : rlR c m) {l : Int} (hl : 0 ≤ l ∧ l < 2) {w s0 s1 s2 s3 : Int} (hw : 0 ≤ w) (h0 : gm c 10 w 0 = s0) (h1 : gm c 10 w 1 = s1) (h2 : gm c 10 w 2 = s2) (h3 : gm c 10 w 3 = s3) (hc : 2 ≤ gm m 121 0 l) :
    ∀ (d n : Nat) (i : Int), d < n → 1 ≤ i → i + d = gm m 121 0 l → fX3_lets_2 (kX3_lets n) l w i c = some (0, alF (fitI c m l s0 s1 s2 s3) d i, c)
  | 0, n, i, hn, hi, hd => by
    obtain ⟨⟨r1, r2, r3⟩, -⟩ := hR l hl.1 hl.2
    simp only [fX3_lets_2, fX3_lets_67, fX3_lets_79, fX3_lets_80, r1, alF, o01, if_true]
    rw [if_neg (by omega), if_pos (by omega)]
    simp
  | d + 1, n, i, hn, hi, hd => by
    obtain ⟨n, rfl⟩ : ∃ n', n = n' + 1 := ⟨n - 1, by omega⟩
    obtain ⟨⟨r1, r2, r3⟩, -, -, r6, -⟩ := hR l hl.1 hl.2
    obtain ⟨⟨t1, t2⟩, -⟩ := r6 i hi (by omega)
    obtain ⟨⟨q0, q1, q2, q3, q4, q5⟩, b2, b3, b4, b5, -⟩ := hD.2.2.1 _ t1 t2
    have ih := ecLets_lp hD hR hl hw h0 h1 h2 h3 hc d n (i + 1) (by omega) (by omega) (by omega)
    have es := ecStreetLets (a0 := gm c 26 l i) (a1 := w) (s := c) hw (by omega) (by omega)
    rw [h0, h1, h2, q3, q4, q5] at es
    simp only [fX3_lets_2, fX3_lets_59, fX3_lets_61, r1, alF, z01, if_true]
    rw [if_pos (by omega), ecStreetTo (by omega) (by omega), r1, if_pos (by omega)]
    simp only [bnd_ok]
    rw [wq (z := i - 1) (by omega) (by omega), ecStreetTo (by omega) (by omega), r1]
    simp only [bnd_ok]
    rw [if_neg (by omega), if_pos t1, es]
    simp (disch := omega) only [bnd_ok, wq]
    simp only [uX3_lets_2, ih]
    by_cases e1 : i = 1
    · have e2 : ¬ (1 ≤ i - 1 ∧ i - 1 < gm m 121 0 l) := by omega
      simp only [if_neg e2, if_true]
      by_cases e3 : s0 ≤ gm m 118 0 (gm c 26 l i) - 2 ∧ s1 ≤ gm m 119 0 (gm c 26 l i) - 1 ∧ s2 ≤ gm m 120 0 (gm c 26 l i)
      · have e4 : fitI c m l s0 s1 s2 s3 i = 1 := if_pos ⟨e3.1, e3.2.1, e3.2.2, Or.inl e1⟩
        rw [if_pos e3, e4]
        simp
      · have e4 : fitI c m l s0 s1 s2 s3 i = 0 := if_neg (fun z => e3 ⟨z.1, z.2.1, z.2.2.1⟩)
        rw [if_neg e3, e4]
        simp
    · have e2 : 1 ≤ i - 1 ∧ i - 1 < gm m 121 0 l := by omega
      obtain ⟨⟨t3, t4⟩, -⟩ := r6 (i - 1) (by omega) (by omega)
      obtain ⟨⟨-, -, -, q6, -⟩, -, b6, -⟩ := hD.2.2.1 _ t3 t4
      simp only [if_pos e2, if_neg (show ¬ gm c 26 l (i - 1) = -1 by omega), if_pos hw, if_pos t3, q3, q6, h3, if_pos t1]
      rw [wq (by omega) (by omega)]
      by_cases e3 : s0 ≤ gm m 118 0 (gm c 26 l i) - 2 ∧ s1 ≤ gm m 119 0 (gm c 26 l i) - 1 ∧ s2 ≤ gm m 120 0 (gm c 26 l i)
      · by_cases e5 : s3 ≤ gm m 118 0 (gm c 26 l (i - 1)) + gm m 118 0 (gm c 26 l i)
        · have e4 : fitI c m l s0 s1 s2 s3 i = 1 := if_pos ⟨e3.1, e3.2.1, e3.2.2, Or.inr e5⟩
          rw [if_pos e3, e4, if_neg (show ¬ gm m 118 0 (gm c 26 l (i - 1)) + gm m 118 0 (gm c 26 l i) < s3 by omega)]
          simp
        · have e4 : fitI c m l s0 s1 s2 s3 i = 0 := if_neg (fun z => by
            rcases z.2.2.2 with z | z
            · exact e1 z
            · exact e5 z)
          rw [if_pos e3, e4, if_pos (show gm m 118 0 (gm c 26 l (i - 1)) + gm m 118 0 (gm c 26 l i) < s3 by omega)]
          simp
      · have e4 : fitI c m l s0 s1 s2 s3 i = 0 := if_neg (fun z => e3 ⟨z.1, z.2.1, z.2.2.1⟩)
        rw [if_neg e3, e4]
        simp
def fitv (c m : St) (l s0 s1 s2 s3 : Int) : Int := if 2 ≤ gm m 121 0 l then alF (fitI c m l s0 s1 s2 s3) (gm m 121 0 l - 1).toNat 1 else 0
theorem fitv_01 (c m : St) (l s0 s1 s2 s3 : Int) : fitv c m l s0 s1 s2 s3 = 0 ∨ fitv c m l s0 s1 s2 s3 = 1 := by
  unfold fitv
  split
  · exact alF_01 _ _ _
  · exact Or.inl rfl
theorem ecLets {c m : St} (hD : rlD c m) (hR : rlR c m) {l : Int} (hl : 0 ≤ l ∧ l < 2) {w s0 s1 s2 s3 : Int} (hw : 0 ≤ w) (h0 : gm c 10 w 0 = s0) (h1 : gm c 10 w 1 = s1) (h2 : gm c 10 w 2 = s2) (h3 : gm c 10 w 3 = s3) : FX3_lets l w c = some (0, fitv c m l s0 s1 s2 s3, c) := by
  obtain ⟨⟨r1, r2, r3⟩, -⟩ := hR l hl.1 hl.2
  simp only [FX3_lets, fX3_lets_0, fitv]
  by_cases hc : 2 ≤ gm m 121 0 l
  · rw [if_pos hc]
    exact ecLets_lp hD hR hl hw h0 h1 h2 h3 hc _ 9999 1 (by omega) (by omega) (by omega)
  · rw [if_neg hc]
    simp only [fX3_lets_2, fX3_lets_67, fX3_lets_79, fX3_lets_80, r1, z01, if_true]
    rw [if_neg (by omega), if_neg (by omega)]
    simp
theorem emFit_lp {c m : St} (hD : rlD c m) (hR : rlR c m) {l : Int} (hl : 0 ≤ l ∧ l < 2) {b s0 s1 s2 s3 : Int} (hb : 0 ≤ b ∧ b + 3 < 120) (h0 : gm m 113 0 b = s0) (h1 : gm m 113 0 (b + 1) = s1) (h2 : gm m 113 0 (b + 2) = s2) (h3 : gm m 113 0 (b + 3) = s3) (hc : 2 ≤ gm m 121 0 l) :
    ∀ (d n : Nat) (i is : Int), d < n → 0 ≤ i → i + d = gm m 121 0 l - 1 → (is = 0 ∨ is = 1) → fX12_isFit_34 (kX12_isFit n) 0 l b is i m = some (0, if is = 0 then 0 else alF (fitI c m l s0 s1 s2 s3) d (i + 1), m)
  | 0, n, i, is, hn, hi, hd, his => by
    obtain ⟨⟨r1, r2, r3⟩, -⟩ := hR l hl.1 hl.2
    simp only [fX12_isFit_34, fX12_isFit_184, alF, if_pos hl]
    rw [wq (by omega) (by omega), if_neg (by omega)]
    rcases his with rfl | rfl <;> simp
  | d + 1, n, i, is, hn, hi, hd, his => by
    obtain ⟨n, rfl⟩ : ∃ n', n = n' + 1 := ⟨n - 1, by omega⟩
    obtain ⟨⟨r1, r2, r3⟩, -, -, r6, -⟩ := hR l hl.1 hl.2
    obtain ⟨e1, t1, t2⟩ := emStreetOf hD hR hl hi (show i + 1 < gm m 121 0 l by omega)
    obtain ⟨-, b2, b3, b4, b5, -⟩ := hD.2.2.1 _ t1 t2
    have hs := hD.1.2.2.1
    have ih := fun j hj => emFit_lp hD hR hl hb h0 h1 h2 h3 hc d n (i + 1) j (by omega) (by omega) (by omega) hj
    have ih0 := ih 0 (Or.inl rfl)
    have ih1 := ih 1 (Or.inr rfl)
    have g1 : 0 ≤ b ∧ b < 120 := by omega
    have g2 : 0 ≤ b + 1 ∧ b + 1 < 120 := by omega
    have g3 : 0 ≤ b + 2 ∧ b + 2 < 120 := by omega
    have g4 : 0 ≤ b + 3 ∧ b + 3 < 120 := by omega
    have g5 : 0 ≤ gm c 26 l (i + 1) ∧ gm c 26 l (i + 1) < 16 := by omega
    have v0 : wr (gm m 121 0 l - 1) = gm m 121 0 l - 1 := wq (by omega) (by omega)
    have v1 : wr (b + 1) = b + 1 := wq (by omega) (by omega)
    have v2 : wr (b + 2) = b + 2 := wq (by omega) (by omega)
    have v3 : wr (b + 3) = b + 3 := wq (by omega) (by omega)
    have v4 : wr (i + 1) = i + 1 := wq (by omega) (by omega)
    have v5 : wr (i - 1) = i - 1 := wq (by omega) (by omega)
    have v6 : wr (gm m 118 0 (gm c 26 l (i + 1)) - 2) = gm m 118 0 (gm c 26 l (i + 1)) - 2 := wq (by omega) (by omega)
    have v7 : wr (gm m 119 0 (gm c 26 l (i + 1)) - 1) = gm m 119 0 (gm c 26 l (i + 1)) - 1 := wq (by omega) (by omega)
    have hlt : i < gm m 121 0 l - 1 := by omega
    simp only [fX12_isFit_34, fX12_isFit_124, fX12_isFit_125, fX12_isFit_171, fX12_isFit_175, fX12_isFit_176, alF, if_pos hl, v0, v1, v2, v3, v4, v5, if_pos hlt, e1, bnd_ok, if_pos g1, if_pos g2, if_pos g3, if_pos g4, if_pos g5, v6, v7, h0, h1, h2, h3]
    simp only [uX12_isFit_34, ih0, ih1]
    rcases his with rfl | rfl
    · simp
    · simp only [show ¬ ((1 : Int) = 0) by decide, if_false]
      by_cases e3 : s0 ≤ gm m 118 0 (gm c 26 l (i + 1)) - 2 ∧ s1 ≤ gm m 119 0 (gm c 26 l (i + 1)) - 1 ∧ s2 ≤ gm m 120 0 (gm c 26 l (i + 1))
      · rw [if_neg (by omega), if_neg (by omega), if_neg (by omega)]
        by_cases ei : i = 0
        · have e4 : fitI c m l s0 s1 s2 s3 (i + 1) = 1 := if_pos ⟨e3.1, e3.2.1, e3.2.2, Or.inl (by omega)⟩
          rw [if_pos ei, e4]
          simp
        · obtain ⟨e5, t3, t4⟩ := emStreetOf hD hR hl (show 0 ≤ i - 1 by omega) (show i - 1 + 1 < gm m 121 0 l by omega)
          rw [show i - 1 + 1 = i by omega] at e5 t3 t4
          obtain ⟨-, -, b6, -⟩ := hD.2.2.1 _ t3 t4
          rw [if_neg ei, e5]
          simp only [bnd_ok]
          rw [if_pos (by omega), wq (by omega) (by omega)]
          by_cases e6 : s3 ≤ gm m 118 0 (gm c 26 l i) + gm m 118 0 (gm c 26 l (i + 1))
          · have e4 : fitI c m l s0 s1 s2 s3 (i + 1) = 1 := if_pos ⟨e3.1, e3.2.1, e3.2.2, Or.inr (by rw [show i + 1 - 1 = i by omega]; exact e6)⟩
            rw [if_neg (by omega), e4]
            simp [ih1]
          · have e4 : fitI c m l s0 s1 s2 s3 (i + 1) = 0 := if_neg (fun z => by
              rcases z.2.2.2 with z | z
              · omega
              · rw [show i + 1 - 1 = i by omega] at z; exact e6 z)
            rw [if_pos (by omega), e4]
            simp [ih0]
      · have e4 : fitI c m l s0 s1 s2 s3 (i + 1) = 0 := if_neg (fun z => e3 ⟨z.1, z.2.1, z.2.2.1⟩)
        rw [e4]
        simp only [if_true]
        by_cases c1 : gm m 118 0 (gm c 26 l (i + 1)) - 2 < s0
        · rw [if_pos c1]
        · rw [if_neg c1]
          by_cases c2 : gm m 119 0 (gm c 26 l (i + 1)) - 1 < s1
          · rw [if_pos c2]
          · rw [if_neg c2, if_pos (by omega)]
/-- whether a society's float fits -/
def fitw (c m : St) (p k : Int) : Int := fitv c m (gm m 102 0 p) (gm m 113 0 (12 * p + 4 * k)) (gm m 113 0 (12 * p + 4 * k + 1)) (gm m 113 0 (12 * p + 4 * k + 2)) (gm m 113 0 (12 * p + 4 * k + 3))
theorem emFit {c m : St} (hD : rlD c m) (hR : rlR c m) {p k : Int} (hp : 0 ≤ p ∧ p < 10) (hk : 0 ≤ k ∧ k < 3) (hl : 0 ≤ gm m 102 0 p ∧ gm m 102 0 p < 2) : FX12_isFit 0 p k m = some (0, fitw c m p k, m) := by
  simp only [FX12_isFit, fX12_isFit_0, fX12_isFit_28, fX12_isFit_29, if_pos hp]
  rw [emAt (by omega) (by omega) (by omega) (by omega)]
  simp only [bnd_ok, if_pos hl, fitw, fitv]
  obtain ⟨⟨r1, r2, r3⟩, -⟩ := hR _ hl.1 hl.2
  by_cases hc : 2 ≤ gm m 121 0 (gm m 102 0 p)
  · rw [if_pos (by omega), if_pos hc, emFit_lp hD hR hl (b := 12 * p + 4 * k) (by omega) rfl rfl rfl rfl hc (gm m 121 0 (gm m 102 0 p) - 1).toNat 9999 0 1 (by omega) (by omega) (by omega) (Or.inr rfl)]
    simp
  · rw [if_neg (by omega), if_neg hc]
    simp only [fX12_isFit_34, fX12_isFit_184, if_pos hl]
    rw [wq (by omega) (by omega), if_neg (by omega)]
    simp
theorem rl.fit {t : Int} {c m : St} (h : rl t c m) {p k : Int} (h0 : 0 ≤ p) (h1 : p < gm m 12 0 1) (k0 : 0 ≤ k) (k1 : k < gm m 112 0 p) : FX3_lets (gm m 102 0 p) (gm c 15 p k) c = some (0, fitw c m p k, c) ∧ FX12_isFit 0 p k m = some (0, fitw c m p k, m) := by
  have hn := h.n
  obtain ⟨-, -, -, s5, s6⟩ := h.so h0 h1
  obtain ⟨w1, w2, w3⟩ := h.hW.1 p h0 (by omega)
  obtain ⟨w3, w4⟩ := w3 h1
  obtain ⟨g1, g2⟩ := w4 k k0 k1
  have f0 := (g2 0 (by omega) (by omega)).1
  have f1 := (g2 1 (by omega) (by omega)).1
  have f2 := (g2 2 (by omega) (by omega)).1
  have f3 := (g2 3 (by omega) (by omega)).1
  rw [Int.add_zero] at f0
  exact ⟨ecLets h.hD h.hR s6 g1.1 f0 f1 f2 f3, emFit h.hD h.hR ⟨h0, by omega⟩ ⟨k0, by omega⟩ s6⟩
theorem op_fits {t : Int} {c m : St} (h : rl t c m) (p k : Int) : Step t (cdn 3 9 9) c m (FX11_fits 0 p k c) (FX12_fits 0 p k m) := by
  have hn := h.n
  have isF := emIsFloat (a0 := 0) (a1 := p) (a2 := k) (s := m) hn.1 hn.2 (fun h0 h1 => (h.hW.1 p h0 (by omega)).2.1)
  by_cases hp : 0 ≤ p ∧ p < gm m 12 0 1
  · have hp1 : ¬ p = -1 := by omega
    have hp9 : 0 ≤ p ∧ p < 10 := by omega
    obtain ⟨w1, w2, w3⟩ := h.hW.1 p hp9.1 hp9.2
    obtain ⟨w3, w4⟩ := w3 hp.2
    obtain ⟨-, -, -, s5, s6⟩ := h.so hp.1 hp.2
    have ew := ecWagonAt (a0 := p) (a1 := k) (s := c) (by omega) (by omega)
    rw [w3] at ew
    by_cases hk : 0 ≤ k ∧ k < gm m 112 0 p
    · obtain ⟨g1, g2⟩ := w4 k hk.1 hk.2
      have hg1 : ¬ gm c 15 p k = -1 := by omega
      have hl1 : ¬ gm m 102 0 p = -1 := by omega
      have r1 := (h.fit hp.1 hp.2 hk.1 hk.2).1
      have r2 := ((h.z 0).fit (p := p) (k := k) hp.1 hp.2 hk.1 hk.2).2
      have r3 : fitw c (pm m 12 0 0 0) p k = fitw c m p k := rfl
      rw [r3] at r2
      refine Step.rd h (v := fitw c m p k) ?_ ?_
      · simp only [FX11_fits, fX11_fits_0, fX11_fits_14, fX11_fits_19, fX11_fits_30, fX11_fits_40, fX11_fits_72, fX11_fits_73, h.soc, h.lea, bnd_ok, if_pos hp, if_neg hp1, if_pos hp.1, ew, if_pos hk, if_neg hg1, s5, if_pos s6, if_neg hl1, if_pos s6.1, r1, z01, o01, if_true]
        rcases fitv_01 c m (gm m 102 0 p) (gm m 113 0 (12 * p + 4 * k)) (gm m 113 0 (12 * p + 4 * k + 1)) (gm m 113 0 (12 * p + 4 * k + 2)) (gm m 113 0 (12 * p + 4 * k + 3)) with e | e <;> simp [fitw, e]
      · simp only [FX12_fits, fX12_fits_0, fX12_fits_14, fX12_fits_15, fX12_fits_34, fX12_fits_35, isF, emHolds, bnd_ok, if_pos (And.intro hp hk), r2, z01, o01, if_true]
        rcases fitv_01 c m (gm m 102 0 p) (gm m 113 0 (12 * p + 4 * k)) (gm m 113 0 (12 * p + 4 * k + 1)) (gm m 113 0 (12 * p + 4 * k + 2)) (gm m 113 0 (12 * p + 4 * k + 3)) with e | e <;> simp [fitw, e]
    · refine Step.thr h (o := 3) (v := 0) (x := 0) (k := 1) (by decide) ?_ ?_ rfl
      · simp only [FX11_fits, fX11_fits_0, fX11_fits_14, fX11_fits_19, fX11_fits_30, fX11_fits_40, fX11_fits_72, fX11_fits_73, h.soc, bnd_ok, if_pos hp, if_neg hp1, if_pos hp.1, ew, if_neg hk]
        simp
      · simp only [FX12_fits, fX12_fits_0, fX12_fits_14, fX12_fits_15, fX12_fits_34, fX12_fits_35, isF, emHolds, bnd_ok, if_neg (fun z : (0 ≤ p ∧ p < gm m 12 0 1) ∧ 0 ≤ k ∧ k < gm m 112 0 p => hk z.2), z01, if_true]
        simp
  · refine Step.thr h (o := 3) (v := 0) (x := 0) (k := 1) (by decide) ?_ ?_ rfl
    · simp [FX11_fits, fX11_fits_0, fX11_fits_14, fX11_fits_19, fX11_fits_30, fX11_fits_40, fX11_fits_72, fX11_fits_73, h.soc, bnd_ok, hp]
    · simp only [FX12_fits, fX12_fits_0, fX12_fits_14, fX12_fits_15, fX12_fits_34, fX12_fits_35, isF, emHolds, bnd_ok, if_neg (fun z : (0 ≤ p ∧ p < gm m 12 0 1) ∧ 0 ≤ k ∧ k < gm m 112 0 p => hp z.1), z01, if_true]
      simp
