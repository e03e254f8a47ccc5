/-! Places in the order change. -/
theorem op_order {t : Int} {c m : St} (h : rl t c m) (l k : Int) : Step t (cdn 3 1 9) c m (FX11_order 0 l k c) (FX12_order 0 l k m) := by
  have hn := h.n
  by_cases hk : k < 0
  · refine Step.thr h (o := 3) (v := 0) (x := 0) (k := 1) (by decide) ?_ ?_ rfl
    · simp only [FX11_order, fX11_order_0, fX11_order_15, fX11_order_35, if_pos hk]
    · simp only [FX12_order, fX12_order_0, fX12_order_9, fX12_order_20, fX12_order_21, fX12_order_29, fX12_order_53, fX12_order_54, if_pos hk, emHolds, bnd_ok]
      simp
  · by_cases hl : 0 ≤ l ∧ l < 2
    · have hl1 : ¬ l = -1 := by omega
      obtain ⟨⟨b1, b2, b3⟩, -, b4, -⟩ := h.hO.2 l hl.1 hl.2
      have ea := ecAt (a0 := 2 * l) (a1 := k) (s := c) (by omega) (by omega)
      rw [b1] at ea
      by_cases hk2 : k < gm m 126 0 l
      · obtain ⟨d1, d2, -⟩ := b4 k (by omega) hk2
        have hs := (h.so d2.1 d2.2).1
        have hx : ¬ gm c 27 (2 * l) k = -1 := by omega
        refine Step.rd h (v := gm m 127 0 (10 * l + k)) ?_ ?_
        · rw [if_pos (by omega), d1] at ea
          rw [d1] at hx
          simp only [FX11_order, fX11_order_0, fX11_order_15, fX11_order_35, FX4_numberAt, fX4_numberAt_0, fX4_numberAt_14, fX4_numberAt_18, if_neg hk, h.lea, if_pos hl, bnd_ok, if_neg hl1, if_pos hl.1, ea, if_neg hx, if_pos d2.1, hs]
        · have w : wr (wr (10 * l) + k) = 10 * l + k := by rw [wq (z := 10 * l) (by omega) (by omega), wq (by omega) (by omega)]
          have hr : 0 ≤ 10 * l + k ∧ 10 * l + k < 20 := by omega
          simp only [FX12_order, fX12_order_0, fX12_order_9, fX12_order_20, fX12_order_21, fX12_order_29, fX12_order_53, fX12_order_54, if_neg hk, emIsLeague, emHolds, bnd_ok, if_pos hl, w]
          simp [gm_pm, hk2, hr]
      · refine Step.rd h (v := -1) ?_ ?_
        · rw [if_neg (by omega)] at ea
          simp only [FX11_order, fX11_order_0, fX11_order_15, fX11_order_35, FX4_numberAt, fX4_numberAt_0, fX4_numberAt_14, fX4_numberAt_18, if_neg hk, h.lea, if_pos hl, bnd_ok, if_neg hl1, if_pos hl.1, ea, if_true]
        · simp only [FX12_order, fX12_order_0, fX12_order_9, fX12_order_20, fX12_order_21, fX12_order_29, fX12_order_53, fX12_order_54, if_neg hk, emIsLeague, emHolds, bnd_ok, if_pos hl]
          simp [gm_pm, hk2]
    · refine Step.thr h (o := 1) (v := 0) (x := 0) (k := 2) (by decide) ?_ ?_ rfl
      · simp only [FX11_order, fX11_order_0, fX11_order_15, fX11_order_35, if_neg hk, h.lea, if_neg hl, bnd_ok]
        simp
      · simp only [FX12_order, fX12_order_0, fX12_order_9, fX12_order_20, fX12_order_21, fX12_order_29, fX12_order_53, fX12_order_54, if_neg hk, emIsLeague, emHolds, bnd_ok, if_neg hl]
        simp
def sg (a b i : Int) : Int := if i = a then b else if i = b then a else i
theorem sg_in {a b i e : Int} (ha : 0 ≤ a ∧ a < e) (hb : 0 ≤ b ∧ b < e) (hi : 0 ≤ i ∧ i < e) : 0 ≤ sg a b i ∧ sg a b i < e := by
  unfold sg
  split
  · omega
  · split <;> omega
theorem ecBefore (i a b : Int) (s : St) : FX4_placeBefore i a b s = some (0, sg a b i, s) := by
  simp only [FX4_placeBefore, fX4_placeBefore_0, fX4_placeBefore_7, fX4_placeBefore_16, fX4_placeBefore_17, sg]
  split
  · rfl
  · split <;> rfl
theorem St_ext {s s' : St} (h : ∀ k n j, gm s k n j = gm s' k n j) (h2 : s.2 = s'.2) : s = s' := Prod.ext (funext fun k => funext fun n => funext fun j => h k n j) h2
theorem cSw2 (c : St) (r a b : Int) : cSw (cSw c r a b) r a b = c := by
  refine St_ext (fun k n j => ?_) rfl
  by_cases e : k = 27
  · subst e
    rw [cSw_at, cSw_at, cSw_at, cSw_at]
    by_cases e1 : n = r
    · subst e1
      by_cases e2 : j = b
      · subst e2
        simp
        intro h9; rw [h9]
      · by_cases e3 : j = a
        · subst e3
          simp [e2]
        · simp [e2, e3]
    · simp [e1]
  · rw [(cSw_kp (cSw c r a b) r a b) k n j (by rintro ⟨q, hq, e1, -⟩; simp at hq; subst hq; exact e e1.symm), (cSw_kp c r a b) k n j (by rintro ⟨q, hq, e1, -⟩; simp at hq; subst hq; exact e e1.symm)]
/-- where a society of a row stands -/
theorem ecPlaceOf_lp {c m : St} {l e q k : Int} (hr : rwc l e c m) (hd : dis m l e) (hk : 0 ≤ k ∧ k < e) (hq : gm m 127 0 (10 * l + k) = q) : ∀ (d n : Nat) (i : Int), d < n → 0 ≤ i → i + d = k → fX4_placeOf_2 (kX4_placeOf n) (2 * l) q i c = some (0, k, c)
  | 0, n, i, hn, h0, hi => by
    obtain ⟨h1, h2, h3⟩ := hr
    have e1 : i = k := by omega
    subst e1
    simp only [fX4_placeOf_2, h1]
    rw [if_pos hk.2, ecAt (by omega) (by omega), h1, if_pos hk]
    simp only [bnd_ok]
    rw [if_pos (by rw [(h3 i hk.1 hk.2).1, hq])]
  | d + 1, n, i, hn, h0, hi => by
    obtain ⟨n, rfl⟩ : ∃ n', n = n' + 1 := ⟨n - 1, by omega⟩
    have L := ecPlaceOf_lp hr hd hk hq d n (i + 1) (by omega) (by omega) (by omega)
    obtain ⟨h1, h2, h3⟩ := hr
    simp only [fX4_placeOf_2, fX4_placeOf_21, h1]
    rw [if_pos (by omega), ecAt (by omega) (by omega), h1, if_pos (by omega)]
    simp only [bnd_ok]
    rw [if_neg (fun w => by
      rw [(h3 i h0 (by omega)).1, ← hq] at w
      have := hd i k h0 (by omega) hk.1 hk.2 w
      omega), uX4_placeOf_2, wq (by omega) (by omega)]
    exact L
theorem emPlaceIn_lp {m : St} {l e q k : Int} (hl : 0 ≤ l ∧ l < 2) (he : gm m 126 0 l = e) (he2 : e ≤ 10) (hd : dis m l e) (hk : 0 ≤ k ∧ k < e) (hq : gm m 127 0 (10 * l + k) = q) : ∀ (d n : Nat) (i acc : Int), d < n → 0 ≤ i → i + d = e → (i ≤ k ∨ acc = k) → fX12_placeIn_12 (kX12_placeIn n) 0 q l acc i m = some (0, k, m)
  | 0, n, i, acc, hn, h0, hi, ha => by
    have e1 : acc = k := by omega
    subst e1
    simp only [fX12_placeIn_12, fX12_placeIn_52, he]
    rw [if_pos hl, if_neg (by omega)]
  | d + 1, n, i, acc, hn, h0, hi, ha => by
    obtain ⟨n, rfl⟩ : ∃ n', n = n' + 1 := ⟨n - 1, by omega⟩
    have w : wr (wr (10 * l) + i) = 10 * l + i := by rw [wq (z := 10 * l) (by omega) (by omega), wq (by omega) (by omega)]
    simp only [fX12_placeIn_12, fX12_placeIn_44, fX12_placeIn_45, he, w]
    rw [if_pos hl, if_pos (by omega), if_pos (by omega), wq (by omega) (by omega)]
    by_cases e1 : i = k
    · subst e1
      rw [if_pos hq, uX12_placeIn_12]
      exact emPlaceIn_lp hl he he2 hd hk hq d n (i + 1) i (by omega) (by omega) (by omega) (Or.inr rfl)
    · rw [if_neg (fun z => e1 (hd i k h0 (by omega) hk.1 hk.2 (by rw [z, hq]))), uX12_placeIn_12]
      exact emPlaceIn_lp hl he he2 hd hk hq d n (i + 1) acc (by omega) (by omega) (by omega) (by omega)
theorem emPlaceIn {m : St} {l e q k : Int} (hl : 0 ≤ l ∧ l < 2) (he : gm m 126 0 l = e) (he2 : e ≤ 10) (hd : dis m l e) (hk : 0 ≤ k ∧ k < e) (hq : gm m 127 0 (10 * l + k) = q) (q0 : 0 ≤ q ∧ q < 10) (q1 : gm m 102 0 q = l) : FX12_placeIn 0 q m = some (0, k, m) := by
  simp only [FX12_placeIn, fX12_placeIn_0, if_pos q0, q1]
  exact emPlaceIn_lp hl he he2 hd hk hq e.toNat 9999 0 (-1) (by omega) (by omega) (by omega) (by omega)
theorem emNeigh {m : St} {l e q k q' k' : Int} (hl : 0 ≤ l ∧ l < 2) (he : gm m 126 0 l = e) (he2 : e ≤ 10) (hd : dis m l e) (hk : 0 ≤ k ∧ k < e) (hq : gm m 127 0 (10 * l + k) = q) (q0 : 0 ≤ q ∧ q < 10) (q1 : gm m 102 0 q = l) (hk' : 0 ≤ k' ∧ k' < e) (hq' : gm m 127 0 (10 * l + k') = q') (q0' : 0 ≤ q' ∧ q' < 10) (q1' : gm m 102 0 q' = l) :
    FX12_areNeighbours 0 q q' m = some (0, if k - k' = 1 ∨ k - k' = -1 then 1 else 0, m) := by
  simp only [FX12_areNeighbours, fX12_areNeighbours_0, fX12_areNeighbours_25, fX12_areNeighbours_29, fX12_areNeighbours_30, emPlaceIn hl he he2 hd hk hq q0 q1, emPlaceIn hl he he2 hd hk' hq' q0' q1', bnd_ok]
  rw [wq (by omega) (by omega)]
  by_cases c1 : k - k' = 1
  · simp [c1]
  · by_cases c2 : k - k' = -1
    · simp [c2]
    · simp [c1, c2]
/-- a new feud -/
abbrev bad (m : St) (l a b i : Int) : Prop := gm m 105 0 (10 * gm m 127 0 (10 * l + sg a b i) + gm m 127 0 (10 * l + sg a b (i + 1))) ≠ 0 ∧ ¬ (sg a b i - sg a b (i + 1) = 1 ∨ sg a b i - sg a b (i + 1) = -1)
def chH (l e a b : Int) (c m : St) : Prop := (0 ≤ l ∧ l < 2) ∧ rwf c m ∧ rwc l e c m ∧ dis m l e ∧ gm m 126 0 l = e ∧ (∀ k : Int, 0 ≤ k → k < e → gm m 102 0 (gm m 127 0 (10 * l + k)) = l) ∧ (0 ≤ a ∧ a < e) ∧ (0 ≤ b ∧ b < e) ∧ a ≠ b
theorem emCh_st {c m : St} {l e a b : Int} (H : chH l e a b c m) (n : Nat) (i fl : Int) (h0 : 0 ≤ i) (h1 : i + 1 < e) (hf : fl = 0 ∨ fl = 1) : fX12_change_144 (kX12_change (n + 1)) 0 l a b fl i m = fX12_change_144 (kX12_change n) 0 l a b (if fl = 1 ∧ ¬ bad m l a b i then 1 else 0) (i + 1) m := by
  obtain ⟨hl, hw, hr, hd, he, hx, ha, hb, hab⟩ := H
  have he2 := hr.2.1
  have hN := hw.1
  have s1 := sg_in ha hb ⟨h0, show i < e by omega⟩
  have s2 := sg_in ha hb ⟨show 0 ≤ i + 1 by omega, h1⟩
  obtain ⟨-, y1⟩ := hr.2.2 _ s1.1 s1.2
  obtain ⟨-, y2⟩ := hr.2.2 _ s2.1 s2.2
  have w1 : wr (10 * l) = 10 * l := wq (by omega) (by omega)
  have w2 : wr (i + 1) = i + 1 := wq (by omega) (by omega)
  have w3 : wr (e - 1) = e - 1 := wq (by omega) (by omega)
  have w4 : ∀ z : Int, 0 ≤ z → z < e → wr (10 * l + z) = 10 * l + z := fun z z0 z1 => wq (by omega) (by omega)
  have A : fX12_change_144 (kX12_change (n + 1)) 0 l a b fl i m = fX12_change_193 (kX12_change (n + 1)) 0 l a b fl i (sg a b i) (10 * l) 0 m := by
    simp only [fX12_change_144, fX12_change_179, fX12_change_191, he, w1, w3, sg]
    rw [if_pos hl, if_pos (by omega)]
    split
    · rfl
    · split <;> rfl
  have B : fX12_change_193 (kX12_change (n + 1)) 0 l a b fl i (sg a b i) (10 * l) 0 m = fX12_change_238 (kX12_change (n + 1)) 0 l a b fl i (gm m 127 0 (10 * l + sg a b i)) (sg a b (i + 1)) (10 * l) 0 m := by
    simp only [fX12_change_193, fX12_change_220, fX12_change_234, w1, w2, w4 _ s1.1 s1.2]
    rw [if_pos (by omega)]
    unfold sg
    split
    · rfl
    · split <;> rfl
  rw [A, B]
  have w5 : wr (10 * gm m 127 0 (10 * l + sg a b i)) = 10 * gm m 127 0 (10 * l + sg a b i) := wq (by omega) (by omega)
  have w6 : wr (10 * gm m 127 0 (10 * l + sg a b i) + gm m 127 0 (10 * l + sg a b (i + 1))) = 10 * gm m 127 0 (10 * l + sg a b i) + gm m 127 0 (10 * l + sg a b (i + 1)) := wq (by omega) (by omega)
  simp only [fX12_change_238, fX12_change_276, fX12_change_280, fX12_change_281, w2, w4 _ s2.1 s2.2, w5, w6]
  rw [if_pos (by omega)]
  rcases hf with hf | hf
  · rw [if_pos hf, if_neg (by omega), uX12_change_144]
  · rw [if_neg (by omega), if_pos (by omega)]
    unfold bad
    by_cases c1 : gm m 105 0 (10 * gm m 127 0 (10 * l + sg a b i) + gm m 127 0 (10 * l + sg a b (i + 1))) = 0
    · rw [if_pos c1, if_pos ⟨hf, fun z => z.1 c1⟩, uX12_change_144]
    · rw [if_neg c1, emNeigh hl he he2.2 hd s1 rfl (by omega) (hx _ s1.1 s1.2) s2 rfl (by omega) (hx _ s2.1 s2.2)]
      simp only [bnd_ok]
      by_cases c2 : sg a b i - sg a b (i + 1) = 1 ∨ sg a b i - sg a b (i + 1) = -1
      · rw [if_pos c2, if_neg (by omega), if_pos ⟨hf, fun z => z.2 c2⟩, uX12_change_144]
      · rw [if_neg c2, if_pos rfl, if_neg (fun z => z.2 ⟨c1, c2⟩), uX12_change_144]
theorem emCh_0 {c m : St} {l e a b : Int} (H : chH l e a b c m) : ∀ (d n : Nat) (i : Int), d < n → 0 ≤ i → i + d = e - 1 → fX12_change_144 (kX12_change n) 0 l a b 0 i m = some (0, 0, m)
  | 0, n, i, hn, h0, hi => by
    have he2 := H.2.2.1.2.1
    simp only [fX12_change_144, fX12_change_289, fX12_change_304, H.2.2.2.2.1, z01, o01, if_true]
    rw [if_pos H.1, wq (by omega) (by omega), if_neg (by omega)]
    simp
  | d + 1, n, i, hn, h0, hi => by
    obtain ⟨n, rfl⟩ : ∃ n', n = n' + 1 := ⟨n - 1, by omega⟩
    rw [emCh_st H n i 0 h0 (by omega) (Or.inl rfl), if_neg (by omega)]
    exact emCh_0 H d n (i + 1) (by omega) (by omega) (by omega)
theorem chg_lp {c m : St} {l e a b : Int} (H : chH l e a b c m) : ∀ (d n n2 : Nat) (i : Int), d < n → d < n2 → 0 ≤ i → i + d = e - 1 →
    ∃ v : Int, (v = 0 ∨ v = 1) ∧ fX4_changePlaces_23 (kX4_changePlaces n) (2 * l) a b i (cSw c (2 * l) a b) = some (0, v, if v = 1 then cSw c (2 * l) a b else c) ∧ fX12_change_144 (kX12_change n2) 0 l a b 1 i m = some (0, v, if v = 1 then mSw m l a b else m)
  | 0, n, n2, i, hn, hn2, h0, hi => by
    obtain ⟨hl, hw, hr, hd, he, hx, ha, hb, hab⟩ := id H
    have he2 := hr.2.1
    have hr2 := hr.sw ha hb
    refine ⟨1, Or.inr rfl, ?_, ?_⟩
    · simp only [fX4_changePlaces_23, fX4_changePlaces_92, hr2.1]
      rw [wq (by omega) (by omega), if_neg (by omega)]
      simp
    · simp only [fX12_change_144, fX12_change_289, fX12_change_304, he]
      rw [if_pos hl, wq (by omega) (by omega), if_neg (by omega), emSwaps hl (by omega) (by omega)]
      simp [bnd_ok]
  | d + 1, n, n2, i, hn, hn2, h0, hi => by
    obtain ⟨n, rfl⟩ : ∃ n', n = n' + 1 := ⟨n - 1, by omega⟩
    obtain ⟨n2, rfl⟩ : ∃ n', n2 = n' + 1 := ⟨n2 - 1, by omega⟩
    obtain ⟨hl, hw, hr, hd, he, hx, ha, hb, hab⟩ := id H
    have he2 := hr.2.1
    have hr2 := hr.sw ha hb
    have s1 := sg_in ha hb ⟨h0, show i < e by omega⟩
    have s2 := sg_in ha hb ⟨show 0 ≤ i + 1 by omega, show i + 1 < e by omega⟩
    have hw2 : rwf (cSw c (2 * l) a b) (mSw m l a b) := hw.kp (cSw_kp c (2 * l) a b) (mSw_kp m l a b) (by decide)
    have w2 : wr (i + 1) = i + 1 := wq (by omega) (by omega)
    have w3 : wr (sg a b i - sg a b (i + 1)) = sg a b i - sg a b (i + 1) := wq (by omega) (by omega)
    have x1 : ∀ z : Int, gm (mSw m l a b) 127 0 (10 * l + z) = gm m 127 0 (10 * l + sg a b z) := fun z => by
      rw [mSw_at]
      unfold sg
      by_cases c1 : z = b
      · rw [if_pos (by omega), if_neg (by omega), if_pos c1]
      · rw [if_neg (by omega)]
        by_cases c2 : z = a
        · rw [if_pos (by omega), if_pos c2]
        · rw [if_neg (by omega), if_neg c2, if_neg c1]
    have ef := ecFeudAt hw2 hr2 h0 (show i + 1 < e by omega)
    have e01 := fdp_01 hw2 hr2 h0 (show i + 1 < e by omega)
    have fv : fdp (mSw m l a b) l i = gm m 105 0 (10 * gm m 127 0 (10 * l + sg a b i) + gm m 127 0 (10 * l + sg a b (i + 1))) := by
      unfold fdp
      rw [x1, x1, (mSw_kp m l a b).k (by decide)]
    rw [fv] at ef e01
    by_cases hbad : bad m l a b i
    · refine ⟨0, Or.inl rfl, ?_, ?_⟩
      · obtain ⟨g1, g2⟩ := hbad
        have p1 := hr2.2.2 a ha.1 ha.2
        have p2 := hr2.2.2 b hb.1 hb.2
        simp only [fX4_changePlaces_23, fX4_changePlaces_86, hr2.1, w2, ecBefore, bnd_ok, ef, w3, ecAbs (show -1000000 ≤ sg a b i - sg a b (i + 1) by omega) (show sg a b i - sg a b (i + 1) ≤ 1000000 by omega)]
        rw [if_pos (by omega), if_neg g1, if_neg (by omega), ecSwap hr2.1 he2 ha hb (by omega) (by omega), cSw2]
        simp [bnd_ok]
      · rw [emCh_st H n2 i 1 h0 (by omega) (Or.inr rfl), if_neg (fun z => z.2 hbad), emCh_0 H d n2 (i + 1) (by omega) (by omega) (by omega)]
        simp
    · obtain ⟨v, v1, v2, v3⟩ := chg_lp H d n n2 (i + 1) (by omega) (by omega) (by omega) (by omega)
      refine ⟨v, v1, ?_, ?_⟩
      · simp only [fX4_changePlaces_23, fX4_changePlaces_86, hr2.1, w2, ecBefore, bnd_ok, ef, w3, ecAbs (show -1000000 ≤ sg a b i - sg a b (i + 1) by omega) (show sg a b i - sg a b (i + 1) ≤ 1000000 by omega)]
        rw [if_pos (by omega), uX4_changePlaces_23]
        rcases e01 with e01 | e01
        · rw [if_pos e01]; exact v2
        · have : sg a b i - sg a b (i + 1) = 1 ∨ sg a b i - sg a b (i + 1) = -1 := Decidable.byContradiction fun z => hbad ⟨by omega, z⟩
          rw [if_neg (by omega), if_pos (by omega)]; exact v2
      · rw [emCh_st H n2 i 1 h0 (by omega) (Or.inr rfl), if_pos ⟨rfl, hbad⟩]
        exact v3
