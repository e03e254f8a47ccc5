/-! Rows of societies: feuds, exchanges. -/
/-- a row of the class and one of the reference hold the same societies -/
def rwc (l e : Int) (c m : St) : Prop := gm c 4 (2 * l) 1 = e ∧ (0 ≤ e ∧ e ≤ 10) ∧ ∀ k : Int, 0 ≤ k → k < e → gm c 27 (2 * l) k = gm m 127 0 (10 * l + k) ∧ (0 ≤ gm m 127 0 (10 * l + k) ∧ gm m 127 0 (10 * l + k) < gm m 12 0 1)
/-- what rows need of the rest -/
def rwf (c m : St) : Prop := (0 ≤ gm m 12 0 1 ∧ gm m 12 0 1 ≤ 10) ∧ (∀ i : Int, 0 ≤ i → i < gm m 12 0 1 → gm c 6 i 0 = i) ∧ rlF c m
theorem rwf.of {t : Int} {c m : St} (h : rl t c m) : rwf c m := ⟨h.n, fun i i0 i1 => (h.so i0 i1).1, h.hF⟩
theorem rwf.kp {T U : List (Nat × Option Int)} {c c' m m' : St} (h : rwf c m) (hc : Kp T c c') (hm : Kp U m m') (hd : (fre T 6 0 && ckF T U) = true) : rwf c' m' := by
  obtain ⟨d1, d2⟩ := and2 hd
  obtain ⟨h1, h2, h3⟩ := h
  have e := d2
  simp only [ckF, Bool.and_eq_true] at e
  have n1 := hm.f e.1.2 0
  refine ⟨by rw [n1]; exact h1, fun i i0 i1 => ?_, h3.kp hc hm d2⟩
  rw [n1] at i1
  rw [hc.f d1 i]
  exact h2 i i0 i1
/-- a feud at a place -/
def fdp (m : St) (l k : Int) : Int := gm m 105 0 (10 * gm m 127 0 (10 * l + k) + gm m 127 0 (10 * l + (k + 1)))
theorem fdp_01 {c m : St} (hf : rwf c m) {l e k : Int} (hr : rwc l e c m) (k0 : 0 ≤ k) (k1 : k + 1 < e) : fdp m l k = 0 ∨ fdp m l k = 1 := by
  obtain ⟨q1, q2⟩ := hr.2.2 k k0 (by omega)
  obtain ⟨q3, q4⟩ := hr.2.2 (k + 1) (by omega) k1
  have := (hf.2.2.1 _ q2.1 q2.2).2 (gm m 127 0 (10 * l + (k + 1))) q4.1 (by have := hf.1; omega)
  unfold fdp
  rw [← this]
  exact bit_01 _ _
theorem ecFeudAt {c m : St} (hf : rwf c m) {l e k : Int} (hr : rwc l e c m) (k0 : 0 ≤ k) (k1 : k + 1 < e) : FX4_isFeudAt (2 * l) k c = some (0, fdp m l k, c) := by
  obtain ⟨h1, h2, h3⟩ := hr
  obtain ⟨q1, q2⟩ := h3 k k0 (by omega)
  obtain ⟨q3, q4⟩ := h3 (k + 1) (by omega) k1
  obtain ⟨f1, f2⟩ := hf.2.2.1 _ q2.1 q2.2
  have f3 := f2 (gm m 127 0 (10 * l + (k + 1))) q4.1 (by have := hf.1; omega)
  have n4 := hf.2.1 _ q4.1 q4.2
  simp only [FX4_isFeudAt, fX4_isFeudAt_0, fX4_isFeudAt_34, fX4_isFeudAt_35, z01, o01, if_true]
  rw [ecAt (by omega) (by omega), h1, if_pos (by omega), q1]
  simp only [bnd_ok]
  rw [wq (by omega) (by omega), ecAt (by omega) (by omega), h1, if_pos (by omega), q3]
  simp only [bnd_ok]
  rw [if_neg (by omega), if_neg (by omega), if_pos q2.1, ecHasFeud q4.1 f1.1 f1.2 (by omega) (by have := hf.1; omega), n4, f3]
  simp only [bnd_ok]
  have e := fdp_01 hf ⟨h1, h2, h3⟩ k0 k1
  have e2 : gm m 105 0 (10 * gm m 127 0 (10 * l + k) + gm m 127 0 (10 * l + (k + 1))) = fdp m l k := rfl
  rw [e2]
  rcases e with e | e <;> simp [e]
theorem emFoes {c m : St} (hf : rwf c m) {l e k : Int} (hl : 0 ≤ l ∧ l < 2) (hr : rwc l e c m) (k0 : 0 ≤ k) (k1 : k + 1 < e) : FX12_areFoes 0 l k m = some (0, fdp m l k, m) := by
  obtain ⟨h1, h2, h3⟩ := id hr
  obtain ⟨q1, q2⟩ := h3 k k0 (by omega)
  obtain ⟨q3, q4⟩ := h3 (k + 1) (by omega) k1
  have hn := hf.1
  have e := fdp_01 hf hr k0 k1
  unfold fdp at e
  have v1 : wr (wr (10 * l) + k) = 10 * l + k := by rw [wq (z := 10 * l) (by omega) (by omega), wq (by omega) (by omega)]
  have v2 : wr (10 * l + k + 1) = 10 * l + (k + 1) := by rw [wq (by omega) (by omega)]; omega
  simp only [FX12_areFoes, fX12_areFoes_0, v1, v2]
  rw [wq (z := 10 * gm m 127 0 (10 * l + k)) (by omega) (by omega), wq (by omega) (by omega), if_pos (by omega), if_pos (by omega), if_pos (by omega), if_pos e]
  rfl
/-- the first feud in a row, or none -/
def ffp (m : St) (l e f : Int) : Prop := (f = -1 ∧ ∀ j : Int, 0 ≤ j → j + 1 < e → fdp m l j = 0) ∨ (0 ≤ f ∧ f + 1 < e ∧ fdp m l f = 1 ∧ ∀ j : Int, 0 ≤ j → j < f → fdp m l j = 0)
theorem ffp_eq {m : St} {l e f f' : Int} (h : ffp m l e f) (h' : ffp m l e f') : f = f' := by
  rcases h with ⟨h1, h2⟩ | ⟨h1, h2, h3, h4⟩ <;> rcases h' with ⟨g1, g2⟩ | ⟨g1, g2, g3, g4⟩
  · rw [h1, g1]
  · have := h2 f' g1 g2; omega
  · have := g2 f h1 h2; omega
  · by_cases c1 : f < f'
    · have := g4 f h1 c1; omega
    · by_cases c2 : f' < f
      · have := h4 f' g1 c2; omega
      · omega
theorem ecFirst_lp {c m : St} (hf : rwf c m) {l e : Int} (hr : rwc l e c m) : ∀ (d n : Nat) (i : Int), d < n → 0 ≤ i → i + d = 10 → (∀ j : Int, 0 ≤ j → j < i → j + 1 < e → fdp m l j = 0) → ∃ f, fX4_firstFeud_2 (kX4_firstFeud n) (2 * l) i c = some (0, f, c) ∧ ffp m l e f
  | 0, n, i, hn, h0, hi, hj => by
    have he := hr.2.1
    refine ⟨-1, ?_, Or.inl ⟨rfl, fun j j0 j1 => hj j j0 (by omega) j1⟩⟩
    simp only [fX4_firstFeud_2, fX4_firstFeud_28, hr.1]
    rw [wq (by omega) (by omega), if_neg (by omega)]
  | d + 1, n, i, hn, h0, hi, hj => by
    obtain ⟨n, rfl⟩ : ∃ n', n = n' + 1 := ⟨n - 1, by omega⟩
    have he := hr.2.1
    simp only [fX4_firstFeud_2, fX4_firstFeud_22, fX4_firstFeud_28, hr.1]
    rw [wq (by omega) (by omega)]
    by_cases hi2 : i + 1 < e
    · rw [if_pos hi2, ecFeudAt hf hr h0 hi2]
      simp only [bnd_ok, uX4_firstFeud_2]
      rcases fdp_01 hf hr h0 hi2 with e1 | e1
      · obtain ⟨f, f1, f2⟩ := ecFirst_lp hf hr d n (i + 1) (by omega) (by omega) (by omega) (fun j j0 j1 j2 => by
          by_cases ej : j = i
          · rw [ej]; exact e1
          · exact hj j j0 (by omega) j2)
        exact ⟨f, by rw [if_pos e1]; exact f1, f2⟩
      · exact ⟨i, by rw [if_neg (by omega)], Or.inr ⟨h0, hi2, e1, fun j j0 j1 => hj j j0 j1 (by omega)⟩⟩
    · exact ⟨-1, by rw [if_neg hi2], Or.inl ⟨rfl, fun j j0 j1 => hj j j0 (by omega) j1⟩⟩
theorem ecFirst {c m : St} (hf : rwf c m) {l e : Int} (hr : rwc l e c m) : ∃ f, FX4_firstFeud (2 * l) c = some (0, f, c) ∧ ffp m l e f := by
  simp only [FX4_firstFeud, fX4_firstFeud_0]
  exact ecFirst_lp hf hr 10 9999 0 (by omega) (by omega) (by omega) (fun j j0 j1 => by omega)
theorem emFirst_lp {c m : St} (hf : rwf c m) {l e : Int} (hl : 0 ≤ l ∧ l < 2) (hr : rwc l e c m) : ∀ (d n : Nat) (k acc : Int), d < n → k + 1 = d → k + 1 < e ∨ k = -1 → ((acc = -1 ∧ ∀ j : Int, k < j → 0 ≤ j → j + 1 < e → fdp m l j = 0) ∨ (k < acc ∧ acc + 1 < e ∧ fdp m l acc = 1 ∧ ∀ j : Int, k < j → j < acc → fdp m l j = 0)) →
    ∃ f, fX12_firstFoes_11 (kX12_firstFoes n) 0 l acc k m = some (0, f, m) ∧ ffp m l e f
  | 0, n, k, acc, hn, hk, hk2, ha => by
    refine ⟨acc, ?_, ?_⟩
    · simp only [fX12_firstFoes_11, fX12_firstFoes_36]
      rw [if_pos (by omega)]
    · rcases ha with ⟨a1, a2⟩ | ⟨a1, a2, a3, a4⟩
      · exact Or.inl ⟨a1, fun j j0 j1 => a2 j (by omega) j0 j1⟩
      · exact Or.inr ⟨by omega, a2, a3, fun j j0 j1 => a4 j (by omega) j1⟩
  | d + 1, n, k, acc, hn, hk, hk2, ha => by
    obtain ⟨n, rfl⟩ : ∃ n', n = n' + 1 := ⟨n - 1, by omega⟩
    have he := hr.2.1
    have k0 : 0 ≤ k := by omega
    have k1 : k + 1 < e := by omega
    simp only [fX12_firstFoes_11, fX12_firstFoes_28, fX12_firstFoes_29]
    rw [if_neg (by omega), emFoes hf hl hr k0 k1]
    simp only [bnd_ok, uX12_firstFoes_11]
    rw [wq (by omega) (by omega)]
    rcases fdp_01 hf hr k0 k1 with e1 | e1
    · obtain ⟨f, f1, f2⟩ := emFirst_lp hf hl hr d n (k + -1) acc (by omega) (by omega) (by omega) (by
        rcases ha with ⟨a1, a2⟩ | ⟨a1, a2, a3, a4⟩
        · refine Or.inl ⟨a1, fun j j0 j1 j2 => ?_⟩
          by_cases ej : j = k
          · rw [ej]; exact e1
          · exact a2 j (by omega) j1 j2
        · refine Or.inr ⟨by omega, a2, a3, fun j j0 j1 => ?_⟩
          by_cases ej : j = k
          · rw [ej]; exact e1
          · exact a4 j (by omega) j1)
      exact ⟨f, by rw [if_pos e1]; exact f1, f2⟩
    · obtain ⟨f, f1, f2⟩ := emFirst_lp hf hl hr d n (k + -1) k (by omega) (by omega) (by omega) (Or.inr ⟨by omega, k1, e1, fun j j0 j1 => by omega⟩)
      exact ⟨f, by rw [if_neg (by omega)]; exact f1, f2⟩
theorem emFirst {c m : St} (hf : rwf c m) {l e : Int} (hl : 0 ≤ l ∧ l < 2) (hr : rwc l e c m) (he : gm m 126 0 l = e) : ∃ f, FX12_firstFoes 0 l m = some (0, f, m) ∧ ffp m l e f := by
  have he2 := hr.2.1
  simp only [FX12_firstFoes, fX12_firstFoes_0, if_pos hl, he]
  rw [wq (by omega) (by omega)]
  by_cases h1 : 2 ≤ e
  · exact emFirst_lp hf hl hr (e - 1).toNat 9999 (e - 2) (-1) (by omega) (by omega) (by omega) (Or.inl ⟨rfl, fun j j0 j1 j2 => by omega⟩)
  · refine ⟨-1, ?_, Or.inl ⟨rfl, fun j j0 j1 => by omega⟩⟩
    simp only [fX12_firstFoes_11, fX12_firstFoes_36]
    rw [if_pos (by omega)]
/-- two places of a row change -/
def cSw (c : St) (r a b : Int) : St := pm (pm c 27 r a (gm c 27 r b)) 27 r b (gm c 27 r a)
def mSw (m : St) (l a b : Int) : St := pm (pm m 127 0 (10 * l + a) (gm m 127 0 (10 * l + b))) 127 0 (10 * l + b) (gm m 127 0 (10 * l + a))
theorem cSw_kp (c : St) (r a b : Int) : Kp [(27, none)] c (cSw c r a b) := Kp.pm (Kp.pm (Kp.rf _ _) (Or.inl (by decide))) (Or.inl (by decide))
theorem mSw_kp (m : St) (l a b : Int) : Kp [(127, none)] m (mSw m l a b) := Kp.pm (Kp.pm (Kp.rf _ _) (Or.inl (by decide))) (Or.inl (by decide))
theorem ecSwap {c : St} {r a b e : Int} (he : gm c 4 r 1 = e) (he2 : 0 ≤ e ∧ e ≤ 10) (ha : 0 ≤ a ∧ a < e) (hb : 0 ≤ b ∧ b < e) (h1 : 0 ≤ gm c 27 r a) (h2 : 0 ≤ gm c 27 r b) : FX4_swap r a b c = some (0, 0, cSw c r a b) := by
  have hr : 0 ≤ a ∧ a < 10 := by omega
  have hr2 : 0 ≤ b ∧ b < 10 := by omega
  simp only [FX4_swap, fX4_swap_0, fX4_swap_37]
  rw [ecAt (by omega) (by omega), he, if_pos ha]
  simp only [bnd_ok]
  rw [ecAt (by omega) (by omega), he, if_pos hb]
  simp only [bnd_ok]
  rw [if_neg (by omega), if_neg (by omega), if_pos hr, if_pos hr2]
  rfl
theorem ecSwap0 {c : St} {r a b e : Int} (he : gm c 4 r 1 = e) (he2 : 0 ≤ e ∧ e ≤ 10) (hb : ¬ (0 ≤ b ∧ b < e)) : FX4_swap r a b c = some (0, 0, c) := by
  simp only [FX4_swap, fX4_swap_0, fX4_swap_37]
  rw [ecAt (by omega) (by omega), he]
  simp only [bnd_ok]
  rw [ecAt (by omega) (by omega), he, if_neg hb]
  simp [bnd_ok]
theorem emSwaps {m : St} {l a b : Int} (hl : 0 ≤ l ∧ l < 2) (ha : 0 ≤ a ∧ a < 10) (hb : 0 ≤ b ∧ b < 10) : FX12_swaps 0 l a b m = some (0, 0, mSw m l a b) := by
  simp only [FX12_swaps, fX12_swaps_0]
  rw [wq (z := 10 * l) (by omega) (by omega), wq (z := 10 * l + a) (by omega) (by omega), wq (z := 10 * l + b) (by omega) (by omega), if_pos (by omega), if_pos (by omega), if_pos (by omega), if_pos (by omega)]
  rfl
theorem cSw_at (c : St) (r a b n k : Int) : gm (cSw c r a b) 27 n k = if n = r ∧ k = b then gm c 27 r a else if n = r ∧ k = a then gm c 27 r b else gm c 27 n k := by
  simp only [cSw, gm_pm]
  simp
theorem mSw_at (m : St) (l a b j : Int) : gm (mSw m l a b) 127 0 j = if j = 10 * l + b then gm m 127 0 (10 * l + a) else if j = 10 * l + a then gm m 127 0 (10 * l + b) else gm m 127 0 j := by
  simp only [mSw, gm_pm]
  simp
theorem rwc.sw {c m : St} {l e a b : Int} (h : rwc l e c m) (ha : 0 ≤ a ∧ a < e) (hb : 0 ≤ b ∧ b < e) : rwc l e (cSw c (2 * l) a b) (mSw m l a b) := by
  obtain ⟨h1, h2, h3⟩ := h
  have n1 : gm (mSw m l a b) 12 0 1 = gm m 12 0 1 := (mSw_kp m l a b).f (by decide) 0
  refine ⟨by rw [(cSw_kp c (2 * l) a b).f (by decide)]; exact h1, h2, fun k k0 k1 => ?_⟩
  rw [n1]
  have p1 : gm (cSw c (2 * l) a b) 27 (2 * l) k = if k = b then gm c 27 (2 * l) a else if k = a then gm c 27 (2 * l) b else gm c 27 (2 * l) k := by
    rw [cSw_at]; simp only [true_and]
  have p2 : gm (mSw m l a b) 127 0 (10 * l + k) = if k = b then gm m 127 0 (10 * l + a) else if k = a then gm m 127 0 (10 * l + b) else gm m 127 0 (10 * l + k) := by
    rw [mSw_at]
    by_cases e1 : k = b
    · rw [if_pos e1, if_pos (by omega)]
    · rw [if_neg e1, if_neg (by omega)]
      by_cases e2 : k = a
      · rw [if_pos e2, if_pos (by omega)]
      · rw [if_neg e2, if_neg (by omega)]
  rw [p1, p2]
  by_cases e1 : k = b
  · rw [if_pos e1, if_pos e1]; exact h3 a ha.1 ha.2
  · rw [if_neg e1, if_neg e1]
    by_cases e2 : k = a
    · rw [if_pos e2, if_pos e2]; exact h3 b hb.1 hb.2
    · rw [if_neg e2, if_neg e2]; exact h3 k k0 k1
/-- who is in a row -/
def mem (m : St) (l e q : Int) : Prop := ∃ k : Int, 0 ≤ k ∧ k < e ∧ gm m 127 0 (10 * l + k) = q
def dis (m : St) (l e : Int) : Prop := ∀ k k' : Int, 0 ≤ k → k < e → 0 ≤ k' → k' < e → gm m 127 0 (10 * l + k) = gm m 127 0 (10 * l + k') → k = k'
theorem mSw_in {m : St} {l e a b : Int} (ha : 0 ≤ a ∧ a < e) (hb : 0 ≤ b ∧ b < e) (k : Int) (k0 : 0 ≤ k) (k1 : k < e) : ∃ k', (0 ≤ k' ∧ k' < e) ∧ gm (mSw m l a b) 127 0 (10 * l + k) = gm m 127 0 (10 * l + k') ∧ k' = (if k = b then a else if k = a then b else k) := by
  rw [mSw_at]
  by_cases e1 : k = b
  · exact ⟨a, ha, by rw [if_pos (by omega)], by rw [if_pos e1]⟩
  · by_cases e2 : k = a
    · exact ⟨b, hb, by rw [if_neg (by omega), if_pos (by omega)], by rw [if_neg e1, if_pos e2]⟩
    · exact ⟨k, ⟨k0, k1⟩, by rw [if_neg (by omega), if_neg (by omega)], by rw [if_neg e1, if_neg e2]⟩
theorem mem.sw {m : St} {l e a b q : Int} (ha : 0 ≤ a ∧ a < e) (hb : 0 ≤ b ∧ b < e) : mem (mSw m l a b) l e q ↔ mem m l e q := by
  constructor
  · rintro ⟨k, k0, k1, k2⟩
    obtain ⟨k', h1, h2, -⟩ := mSw_in (m := m) (l := l) ha hb k k0 k1
    exact ⟨k', h1.1, h1.2, by rw [← h2]; exact k2⟩
  · rintro ⟨k, k0, k1, k2⟩
    refine ⟨if k = b then a else if k = a then b else k, by split; (· omega); (split <;> omega), by split; (· omega); (split <;> omega), ?_⟩
    rw [mSw_at]
    by_cases e1 : k = b
    · rw [if_pos e1]
      by_cases e3 : a = b
      · rw [if_pos (by omega), ← k2, e1, e3]
      · rw [if_neg (by omega), if_pos rfl, ← e1]; exact k2
    · rw [if_neg e1]
      by_cases e2 : k = a
      · rw [if_pos e2, if_pos rfl, ← e2]; exact k2
      · rw [if_neg e2, if_neg (by omega), if_neg (by omega)]; exact k2
theorem dis.sw {m : St} {l e a b : Int} (ha : 0 ≤ a ∧ a < e) (hb : 0 ≤ b ∧ b < e) (h : dis m l e) : dis (mSw m l a b) l e := by
  intro k k' k0 k1 k2 k3 hk
  obtain ⟨i, h1, h2, h3⟩ := mSw_in (m := m) (l := l) ha hb k k0 k1
  obtain ⟨i', g1, g2, g3⟩ := mSw_in (m := m) (l := l) ha hb k' k2 k3
  rw [h2, g2] at hk
  have := h i i' h1.1 h1.2 g1.1 g1.2 hk
  rw [h3, g3] at this
  split at this <;> split at this <;> (try split at this) <;> (try split at this) <;> omega
