/-! Songs. -/
def lfB : Bool := (List.range 64).all fun n => (List.range 7).all fun c => !((List.range 10).all fun k => decide (k < c) || decide (bit (n : Int) (k : Int) = 0)) ||
  (decide (sm (fun k => if bit (n : Int) k = 0 then 1 else 0) c 0 = (c : Int) - pc (n : Int)) && ((List.range c).all fun k => decide (bit (n : Int) (k : Int) = 1) || decide (1 ≤ (c : Int) - pc (n : Int))) &&
    (decide ((c : Int) - pc (n : Int) ≤ 0) || (List.range c).any fun k => decide (bit (n : Int) (k : Int) = 0)))
theorem lfB_t : lfB = true := by decide +kernel
theorem lf_at {v c : Int} (h0 : 0 ≤ v) (h1 : v < 64) (c0 : 0 ≤ c) (c1 : c ≤ 6) (hb : ∀ k : Int, 0 ≤ k → k < 10 → c ≤ k → bit v k = 0) :
    sm (fun k => if bit v k = 0 then 1 else 0) c.toNat 0 = c - pc v ∧ (∀ k : Int, 0 ≤ k → k < c → bit v k = 0 → 1 ≤ c - pc v) ∧ (1 ≤ c - pc v → ∃ k : Int, 0 ≤ k ∧ k < c ∧ bit v k = 0) := by
  have h := all_lt2 lfB_t (v := v) (w := c) h0 (by omega) c0 (by omega)
  have e : ((v.toNat : Nat) : Int) = v := by omega
  have e2 : ((c.toNat : Nat) : Int) = c := by omega
  simp only [e, e2] at h
  have hp : ((List.range 10).all fun k => decide (k < c.toNat) || decide (bit v (k : Int) = 0)) = true := by
    apply List.all_eq_true.mpr
    intro k hk
    have hk := List.mem_range.mp hk
    by_cases e9 : k < c.toNat
    · simp [e9]
    · simp [hb k (by omega) (by omega) (by omega)]
  rw [hp] at h
  simp only [Bool.not_true, Bool.false_or, Bool.and_eq_true, Bool.or_eq_true, decide_eq_true_eq] at h
  obtain ⟨⟨a, b⟩, d⟩ := h
  refine ⟨a, fun k k0 k1 hz => ?_, fun hc => ?_⟩
  · have h9 := List.all_eq_true.mp b k.toNat (List.mem_range.mpr (by omega))
    have e3 : ((k.toNat : Nat) : Int) = k := by omega
    simp only [e3, Bool.or_eq_true, decide_eq_true_eq] at h9
    omega
  · rcases d with d | d
    · omega
    · obtain ⟨k, hk, hz⟩ := List.any_eq_true.mp d
      have hk := List.mem_range.mp hk
      exact ⟨k, by omega, by omega, of_decide_eq_true hz⟩
def o6B : Bool := (List.range 64).all fun n => (List.range 6).all fun j => decide (iorN (n : Int) (ishlN 1 (j : Int)) < 64)
theorem o6B_t : o6B = true := by decide +kernel
theorem ior_64 {v j : Int} (h0 : 0 ≤ v) (h1 : v < 64) (h2 : 0 ≤ j) (h3 : j < 6) : ior v (ishl 1 j) < 64 := by
  have h := all_lt2 o6B_t (v := v) (w := j) h0 (by omega) h2 (by omega)
  have e : ((v.toNat : Nat) : Int) = v := by omega
  have e2 : ((j.toNat : Nat) : Int) = j := by omega
  simp only [e, e2, decide_eq_true_eq] at h
  rw [ior_eq, ishl_eq]
  exact h
theorem ecLeft_lp {v c a0 : Int} {s : St} (hc : gm s 7 a0 2 = c) (c0 : 0 ≤ c) (c1 : c ≤ 6) (hs : ∀ k : Int, 0 ≤ k → k < c → gm s 17 a0 k = bit v k) : ∀ (d n : Nat) (i acc : Int), d < n → 0 ≤ i → i + d = c → 0 ≤ acc → acc ≤ i → fX7_left_4 (kX7_left n) a0 acc i s = some (0, acc + sm (fun k => if bit v k = 0 then 1 else 0) d i, s)
  | 0, n, i, acc, hn, h0, hi, b1, b2 => by
    simp only [fX7_left_4, fX7_left_34, hc, sm]
    rw [if_neg (by omega), Int.add_zero]
  | d + 1, n, i, acc, hn, h0, hi, b1, b2 => by
    obtain ⟨n, rfl⟩ : ∃ n', n = n' + 1 := ⟨n - 1, by omega⟩
    have q := hs i h0 (by omega)
    rw [show sm (fun k => if bit v k = 0 then (1 : Int) else 0) (d + 1) i = (if bit v i = 0 then 1 else 0) + sm (fun k => if bit v k = 0 then 1 else 0) d (i + 1) from rfl]
    simp only [fX7_left_4, fX7_left_25, fX7_left_26, hc]
    rw [if_pos (by omega), ecIsStruck (by omega) (by omega), hc, q]
    simp (disch := omega) only [bnd_ok, wq]
    simp only [uX7_left_4]
    rcases bit_01 v i with e | e
    · rw [e]
      have ih := ecLeft_lp hc c0 c1 hs d n (i + 1) (acc + 1) (by omega) (by omega) (by omega) (by omega) (by omega)
      simp [ih]
      omega
    · rw [e]
      have ih := ecLeft_lp hc c0 c1 hs d n (i + 1) acc (by omega) (by omega) (by omega) (by omega) (by omega)
      have hr : 0 ≤ i ∧ i < c := by omega
      simp [hr, ih]
theorem ecLeft {v c a0 : Int} {s : St} (hc : gm s 7 a0 2 = c) (c0 : 0 ≤ c) (c1 : c ≤ 6) (h0 : 0 ≤ v) (h1 : v < 64) (hb : ∀ k : Int, 0 ≤ k → k < 10 → c ≤ k → bit v k = 0) (hs : ∀ k : Int, 0 ≤ k → k < c → gm s 17 a0 k = bit v k) : FX7_left a0 s = some (0, c - pc v, s) := by
  simp only [FX7_left, fX7_left_0]
  rw [ecLeft_lp hc c0 c1 hs c.toNat 9999 0 0 (by omega) (by omega) (by omega) (by omega) (by omega), (lf_at h0 h1 c0 c1 hb).1, Int.zero_add]
def lst (v : Int) : Nat → Int → Int → Int
  | 0, _, a => a
  | d + 1, i, a => lst v d (i + 1) (if bit v i = 0 then i else a)
theorem lst_rg (v : Int) : ∀ (d : Nat) (i a : Int), 0 ≤ i → -1 ≤ a → -1 ≤ lst v d i a ∧ (0 ≤ a ∨ (∃ k : Int, i ≤ k ∧ k < i + d ∧ bit v k = 0) → 0 ≤ lst v d i a)
  | 0, i, a, h0, ha => by
    simp only [lst]
    refine ⟨ha, fun z => ?_⟩
    rcases z with z | ⟨k, k0, k1, -⟩
    · exact z
    · omega
  | d + 1, i, a, h0, ha => by
    simp only [lst]
    obtain ⟨r1, r2⟩ := lst_rg v d (i + 1) (if bit v i = 0 then i else a) (by omega) (by split <;> omega)
    refine ⟨r1, fun z => r2 ?_⟩
    by_cases e : bit v i = 0
    · left; rw [if_pos e]; exact h0
    · rw [if_neg e]
      rcases z with z | ⟨k, k0, k1, k2⟩
      · exact Or.inl z
      · refine Or.inr ⟨k, ?_, by omega, k2⟩
        by_cases ek : k = i
        · subst ek; exact absurd k2 e
        · omega
theorem ecChosen_lp {v c a0 : Int} {s : St} (hc : gm s 7 a0 2 = c) (c0 : 0 ≤ c) (c1 : c ≤ 6) (hs : ∀ k : Int, 0 ≤ k → k < c → gm s 17 a0 k = bit v k) : ∀ (d n : Nat) (i acc : Int), d < n → 0 ≤ i → i + d = c → fX7_chosen_14 (kX7_chosen n) a0 acc i s = some (0, lst v d i acc, s)
  | 0, n, i, acc, hn, h0, hi => by
    simp only [fX7_chosen_14, fX7_chosen_42, hc, lst]
    rw [if_neg (by omega)]
  | d + 1, n, i, acc, hn, h0, hi => by
    obtain ⟨n, rfl⟩ : ∃ n', n = n' + 1 := ⟨n - 1, by omega⟩
    have q := hs i h0 (by omega)
    simp only [fX7_chosen_14, fX7_chosen_34, fX7_chosen_35, hc, lst]
    rw [if_pos (by omega), ecIsStruck (by omega) (by omega), hc, q]
    simp (disch := omega) only [bnd_ok, wq]
    simp only [uX7_chosen_14]
    have hr : 0 ≤ i ∧ i < c := by omega
    have ih := fun a => ecChosen_lp hc c0 c1 hs d n (i + 1) a (by omega) (by omega) (by omega)
    simp only [ih]
    rcases bit_01 v i with e | e <;> simp [e, hr]
noncomputable def chv (v c : Int) : Int := if c - pc v = 1 then lst v c.toNat 0 (-1) else -1
theorem ecChosen {v c a0 : Int} {s : St} (hc : gm s 7 a0 2 = c) (c0 : 0 ≤ c) (c1 : c ≤ 6) (h0 : 0 ≤ v) (h1 : v < 64) (hb : ∀ k : Int, 0 ≤ k → k < 10 → c ≤ k → bit v k = 0) (hs : ∀ k : Int, 0 ≤ k → k < c → gm s 17 a0 k = bit v k) : FX7_chosen a0 s = some (0, chv v c, s) := by
  simp only [FX7_chosen, fX7_chosen_0, fX7_chosen_10, ecLeft hc c0 c1 h0 h1 hb hs, bnd_ok, chv]
  rw [ecChosen_lp hc c0 c1 hs c.toNat 9999 0 (-1) (by omega) (by omega) (by omega)]
  split <;> rfl
theorem emChosen_lp {v c i : Int} {s : St} (hi : 0 ≤ i ∧ i < 10) (hc : gm s 108 0 i = c) (hv : gm s 109 0 i = v) (c0 : 0 ≤ c) (c1 : c ≤ 6) (h0 : 0 ≤ v) (h1 : v < 64) : ∀ (d n : Nat) (k acc : Int), d < n → 0 ≤ k → k + d = c → fX12_chosenSong_4 (kX12_chosenSong n) 0 i acc k s = some (0, if c - pc v = 1 then lst v d k acc else -1, s)
  | 0, n, k, acc, hn, k0, hk => by
    simp only [fX12_chosenSong_4, fX12_chosenSong_35, fX12_chosenSong_48, fX12_chosenSong_49, hc, lst, if_pos hi]
    rw [if_neg (by omega), emLeftSongs hi.1 hi.2 (by omega) (by omega) (by omega) (by omega), hc, hv]
    simp only [bnd_ok]
    split <;> rfl
  | d + 1, n, k, acc, hn, k0, hk => by
    obtain ⟨n, rfl⟩ : ∃ n', n = n' + 1 := ⟨n - 1, by omega⟩
    simp only [fX12_chosenSong_4, fX12_chosenSong_27, fX12_chosenSong_28, hc, lst, if_pos hi]
    rw [if_pos (by omega), emIsStruck hi.1 hi.2 (by omega) (by omega) k0 (by omega), hv]
    simp (disch := omega) only [bnd_ok, wq]
    simp only [uX12_chosenSong_4]
    have ih := fun a => emChosen_lp hi hc hv c0 c1 h0 h1 d n (k + 1) a (by omega) (by omega) (by omega)
    simp only [ih]
    rcases bit_01 v k with e | e <;> simp [e]
theorem emChosen {v c i : Int} {s : St} (hi : 0 ≤ i ∧ i < 10) (hc : gm s 108 0 i = c) (hv : gm s 109 0 i = v) (c0 : 0 ≤ c) (c1 : c ≤ 6) (h0 : 0 ≤ v) (h1 : v < 64) : FX12_chosenSong 0 i s = some (0, chv v c, s) := by
  simp only [FX12_chosenSong, fX12_chosenSong_0, chv]
  rw [emChosen_lp hi hc hv c0 c1 h0 h1 c.toNat 9999 0 (-1) (by omega) (by omega) (by omega)]
theorem chv_1 {v c : Int} (c0 : 0 ≤ c) (c1 : c ≤ 6) (h0 : 0 ≤ v) (h1 : v < 64) (hb : ∀ k : Int, 0 ≤ k → k < 10 → c ≤ k → bit v k = 0) : chv v c = -1 ↔ c - pc v ≠ 1 := by
  unfold chv
  by_cases e : c - pc v = 1
  · rw [if_pos e]
    obtain ⟨k, k0, k1, k2⟩ := (lf_at h0 h1 c0 c1 hb).2.2 (by omega)
    have r := (lst_rg v c.toNat 0 (-1) (by omega) (by omega)).2 (Or.inr ⟨k, k0, by omega, k2⟩)
    exact ⟨fun z => by omega, fun z => absurd e z⟩
  · rw [if_neg e]
    exact ⟨fun _ => e, fun _ => rfl⟩
theorem op_song {t : Int} {c m : St} (h : rl t c m) (p : Int) : Step t (cdn 3 2 9) c m (FX11_song 0 p c) (FX12_song 0 p m) := by
  have hn := h.n
  by_cases hp : 0 ≤ p ∧ p < gm m 12 0 1
  · have hp1 : ¬ p = -1 := by omega
    have hp9 : 0 ≤ p ∧ p < 10 := by omega
    obtain ⟨⟨q1, q2, q3⟩, ⟨q4, q5⟩, ⟨q6, q7⟩, q8, q9⟩ := (h.hS p hp.1 (by omega)).2 hp.2
    by_cases hg : gm m 108 0 p < 6 ∧ gm m 110 0 p = 0
    · have kc : Kp [(7, some 2), (16, none), (17, none)] c (pm (pm (pm c 7 p 2 (gm m 108 0 p + 1)) 16 p (gm m 108 0 p) 0) 17 p (gm m 108 0 p) 0) := Kp.pm (Kp.pm (Kp.pm (Kp.rf _ _) (Or.inr (by decide))) (Or.inl (by decide))) (Or.inl (by decide))
      have km : Kp [(12, some 0), (111, none), (108, none)] m (pm (pm (pm m 12 0 0 0) 111 0 (6 * p + gm m 108 0 p) 0) 108 0 p (gm m 108 0 p + 1)) := Kp.pm (Kp.pm (Kp.pm (Kp.rf _ _) (Or.inr (by decide))) (Or.inl (by decide))) (Or.inl (by decide))
      have hr : 0 ≤ 6 * p + gm m 108 0 p ∧ 6 * p + gm m 108 0 p < 60 := by omega
      refine Step.ok (v := gm m 108 0 p) (c' := pm (pm (pm c 7 p 2 (gm m 108 0 p + 1)) 16 p (gm m 108 0 p) 0) 17 p (gm m 108 0 p) 0) (m' := pm (pm (pm m 12 0 0 0) 111 0 (6 * p + gm m 108 0 p) 0) 108 0 p (gm m 108 0 p + 1)) ?_ ?_ kc km (by decide) (by decide) (by simp [gm_pm]) rfl ?_
      · have hg2 : gm c 7 p 2 < 6 ∧ gm c 7 p 3 = 0 := by omega
        have e1 : FX7_has p (gm m 108 0 p) (pm c 7 p 2 (gm m 108 0 p + 1)) = some (0, 1, pm c 7 p 2 (gm m 108 0 p + 1)) := by
          have hx : gm (pm c 7 p 2 (gm m 108 0 p + 1)) 7 p 2 = gm m 108 0 p + 1 := by simp [gm_pm]
          rw [ecHasSong (by omega) (by omega), hx, if_pos (by omega)]
        have hr2 : 0 ≤ gm m 108 0 p ∧ gm m 108 0 p < 6 := by omega
        simp only [FX11_song, fX11_song_0, fX11_song_20, fX11_song_40, h.soc, ecMayGrow, bnd_ok, if_pos hp, if_neg hp1, if_pos hp.1, if_pos hg2, FX7_add, fX7_add_0, fX7_add_37, q1]
        rw [wq (by omega) (by omega), e1]
        simp [bnd_ok, hr2, hg2.1, hg2.2, hg.1]
      · simp only [FX12_song, fX12_song_0, fX12_song_15, fX12_song_35, fX12_song_39, fX12_song_40, fX12_song_48, h.isS, emHolds, bnd_ok, if_pos hp, if_pos hp9]
        rw [if_neg (by omega), if_neg (by omega), if_pos hg.2]
        simp only [gm_pm]
        simp (disch := omega) only [wq]
        simp [hr, gm_pm]
      · refine rl.keep0 h kc km rfl ?_ ?_ ?_ ?_ ?_ ?_ ?_ ?_ ?_ ?_ ?_ ?_ ?_ ?_ <;> first | exact fun e => absurd e (by decide) | intro _
        have t0 : 0 ≤ t := by have := h.hN.2.1; omega
        intro i i0 i1
        obtain ⟨b1, b2⟩ := h.hS i i0 i1
        simp only [gm_pm]
        simp
        refine ⟨fun hi => ?_, fun hi => ?_⟩
        · rw [if_neg (by omega)]
          exact b1 hi
        · obtain ⟨⟨d1, d2, d3⟩, d4, d5, d6, d7⟩ := b2 hi
          by_cases e : i = p
          · subst e
            simp only [if_true]
            refine ⟨⟨trivial, by omega, by omega⟩, d4, d5, fun k k0 k1 k2 => d6 k k0 k1 (by omega), fun k k0 k1 => ?_⟩
            by_cases ek : k = gm m 108 0 i
            · subst ek
              have z := d6 (gm m 108 0 i) k0 (by omega) (Int.le_refl _)
              simp [z]
              omega
            · obtain ⟨x1, x2, x3, x4⟩ := d7 k k0 (by omega)
              have : ¬ 6 * i + k = 6 * i + gm m 108 0 i := by omega
              simp [ek]
              exact ⟨x1, x2, x3, by omega⟩
          · simp only [if_neg e]
            refine ⟨⟨d1, d2, d3⟩, d4, d5, d6, fun k k0 k1 => ?_⟩
            obtain ⟨x1, x2, x3, x4⟩ := d7 k k0 k1
            have : ¬ 6 * i + k = 6 * p + gm m 108 0 p := by omega
            simp [e, this]
            exact ⟨x1, x2, x3, by omega⟩
    · have hg2 : ¬ (gm c 7 p 2 < 6 ∧ gm c 7 p 3 = 0) := by omega
      refine Step.thr h (o := 2) (v := 0) (x := 0) (k := 2) (by decide) ?_ ?_ rfl
      · simp only [FX11_song, fX11_song_0, fX11_song_20, fX11_song_40, h.soc, ecMayGrow, bnd_ok, if_pos hp, if_neg hp1, if_pos hp.1, if_neg hg2]
        simp
      · simp only [FX12_song, fX12_song_0, fX12_song_15, fX12_song_35, fX12_song_39, fX12_song_40, fX12_song_48, h.isS, emHolds, bnd_ok, if_pos hp, if_pos hp9]
        by_cases e : gm m 108 0 p = 6
        · simp [e]
        · have : ¬ gm m 110 0 p = 0 := by omega
          simp [e, this]
  · refine Step.thr h (o := 3) (v := 0) (x := 0) (k := 1) (by decide) ?_ ?_ rfl
    · simp [FX11_song, fX11_song_0, fX11_song_20, fX11_song_40, h.soc, bnd_ok, hp]
    · simp [FX12_song, fX12_song_0, fX12_song_15, fX12_song_35, fX12_song_39, fX12_song_40, fX12_song_48, h.isS, emHolds, bnd_ok, hp]
