/-! A march ends: penalties. -/
def pnO (par tn : Int) : List (Int × Int) := if 0 < tn then [(par, tn)] else []
def pcL (c : St) (p : Int) (L : List (Int × Int)) : Prop := gm c 5 p 4 = L.length ∧ ∀ k : Nat, k < L.length → gm c 19 p k = (L.getD k (0, 0)).1 ∧ gm c 20 p k = (L.getD k (0, 0)).2 ∧ gm c 21 p k = 0
def pmL (m : St) (p : Int) (L : List (Int × Int)) : Prop := gm m 147 0 p = L.length ∧ ∀ k : Nat, k < L.length → gm m 148 0 (20 * p + k) = (L.getD k (0, 0)).1 ∧ gm m 149 0 (20 * p + k) = (L.getD k (0, 0)).2 ∧ gm m 150 0 (20 * p + k) = 0
def pcF (P : Int → Prop) (c c' : St) : Prop := Kp penT c c' ∧ c'.2 = c.2 ∧ ∀ s : Int, ¬ P s → gm c' 5 s 4 = gm c 5 s 4 ∧ ∀ j, gm c' 19 s j = gm c 19 s j ∧ gm c' 20 s j = gm c 20 s j ∧ gm c' 21 s j = gm c 21 s j
def pmF (P : Int → Prop) (m m' : St) : Prop := Kp [(148, none), (149, none), (150, none), (147, none)] m m' ∧ m'.2 = m.2 ∧ ∀ s : Int, ¬ P s → gm m' 147 0 s = gm m 147 0 s ∧ ∀ j, 20 * s ≤ j → j < 20 * s + 20 → gm m' 148 0 j = gm m 148 0 j ∧ gm m' 149 0 j = gm m 149 0 j ∧ gm m' 150 0 j = gm m 150 0 j
theorem pcF.rf (P : Int → Prop) (c : St) : pcF P c c := ⟨Kp.rf _ _, rfl, fun _ _ => ⟨rfl, fun _ => ⟨rfl, rfl, rfl⟩⟩⟩
theorem pmF.rf (P : Int → Prop) (m : St) : pmF P m m := ⟨Kp.rf _ _, rfl, fun _ _ => ⟨rfl, fun _ _ _ => ⟨rfl, rfl, rfl⟩⟩⟩
theorem pcF.tr {P Q R : Int → Prop} {c c' c2 : St} (h : pcF P c c') (g : pcF Q c' c2) (h1 : ∀ s, P s → R s) (h2 : ∀ s, Q s → R s) : pcF R c c2 := by
  obtain ⟨a1, a2, a3⟩ := h
  obtain ⟨b1, b2, b3⟩ := g
  refine ⟨a1.tr b1, b2.trans a2, fun s hs => ?_⟩
  obtain ⟨x1, x2⟩ := a3 s (fun y => hs (h1 s y))
  obtain ⟨y1, y2⟩ := b3 s (fun y => hs (h2 s y))
  exact ⟨y1.trans x1, fun j => ⟨(y2 j).1.trans (x2 j).1, (y2 j).2.1.trans (x2 j).2.1, (y2 j).2.2.trans (x2 j).2.2⟩⟩
theorem pmF.tr {P Q R : Int → Prop} {c c' c2 : St} (h : pmF P c c') (g : pmF Q c' c2) (h1 : ∀ s, P s → R s) (h2 : ∀ s, Q s → R s) : pmF R c c2 := by
  obtain ⟨a1, a2, a3⟩ := h
  obtain ⟨b1, b2, b3⟩ := g
  refine ⟨a1.tr b1, b2.trans a2, fun s hs => ?_⟩
  obtain ⟨x1, x2⟩ := a3 s (fun y => hs (h1 s y))
  obtain ⟨y1, y2⟩ := b3 s (fun y => hs (h2 s y))
  exact ⟨y1.trans x1, fun j j0 j1 => ⟨(y2 j j0 j1).1.trans (x2 j j0 j1).1, (y2 j j0 j1).2.1.trans (x2 j j0 j1).2.1, (y2 j j0 j1).2.2.trans (x2 j j0 j1).2.2⟩⟩
theorem pcL.fr {P : Int → Prop} {c c' : St} {p : Int} {L : List (Int × Int)} (h : pcL c p L) (g : pcF P c c') (hp : ¬ P p) : pcL c' p L := by
  obtain ⟨x1, x2⟩ := g.2.2 p hp
  refine ⟨x1.trans h.1, fun k hk => ?_⟩
  rw [(x2 k).1, (x2 k).2.1, (x2 k).2.2]
  exact h.2 k hk
theorem pmL.fr {P : Int → Prop} {c c' : St} {p : Int} {L : List (Int × Int)} (h : pmL c p L) (hL : L.length ≤ 20) (g : pmF P c c') (hp : ¬ P p) : pmL c' p L := by
  obtain ⟨x1, x2⟩ := g.2.2 p hp
  refine ⟨x1.trans h.1, fun k hk => ?_⟩
  have := x2 (20 * p + k) (by omega) (by omega)
  rw [this.1, this.2.1, this.2.2]
  exact h.2 k hk
theorem getD_app (L : List (Int × Int)) (x : Int × Int) (k : Nat) : (L ++ [x]).getD k (0, 0) = if k = L.length then x else L.getD k (0, 0) := by
  by_cases h : k < L.length
  · rw [if_neg (by omega)]
    simp [List.getD, List.getElem?_append_left h]
  · by_cases e : k = L.length
    · rw [if_pos e]
      simp [List.getD, e]
    · rw [if_neg e]
      have h1 : (L ++ [x])[k]? = none := List.getElem?_eq_none (by simp; omega)
      have h2 : L[k]? = none := List.getElem?_eq_none (by omega)
      simp [List.getD, h1, h2]
theorem pcL.add {c : St} {p : Int} {L : List (Int × Int)} (h : pcL c p L) (hL : L.length < 20) (par tn : Int) : ∃ c', FX6_punishIfAny p par tn c = some (0, 0, c') ∧ pcL c' p (L ++ pnO par tn) ∧ pcF (fun s => s = p) c c' := by
  obtain ⟨h1, h2⟩ := h
  unfold pnO
  by_cases ht : 0 < tn
  · have e := ecPunish (p := p) (par := par) (tn := tn) (s := c) (by omega) (by omega)
    refine ⟨cPen c p par tn, ?_, ⟨?_, fun k hk => ?_⟩, cPen_kp c p par tn, rfl, fun s hs => ⟨?_, fun j => ⟨?_, ?_, ?_⟩⟩⟩
    · simp only [FX6_punishIfAny, fX6_punishIfAny_0, fX6_punishIfAny_13, if_pos ht, e, bnd_ok]
    · rw [if_pos ht]
      simp [cPen, gm_pm, h1]
    · rw [if_pos ht] at hk ⊢
      simp only [List.length_append, List.length_singleton] at hk
      rw [getD_app]
      by_cases ek : k = L.length
      · rw [if_pos ek]
        simp [cPen, gm_pm, h1, ek]
      · rw [if_neg ek]
        have := h2 k (by omega)
        have e2 : ¬ (k : Int) = gm c 5 p 4 := by omega
        simp [cPen, gm_pm, e2]
        exact this
    · simp [cPen, gm_pm, hs]
    · simp [cPen, gm_pm, hs]
    · simp [cPen, gm_pm, hs]
    · simp [cPen, gm_pm, hs]
  · refine ⟨c, ?_, ?_, pcF.rf _ _⟩
    · simp only [FX6_punishIfAny, fX6_punishIfAny_0, fX6_punishIfAny_13, if_neg ht]
    · rw [if_neg ht, List.append_nil]
      exact ⟨h1, h2⟩
theorem pmL.add {m : St} {p : Int} {L : List (Int × Int)} (h : pmL m p L) (hp : 0 ≤ p ∧ p < 10) (hL : L.length < 20) (par tn : Int) : ∃ m', FX12_penalizes 0 p par tn m = some (0, 0, m') ∧ pmL m' p (L ++ pnO par tn) ∧ pmF (fun s => s = p) m m' := by
  obtain ⟨h1, h2⟩ := h
  unfold pnO
  by_cases ht : 0 < tn
  · have e := emPenalizes (p := p) (par := par) (tn := tn) (s := m) hp (by omega) (by omega) ht
    refine ⟨mPen m p par tn, e, ⟨?_, fun k hk => ?_⟩, Kp.pm (Kp.pm (Kp.pm (Kp.pm (Kp.rf _ _) (Or.inl (by decide))) (Or.inl (by decide))) (Or.inl (by decide))) (Or.inl (by decide)), rfl, fun s hs => ⟨?_, fun j j0 j1 => ?_⟩⟩
    · rw [if_pos ht]
      simp [mPen, gm_pm, h1]
    · rw [if_pos ht] at hk ⊢
      simp only [List.length_append, List.length_singleton] at hk
      rw [getD_app]
      by_cases ek : k = L.length
      · rw [if_pos ek]
        simp [mPen, gm_pm, h1, ek]
      · rw [if_neg ek]
        have := h2 k (by omega)
        have e2 : ¬ (k : Int) = gm m 147 0 p := by omega
        have e3 : ¬ 20 * p + (k : Int) = 20 * p + gm m 147 0 p := by omega
        simp [mPen, gm_pm, e2]
        exact this
    · simp [mPen, gm_pm, hs]
    · have e3 : ¬ j = 20 * p + gm m 147 0 p := by omega
      simp [mPen, gm_pm, e3]
  · refine ⟨m, emPenalizes0 ht, ?_, pmF.rf _ _⟩
    rw [if_neg ht, List.append_nil]
    exact ⟨h1, h2⟩
/-- what a march costs -/
def pnL (a b tm g : Int) : List (Int × Int) := (([] ++ pnO 1 (2 * (a - tm))) ++ pnO 2 (2 * (tm - b))) ++ pnO 3 g
theorem pnO_le (p t : Int) : (pnO p t).length ≤ 1 := by
  unfold pnO
  split <;> simp
theorem pnL_le (a b tm g : Int) : (pnL a b tm g).length ≤ 3 := by
  have h1 := pnO_le 1 (2 * (a - tm))
  have h2 := pnO_le 2 (2 * (tm - b))
  have h3 := pnO_le 3 g
  simp only [pnL, List.length_append, List.length_nil]
  omega
theorem pnL_mem {a b tm g : Int} (ha : 1 ≤ a ∧ a ≤ 200) (hb : 1 ≤ b ∧ b ≤ 200) (ht : -1000000 ≤ tm ∧ tm ≤ 1000000) (hg : g ≤ 4000000) : ∀ k : Nat, k < (pnL a b tm g).length → 0 ≤ ((pnL a b tm g).getD k (0, 0)).2 ∧ ((pnL a b tm g).getD k (0, 0)).2 ≤ 4000000 := by
  intro k hk
  have h : ∀ x ∈ pnL a b tm g, 0 ≤ x.2 ∧ x.2 ≤ 4000000 := fun x hx => by
    simp only [pnL, pnO, List.mem_append, List.not_mem_nil, false_or] at hx
    rcases hx with (hx | hx) | hx
    · split at hx
      · simp only [List.mem_singleton] at hx
        rw [hx]
        exact ⟨by omega, by show 2 * (a - tm) ≤ 4000000; omega⟩
      · simp at hx
    · split at hx
      · simp only [List.mem_singleton] at hx
        rw [hx]
        exact ⟨by omega, by show 2 * (tm - b) ≤ 4000000; omega⟩
      · simp at hx
    · split at hx
      · simp only [List.mem_singleton] at hx
        rw [hx]
        exact ⟨by omega, hg⟩
      · simp at hx
  have e : (pnL a b tm g).getD k (0, 0) = (pnL a b tm g)[k] := by simp [List.getD, hk]
  rw [e]
  exact h _ (List.getElem_mem hk)
def tmV (b e : Int) : Int := if e = -1 then -1 else e - b + 1
theorem ecPunFor {c : St} {p a b : Int} (h0 : gm c 5 p 4 = 0) (ha : 0 ≤ a ∧ a ≤ 1000) (hb : 0 ≤ b ∧ b ≤ 1000) (h2 : -1 ≤ gm c 6 p 12 ∧ gm c 6 p 12 ≤ 400000) (h3 : -1 ≤ gm c 6 p 13 ∧ gm c 6 p 13 ≤ 400000) :
    ∃ c', FX6_punishForMarch p a b c = some (0, 0, c') ∧ pcL c' p (pnL a b (tmV (gm c 6 p 12) (gm c 6 p 13)) (gm c 6 p 14)) ∧ pcF (fun s => s = p) c c' := by
  have e := ecTime (a0 := p) (s := c) h2.1 (by omega) h3.1 (by omega)
  have ht : -400010 ≤ tmV (gm c 6 p 12) (gm c 6 p 13) ∧ tmV (gm c 6 p 12) (gm c 6 p 13) ≤ 400010 := by unfold tmV; split <;> omega
  have e' : FX6_time p c = some (0, tmV (gm c 6 p 12) (gm c 6 p 13), c) := e
  generalize tmV (gm c 6 p 12) (gm c 6 p 13) = tm at e' ht ⊢
  have w1 : wr (2 * wr (a - tm)) = 2 * (a - tm) := by rw [wq (z := a - tm) (by omega) (by omega), wq (by omega) (by omega)]
  have w2 : wr (2 * wr (tm - b)) = 2 * (tm - b) := by rw [wq (z := tm - b) (by omega) (by omega), wq (by omega) (by omega)]
  have l1 := pnO_le 1 (2 * (a - tm))
  have l2 := pnO_le 2 (2 * (tm - b))
  have P0 : pcL c p [] := ⟨by rw [h0]; rfl, fun k hk => absurd hk (Nat.not_lt_zero k)⟩
  obtain ⟨c1, a1, a2, a3⟩ := P0.add (by simp) 1 (2 * (a - tm))
  obtain ⟨c2, b1, b2, b3⟩ := a2.add (by simp only [List.length_append, List.length_nil]; omega) 2 (2 * (tm - b))
  have g6 : gm c2 6 p 14 = gm c 6 p 14 := by rw [b3.1.k (by decide), a3.1.k (by decide)]
  obtain ⟨c3, d1, d2, d3⟩ := b2.add (by simp only [List.length_append, List.length_nil]; omega) 3 (gm c 6 p 14)
  refine ⟨c3, ?_, d2, (a3.tr b3 (R := fun s => s = p) (fun _ h => h) (fun _ h => h)).tr d3 (fun _ h => h) (fun _ h => h)⟩
  simp only [FX6_punishForMarch, fX6_punishForMarch_0, e', bnd_ok, w1, w2, a1, b1, g6, d1]
theorem emPunFor {m : St} {p a b : Int} (hp : 0 ≤ p ∧ p < 10) (h0 : gm m 147 0 p = 0) (kb : Co) (h2 : -1 ≤ gm m 143 0 p ∧ gm m 143 0 p ≤ 400000) (h3 : -1 ≤ gm m 144 0 p ∧ gm m 144 0 p ≤ 400000) (l : Int) (hl : 0 ≤ l ∧ l < 2) (ea : gm m 132 0 l = a) (eb : gm m 133 0 l = b) (ha : 0 ≤ a ∧ a ≤ 1000) (hb : 0 ≤ b ∧ b ≤ 1000) (h1 : p < gm m 12 0 1) (hq : gm m 102 0 p = l) (hE : ¬ gm m 124 0 p = 0) :
    ∃ m', fX12_ends_9 kb 0 l p m = fX12_ends_88 kb 0 l p m' ∧ pmL m' p (pnL a b (tmV (gm m 143 0 p) (gm m 144 0 p)) (gm m 145 0 p)) ∧ pmF (fun s => s = p) m m' := by
  have e := emTimeOf (a0 := 0) (a1 := p) (s := m) hp.1 hp.2 h2.1 (by omega) h3.1 (by omega)
  have ht : -400010 ≤ tmV (gm m 143 0 p) (gm m 144 0 p) ∧ tmV (gm m 143 0 p) (gm m 144 0 p) ≤ 400010 := by unfold tmV; split <;> omega
  have e' : FX12_timeOf 0 p m = some (0, tmV (gm m 143 0 p) (gm m 144 0 p), m) := e
  obtain ⟨tm, htm⟩ : ∃ tm, tmV (gm m 143 0 p) (gm m 144 0 p) = tm := ⟨_, rfl⟩
  rw [htm] at e' ht ⊢
  have w1 : wr (2 * wr (a - tm)) = 2 * (a - tm) := by rw [wq (z := a - tm) (by omega) (by omega), wq (by omega) (by omega)]
  have w2 : wr (2 * wr (tm - b)) = 2 * (tm - b) := by rw [wq (z := tm - b) (by omega) (by omega), wq (by omega) (by omega)]
  have l1 := pnO_le 1 (2 * (a - tm))
  have l2 := pnO_le 2 (2 * (tm - b))
  have P0 : pmL m p [] := ⟨by rw [h0]; rfl, fun k hk => absurd hk (Nat.not_lt_zero k)⟩
  obtain ⟨m1, a1, a2, a3⟩ := P0.add hp (by simp) 1 (2 * (a - tm))
  have e2 : FX12_timeOf 0 p m1 = some (0, tm, m1) := by
    have := emTimeOf (a0 := 0) (a1 := p) (s := m1) hp.1 hp.2 (by rw [a3.1.k (by decide)]; exact h2.1) (by rw [a3.1.k (by decide)]; omega) (by rw [a3.1.k (by decide)]; exact h3.1) (by rw [a3.1.k (by decide)]; omega)
    rw [a3.1.k (show frk _ 143 = true by decide), a3.1.k (show frk _ 144 = true by decide)] at this
    rw [← htm]
    exact this
  obtain ⟨m2, b1, b2, b3⟩ := a2.add hp (by simp only [List.length_append, List.length_nil]; omega) 2 (2 * (tm - b))
  have g6 : gm m2 145 0 p = gm m 145 0 p := by rw [b3.1.k (by decide), a3.1.k (by decide)]
  have gb : gm m1 133 0 l = b := by rw [a3.1.k (by decide)]; exact eb
  obtain ⟨m3, d1, d2, d3⟩ := b2.add hp (by simp only [List.length_append, List.length_nil]; omega) 3 (gm m 145 0 p)
  refine ⟨m3, ?_, d2, (a3.tr b3 (R := fun s => s = p) (fun _ h => h) (fun _ h => h)).tr d3 (fun _ h => h) (fun _ h => h)⟩
  generalize hR : fX12_ends_88 kb 0 l p m3 = R
  simp only [fX12_ends_9, if_pos h1, if_pos hp, hq, if_true, if_neg hE, if_pos hl, e', bnd_ok, ea, w1, a1, e2, gb, w2, b1, g6, d1]
  exact hR
