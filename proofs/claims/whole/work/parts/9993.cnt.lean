/-! As many in the table as in the order. -/
theorem cnt_row (P : Int → Prop) (g : Int → Int) (hg : ∀ o, (P o → g o = 1) ∧ (¬ P o → g o = 0)) : ∀ (n : Nat) (E : Int) (f : Int → Int), 0 ≤ E → (∀ k : Int, 0 ≤ k → k < E → (0 ≤ f k ∧ f k < n) ∧ P (f k)) → (∀ k k' : Int, 0 ≤ k → k < E → 0 ≤ k' → k' < E → f k = f k' → k = k') → (∀ o : Int, 0 ≤ o → o < n → P o → ∃ k : Int, (0 ≤ k ∧ k < E) ∧ f k = o) → sm g n 0 = E
  | 0, E, f, h0, h1, h2, h3 => by
    by_cases z : 0 < E
    · have := (h1 0 (by omega) z).1
      omega
    · show (0 : Int) = E
      omega
  | n + 1, E, f, h0, h1, h2, h3 => by
    rw [sm_last, Int.zero_add]
    by_cases z : P n
    · obtain ⟨k, ⟨k0, k1⟩, k2⟩ := h3 n (by omega) (by omega) z
      have ih := cnt_row P g hg n (E - 1) (fun j => if j < k then f j else f (j + 1)) (by omega) (fun j j0 j1 => by
        by_cases c1 : j < k
        · simp only [if_pos c1]
          have a1 := h1 j j0 (by omega)
          have a2 := h2 j k j0 (by omega) k0 k1
          have a3 : f j ≠ n := fun y => by have := a2 (y.trans k2.symm); omega
          exact ⟨by omega, a1.2⟩
        · simp only [if_neg c1]
          have a1 := h1 (j + 1) (by omega) (by omega)
          have a2 := h2 (j + 1) k (by omega) (by omega) k0 k1
          have a3 : f (j + 1) ≠ n := fun y => by have := a2 (y.trans k2.symm); omega
          exact ⟨by omega, a1.2⟩) (fun j j' j0 j1 q0 q1 e => by
        by_cases c1 : j < k
        · by_cases c2 : j' < k
          · simp only [if_pos c1, if_pos c2] at e
            exact h2 j j' j0 (by omega) q0 (by omega) e
          · simp only [if_pos c1, if_neg c2] at e
            have := h2 j (j' + 1) j0 (by omega) (by omega) (by omega) e
            omega
        · by_cases c2 : j' < k
          · simp only [if_neg c1, if_pos c2] at e
            have := h2 (j + 1) j' (by omega) (by omega) q0 (by omega) e
            omega
          · simp only [if_neg c1, if_neg c2] at e
            have := h2 (j + 1) (j' + 1) (by omega) (by omega) (by omega) (by omega) e
            omega) (fun o o0 o1 ho => by
        obtain ⟨j, ⟨j0, j1⟩, j2⟩ := h3 o o0 (by omega) ho
        have jk : j ≠ k := fun y => by rw [y, k2] at j2; omega
        by_cases c1 : j < k
        · exact ⟨j, by omega, by simp only [if_pos c1]; exact j2⟩
        · exact ⟨j - 1, by omega, by simp only [if_neg (show ¬ j - 1 < k by omega), show j - 1 + 1 = j by omega]; exact j2⟩)
      rw [ih, (hg n).1 z]
      omega
    · have ih := cnt_row P g hg n E f h0 (fun j j0 j1 => by
        have a1 := h1 j j0 j1
        have a3 : f j ≠ n := fun y => z (by rw [← y]; exact a1.2)
        exact ⟨by omega, a1.2⟩) h2 (fun o o0 o1 ho => h3 o o0 (by omega) ho)
      rw [ih, (hg n).2 z, Int.add_zero]
theorem rl.cnt {t : Int} {c m : St} (h : rl t c m) {l e : Int} (hl : 0 ≤ l ∧ l < 2) {c2 : St} (T : tbI l e (gm m 12 0 1).toNat c2 m) : e = gm m 126 0 l := by
  have hn := h.n
  obtain ⟨b1, -, b3, b4, b5⟩ := h.hO.2 l hl.1 hl.2
  have h1 := h.hO.1
  rw [← T.2.2.2.2.2]
  refine cnt_row (tin m l) (tif m l) (fun o => ⟨fun z => by unfold tif; rw [if_pos z], fun z => by unfold tif; rw [if_neg z]⟩) _ _ (fun k => gm m 127 0 (10 * l + k)) (by omega) (fun k k0 k1 => ?_) (fun k k' k0 k1 k2 k3 e => b4 k k' k0 k1 k2 k3 e) (fun o o0 o1 ho => ?_)
  · obtain ⟨x1, x2, x3, x4⟩ := b3 k k0 k1
    exact ⟨⟨x2.1, by show gm m 127 0 (10 * l + k) < _; omega⟩, x3, by show gm m 124 0 (gm m 127 0 (10 * l + k)) ≠ 0; omega⟩
  · have := (h1 o o0 (by omega)).2.1
    obtain ⟨k, k0, k1, k2⟩ := b5 o o0 (by omega) ho.1 (by have := ho.2; omega)
    exact ⟨k, ⟨k0, k1⟩, k2⟩
def ckV (U : List (Nat × Option Int)) : Bool := frk U 146 && frk U 147 && frk U 149 && frk U 150 && fre U 12 51
theorem rkV_kp {U : List (Nat × Option Int)} {m m' : St} (h : Kp U m m') (hd : ckV U = true) (p : Int) : rkV m' p = rkV m p := by
  simp only [ckV, Bool.and_eq_true] at hd
  obtain ⟨⟨⟨⟨d1, d2⟩, d3⟩, d4⟩, d5⟩ := hd
  have e1 : ntv m' p = ntv m p := funext fun n => by
    simp only [ntv, h.k d1, h.f d5]
  have e2 : ptv m' p = ptv m p := by
    simp only [ptv, h.k d1, h.k d2, h.k d3, h.k d4]
  unfold rkV
  rw [e1, e2]
theorem tbI.kp {T U : List (Nat × Option Int)} {l e : Int} {i : Nat} {c c' m m' : St} (h : tbI l e i c m) (hc : Kp T c c') (hm : Kp U m m') (hU : (ckV U && frk U 102 && frk U 124) = true) (x1 : gm c' 4 (2 * l + 1) 1 = gm c 4 (2 * l + 1) 1) (x2 : ∀ j, gm c' 27 (2 * l + 1) j = gm c 27 (2 * l + 1) j) : tbI l e i c' m' := by
  simp only [Bool.and_eq_true] at hU
  obtain ⟨⟨d1, d2⟩, d3⟩ := hU
  obtain ⟨t1, t2, t3, t4, t5, t6⟩ := h
  have ea : ∀ p q, ahd m' p q ↔ ahd m p q := fun p q => by
    unfold ahd
    rw [rkV_kp hm d1, rkV_kp hm d1]
  have et : ∀ o, tin m' l o ↔ tin m l o := fun o => by
    unfold tin
    rw [hm.k d2, hm.k d3]
  have ef : ∀ s, ahf m' l s = ahf m l s := fun s => funext fun o => by
    unfold ahf
    by_cases z : tin m l o ∧ o ≠ s ∧ ahd m o s
    · rw [if_pos z, if_pos ⟨(et o).mpr z.1, z.2.1, (ea o s).mpr z.2.2⟩]
    · rw [if_neg z, if_neg (fun y => z ⟨(et o).mp y.1, y.2.1, (ea o s).mp y.2.2⟩)]
  have eg : tif m' l = tif m l := funext fun o => by
    unfold tif
    by_cases z : tin m l o
    · rw [if_pos z, if_pos ((et o).mpr z)]
    · rw [if_neg z, if_neg (fun y => z ((et o).mp y))]
  refine ⟨x1.trans t1, t2, fun k k0 k1 => ?_, fun k k' k0 k1 k2 => ?_, fun o o0 o1 ho => ?_, by rw [eg]; exact t6⟩
  · obtain ⟨y1, y2, y3⟩ := t3 k k0 k1
    rw [x2]
    refine ⟨y1, (et _).mpr y2, ?_⟩
    unfold ahn at y3 ⊢
    rw [ef]
    exact y3
  · rw [x2, x2]
    exact (ea _ _).mpr (t4 k k' k0 k1 k2)
  · obtain ⟨k, k0, k1⟩ := t5 o o0 o1 ((et o).mp ho)
    exact ⟨k, k0, by rw [x2]; exact k1⟩
