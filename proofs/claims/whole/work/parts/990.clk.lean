/-! Clocks and gaps. -/
theorem itz {α : Type} (P : Prop) [Decidable P] (x y : α) : (if (if P then (1 : Int) else 0) = 0 then x else y) = if P then y else x := by
  by_cases h : P <;> simp [h]
def ckLn (T U : List (Nat × Option Int)) : Bool := ckD T U && ckR T U && ckJ T U && fre T 1 2 && fre T 11 6 && frk T 28 && frk T 2 && frk T 29 && fre U 12 1 && fre U 12 42 && frk U 134 && frk U 135 && frk U 136 && frk U 137 && frk U 138 && frk U 139 && frk U 140 && frk U 141 && frk U 102 && frk U 124
theorem lin.kp {t l : Int} {T U : List (Nat × Option Int)} {c c' m m' : St} (H : lin t l c m) (hc : Kp T c c') (hm : Kp U m m') (hd : ckLn T U = true) (n8 : c'.2 8 = c.2 8) : lin t l c' m' := by
  simp only [ckLn, Bool.and_eq_true] at hd
  obtain ⟨⟨⟨⟨⟨⟨⟨⟨⟨⟨⟨⟨⟨⟨⟨⟨⟨⟨⟨d1, d2⟩, d3⟩, d4⟩, d5⟩, d6⟩, d7⟩, d8⟩, d9⟩, d10⟩, d11⟩, d12⟩, d13⟩, d14⟩, d15⟩, d16⟩, d17⟩, d18⟩, d19⟩, d20⟩ := hd
  obtain ⟨⟨h1, h2, h3⟩, h4⟩ := H
  have d2' := d2
  simp only [ckR, Bool.and_eq_true] at d2'
  obtain ⟨⟨⟨⟨⟨⟨⟨⟨⟨e0, e1⟩, e2⟩, e3⟩, e4⟩, e5⟩, e6⟩, e7⟩, e8⟩, e9⟩ := d2'
  refine ⟨⟨rlD.kp h1 hc hm d1 n8, rlR.kp h2 hc hm d2, rlJ.kp h3 hc hm d3⟩, ?_⟩
  simp only [rlP] at h4 ⊢
  simp only [hc.f d4, hc.f d5, hc.k d6, hc.k d7, hc.k d8, hm.f d9, hm.f d10, hm.k d11, hm.k d12, hm.k d13, hm.k d14, hm.k d15, hm.k d16, hm.k d17, hm.k d18, hm.k d19, hm.k d20, hm.k e5, hm.k e6]
  exact h4
abbrev gapP (m : St) (l x k : Int) : Prop := k + 1 < gm m 134 0 l ∧ gm m 135 0 (60 * l + k) = gm m 135 0 (60 * l + (k + 1)) ∧ (0 ≤ gm m 138 0 (60 * l + k) ∧ gm m 138 0 (60 * l + k) ≤ x - 1) ∧ (0 ≤ gm m 138 0 (60 * l + (k + 1)) ∧ gm m 138 0 (60 * l + (k + 1)) ≤ x - 1) ∧ 6 < gm m 138 0 (60 * l + k) - gm m 137 0 (60 * l + k) + 1 - gm m 138 0 (60 * l + (k + 1)) - 1
theorem ecIsOwner {t l : Int} {c m : St} (H : lin t l c m) (hl : 0 ≤ l ∧ l < 2) (i s : Int) (hi : -1 ≤ i ∧ i ≤ 100) : FX1_isOwner l i s c = some (0, if (0 ≤ i ∧ i < gm m 134 0 l) ∧ gm m 135 0 (60 * l + i) = s then 1 else 0, c) := by
  obtain ⟨-, -, ⟨e5, e51, e52⟩, -, h7, -⟩ := id H
  have ep := ecPartAt (a0 := l) (a1 := i) (s := c) (by omega) (by omega)
  rw [e5] at ep
  simp only [FX1_isOwner, fX1_isOwner_0, fX1_isOwner_22, fX1_isOwner_23, z01, o01, or_true, true_or, if_true]
  by_cases hk : 0 ≤ i ∧ i < gm m 134 0 l
  · obtain ⟨p0, ⟨p1, -⟩, -⟩ := h7 i hk.1 hk.2
    rw [if_pos hk] at ep
    simp only [ep, bnd_ok, p1]
    rw [if_neg (by omega), if_pos p0]
    by_cases e : gm m 135 0 (60 * l + i) = s
    · rw [if_pos e, if_pos ⟨hk, e⟩]
    · rw [if_neg e, if_neg (fun z => e z.2)]
  · rw [if_neg hk] at ep
    simp only [ep, bnd_ok, if_true]
    rw [if_neg (fun z => hk z.1)]
theorem ecGap {t l k : Int} {c m : St} (H : lin t l c m) (hl : 0 ≤ l ∧ l < 2) (k0 : 0 ≤ k) (k1 : k < gm m 134 0 l) (hb : 0 ≤ gm c 6 (gm m 135 0 (60 * l + k)) 14 ∧ gm c 6 (gm m 135 0 (60 * l + k)) 14 ≤ 10000000) :
    FX1_countGap l k (clv c m l) c = some (0, 0, if gapP m l (clv c m l) k then pm c 6 (gm m 135 0 (60 * l + k)) 14 (gm c 6 (gm m 135 0 (60 * l + k)) 14 + 1) else c) := by
  obtain ⟨⟨hD, hR, hJ⟩, -, ⟨e5, e51, e52⟩, -, h7, -⟩ := id H
  obtain ⟨p0, ⟨p1, p11, -⟩, p2, ⟨p3, p4, p5⟩, ⟨p6, p7, p8⟩, -⟩ := h7 k k0 k1
  obtain ⟨o1, o2, o3, o4, o5⟩ := H.out hl k0 k1
  obtain ⟨cl0, cl1, -⟩ := clv_le hD hR hl
  have w1 : wr (k + 1) = k + 1 := wq (by omega) (by omega)
  have w2 : wr (clv c m l - 1) = clv c m l - 1 := wq (by omega) (by omega)
  have w3 : wr (gm c 6 (gm m 135 0 (60 * l + k)) 14 + 1) = gm c 6 (gm m 135 0 (60 * l + k)) 14 + 1 := wq (by omega) (by omega)
  have ep := ecPartAt (a0 := l) (a1 := k + 1) (s := c) (by omega) (by omega)
  rw [e5] at ep
  have hp : ¬ gm c 28 l k = -1 := by omega
  have hs : ¬ gm m 135 0 (60 * l + k) = -1 := by omega
  simp only [FX1_countGap, fX1_countGap_0, fX1_countGap_43, fX1_countGap_44, fX1_countGap_77, fX1_countGap_78, fX1_countGap_115, w1, w2, o5, ep, bnd_ok, if_neg hp, p1, if_neg hs, if_pos p0]
  by_cases hk : k + 1 < gm m 134 0 l
  · have hk2 : 0 ≤ k + 1 ∧ k + 1 < gm m 134 0 l := by omega
    obtain ⟨r0, ⟨r1, -⟩, -, ⟨r3, r4, r5⟩, ⟨r6, r7, r8⟩, -⟩ := h7 (k + 1) hk2.1 hk2.2
    have w4 : wr (wr (gm m 138 0 (60 * l + k) - gm m 137 0 (60 * l + k) + 1 - gm m 138 0 (60 * l + (k + 1))) - 1) = gm m 138 0 (60 * l + k) - gm m 137 0 (60 * l + k) + 1 - gm m 138 0 (60 * l + (k + 1)) - 1 := by rw [wq (z := gm m 138 0 (60 * l + k) - gm m 137 0 (60 * l + k) + 1 - gm m 138 0 (60 * l + (k + 1))) (by omega) (by omega), wq (by omega) (by omega)]
    have i1 : ¬ (1 : Int) = 0 := by omega
    simp only [itz, if_pos hk2, if_pos r0, r1, r3, p3, ecWithin, bnd_ok, o3, w4, p1, if_pos p11.1, w3, if_neg (show ¬ gm c 28 l (k + 1) = -1 by omega)]
    by_cases c1 : gm m 135 0 (60 * l + k) = gm m 135 0 (60 * l + (k + 1))
    · rw [if_pos c1]
      by_cases c2 : 0 ≤ gm m 138 0 (60 * l + k) ∧ gm m 138 0 (60 * l + k) ≤ clv c m l - 1
      · by_cases c3 : 0 ≤ gm m 138 0 (60 * l + (k + 1)) ∧ gm m 138 0 (60 * l + (k + 1)) ≤ clv c m l - 1
        · simp only [if_pos c2, if_pos c3, if_neg i1]
          by_cases c4 : 6 < gm m 138 0 (60 * l + k) - gm m 137 0 (60 * l + k) + 1 - gm m 138 0 (60 * l + (k + 1)) - 1
          · rw [if_pos c4, if_pos ⟨hk, c1, c2, c3, c4⟩]
          · rw [if_neg c4, if_neg (fun z => c4 z.2.2.2.2)]
        · simp only [if_pos c2, if_neg c3, if_neg i1, if_true]
          rw [if_neg (fun z => c3 z.2.2.2.1)]
      · simp only [if_neg c2, if_true]
        rw [if_neg (fun z => c2 z.2.2.1)]
    · rw [if_neg c1, if_neg (fun z => c1 z.2.1)]
  · have hk2 : ¬ (0 ≤ k + 1 ∧ k + 1 < gm m 134 0 l) := by omega
    simp only [if_neg hk2, if_true]
    rw [if_neg (fun z => hk z.1)]
abbrev bgP (m : St) (l k b : Int) : Prop := b = -1 ∧ 0 ≤ gm m 138 0 (60 * l + k) ∧ ¬ (0 < k ∧ gm m 135 0 (60 * l + (k - 1)) = gm m 135 0 (60 * l + k))
abbrev enP (m : St) (l x k b : Int) : Prop := b = -1 ∧ x ≤ gm m 138 0 (60 * l + k) - gm m 137 0 (60 * l + k) + 1 ∧ ¬ (k + 1 < gm m 134 0 l ∧ gm m 135 0 (60 * l + (k + 1)) = gm m 135 0 (60 * l + k))
theorem ecClock2 {t l k s : Int} {c m : St} (H : lin t l c m) (hl : 0 ≤ l ∧ l < 2) (k0 : 0 ≤ k) (k1 : k < gm m 134 0 l) (es : gm m 135 0 (60 * l + k) = s) :
    fX1_readClock_63 (kX1_readClock 0) l k (clv c m l) (gm c 28 l k) s c = some (0, 0, if enP m l (clv c m l) k (gm c 6 s 13) then pm c 6 s 13 (gm c 1 l 3) else c) := by
  obtain ⟨-, -, ⟨e5, e51, e52⟩, -, h7, -⟩ := id H
  obtain ⟨p0, ⟨p1, p11, -⟩, p2, ⟨p3, p4, p5⟩, ⟨p6, p7, p8⟩, -⟩ := h7 k k0 k1
  obtain ⟨o1, -⟩ := H.out hl k0 k1
  have w1 : wr (k + 1) = k + 1 := wq (by omega) (by omega)
  have w := ecIsOwner H hl (k + 1) s (by omega)
  have i1 : ¬ (1 : Int) = 0 := by omega
  have s0 : 0 ≤ s := by omega
  simp only [fX1_readClock_63, fX1_readClock_101, w1, if_pos s0, if_pos p0, o1, bnd_ok, w, itz]
  by_cases c1 : gm c 6 s 13 = -1
  · rw [if_pos c1]
    by_cases c2 : clv c m l ≤ gm m 138 0 (60 * l + k) - gm m 137 0 (60 * l + k) + 1
    · rw [if_pos c2]
      by_cases c3 : k + 1 < gm m 134 0 l ∧ gm m 135 0 (60 * l + (k + 1)) = s
      · rw [if_pos ⟨⟨by omega, c3.1⟩, c3.2⟩, if_neg (fun z => z.2.2 ⟨c3.1, by rw [es]; exact c3.2⟩)]
      · rw [if_neg (fun z => c3 ⟨z.1.2, z.2⟩), if_pos ⟨c1, c2, fun z => c3 ⟨z.1, by rw [← es]; exact z.2⟩⟩]
    · rw [if_neg c2, if_neg (fun z => c2 z.2.1)]
  · rw [if_neg c1, if_neg (fun z => c1 z.1)]
theorem ecClock {t l k s : Int} {c m : St} (H : lin t l c m) (hl : 0 ≤ l ∧ l < 2) (k0 : 0 ≤ k) (k1 : k < gm m 134 0 l) (es : gm m 135 0 (60 * l + k) = s) :
    ∃ c', FX1_readClock l k (clv c m l) c = some (0, 0, c') ∧ Kp [(6, some 12), (6, some 13)] c c' ∧ c'.2 = c.2 ∧ (∀ i, gm c' 6 i 12 = if i = s ∧ bgP m l k (gm c 6 s 12) then gm c 1 l 3 else gm c 6 i 12) ∧ (∀ i, gm c' 6 i 13 = if i = s ∧ enP m l (clv c m l) k (gm c 6 s 13) then gm c 1 l 3 else gm c 6 i 13) := by
  obtain ⟨-, -, ⟨e5, e51, e52⟩, -, h7, -⟩ := id H
  obtain ⟨p0, ⟨p1, p11, -⟩, p2, ⟨p3, p4, p5⟩, ⟨p6, p7, p8⟩, -⟩ := h7 k k0 k1
  obtain ⟨o1, o2, o3, o4, o5⟩ := H.out hl k0 k1
  have w1 : wr (k - 1) = k - 1 := wq (by omega) (by omega)
  have w := ecIsOwner H hl (k - 1) s (by omega)
  have i1 : ¬ (1 : Int) = 0 := by omega
  have s0 : 0 ≤ s := by omega
  have hp : ¬ gm c 28 l k = -1 := by omega
  have hs : ¬ s = -1 := by omega
  have A : FX1_readClock l k (clv c m l) c = fX1_readClock_63 (kX1_readClock 0) l k (clv c m l) (gm c 28 l k) s (if bgP m l k (gm c 6 s 12) then pm c 6 s 12 (gm c 1 l 3) else c) := by
    generalize hR : fX1_readClock_63 (kX1_readClock 0) l k (clv c m l) (gm c 28 l k) s (if bgP m l k (gm c 6 s 12) then pm c 6 s 12 (gm c 1 l 3) else c) = R
    simp only [FX1_readClock, fX1_readClock_0, fX1_readClock_14, fX1_readClock_18, fX1_readClock_26, o5, bnd_ok, if_neg hp, if_pos p0, p1, es, if_neg hs, if_pos s0, p3, w1, w, itz]
    by_cases c1 : gm c 6 s 12 = -1
    · rw [if_pos c1]
      by_cases c2 : gm m 138 0 (60 * l + k) < 0
      · rw [if_pos c2]
        rw [if_neg (fun z => by have := z.2.1; omega)] at hR
        exact hR
      · rw [if_neg c2]
        by_cases c3 : 0 < k ∧ gm m 135 0 (60 * l + (k - 1)) = s
        · rw [if_pos ⟨by omega, c3.2⟩]
          rw [if_neg (fun z => z.2.2 (by rw [es]; exact c3))] at hR
          exact hR
        · rw [if_neg (fun z => c3 ⟨by omega, z.2⟩)]
          rw [if_pos ⟨c1, by omega, by rw [es]; exact c3⟩] at hR
          exact hR
    · rw [if_neg c1]
      rw [if_neg (fun z => c1 z.1)] at hR
      exact hR
  have B : ∀ c1, Kp [(6, some 12)] c c1 → c1.2 = c.2 → gm c1 6 s 13 = gm c 6 s 13 → fX1_readClock_63 (kX1_readClock 0) l k (clv c m l) (gm c 28 l k) s c1 = some (0, 0, if enP m l (clv c m l) k (gm c 6 s 13) then pm c1 6 s 13 (gm c 1 l 3) else c1) := fun c1 q1 q2 q3 => by
    have := ecClock2 (H.kp q1 (Kp.rf [] m) (by decide) (by rw [q2])) hl k0 k1 es
    have x1 : clv c1 m l = clv c m l := by unfold clv; rw [q1.k (by decide)]
    rw [x1, q3, q1.k (show frk _ 28 = true by decide), q1.k (show frk _ 1 = true by decide)] at this
    exact this
  rw [A]
  by_cases d1 : bgP m l k (gm c 6 s 12)
  · rw [if_pos d1, B _ (Kp.pm (Kp.rf _ _) (Or.inr (by decide))) rfl (by simp [gm_pm])]
    by_cases d2 : enP m l (clv c m l) k (gm c 6 s 13)
    · rw [if_pos d2]
      refine ⟨_, rfl, Kp.pm (Kp.pm (Kp.rf _ _) (Or.inr (by decide))) (Or.inr (by decide)), rfl, fun i => ?_, fun i => ?_⟩
      · by_cases e : i = s
        · rw [if_pos ⟨e, d1⟩]; simp [gm_pm, e]
        · rw [if_neg (fun y => e y.1)]; simp [gm_pm, e]
      · by_cases e : i = s
        · rw [if_pos ⟨e, d2⟩]; simp [gm_pm, e]
        · rw [if_neg (fun y => e y.1)]; simp [gm_pm, e]
    · rw [if_neg d2]
      refine ⟨_, rfl, Kp.pm (Kp.rf _ _) (Or.inr (by decide)), rfl, fun i => ?_, fun i => ?_⟩
      · by_cases e : i = s
        · rw [if_pos ⟨e, d1⟩]; simp [gm_pm, e]
        · rw [if_neg (fun y => e y.1)]; simp [gm_pm, e]
      · rw [if_neg (fun z => d2 z.2)]
        simp [gm_pm]
  · rw [if_neg d1, B _ (Kp.rf _ _) rfl rfl]
    by_cases d2 : enP m l (clv c m l) k (gm c 6 s 13)
    · rw [if_pos d2]
      refine ⟨_, rfl, Kp.pm (Kp.rf _ _) (Or.inr (by decide)), rfl, fun i => ?_, fun i => ?_⟩
      · rw [if_neg (fun z => d1 z.2)]
        simp [gm_pm]
      · by_cases e : i = s
        · rw [if_pos ⟨e, d2⟩]; simp [gm_pm, e]
        · rw [if_neg (fun y => e y.1)]; simp [gm_pm, e]
    · rw [if_neg d2]
      refine ⟨_, rfl, Kp.rf _ _, rfl, fun i => ?_, fun i => ?_⟩
      · rw [if_neg (fun z => d1 z.2)]
      · rw [if_neg (fun z => d2 z.2)]
