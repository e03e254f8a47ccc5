/-! A call of the class and of the reference, side by side. -/
def cdn (a b d : Nat) (o : Nat) : Int := if o = 0 then 0 else if o = a then 1 else if o = b then 2 else if o = d then 3 else 0
def Step (t : Int) (cd : Nat → Int) (c m : St) (rc rm : Res) : Prop :=
  ∃ (o : Nat) (v : Int) (c' : St) (b : Int) (m' : St), rc = some (o, v, c') ∧ rm = some (0, b, m') ∧ gm m' 12 0 0 = cd o ∧ (o = 0 → v = b) ∧ (o ≠ 0 → cd o ≠ 0 ∧ o ≤ 3) ∧
    (∀ k, k = 12 ∨ 60 ≤ k → c'.1 k = c.1 k) ∧ (∀ k, k ≠ 12 → k < 100 → m'.1 k = m.1 k) ∧ m'.2 = m.2 ∧ rl (t + 1) c' m'
def cls (T : List (Nat × Option Int)) : Bool := T.all fun q => decide (q.1 < 60) && !(q.1 == 12)
def mdl (U : List (Nat × Option Int)) : Bool := U.all fun q => decide (100 ≤ q.1) || (q.1 == 12)
theorem Kp.cls {T : List (Nat × Option Int)} {c c' : St} (h : Kp T c c') (hT : cls T = true) (k : Nat) (hk : k = 12 ∨ 60 ≤ k) : c'.1 k = c.1 k := by
  funext n j
  refine h k n j (fun ⟨q, hq, e1, _⟩ => ?_)
  have h9 := List.all_eq_true.mp hT q hq
  simp only [Bool.and_eq_true, decide_eq_true_eq, Bool.not_eq_true', beq_eq_false_iff_ne] at h9
  omega
theorem Kp.mdl {U : List (Nat × Option Int)} {m m' : St} (h : Kp U m m') (hU : mdl U = true) (k : Nat) (hk : k ≠ 12) (hk2 : k < 100) : m'.1 k = m.1 k := by
  funext n j
  refine h k n j (fun ⟨q, hq, e1, _⟩ => ?_)
  have h9 := List.all_eq_true.mp hU q hq
  simp only [Bool.or_eq_true, decide_eq_true_eq, beq_iff_eq] at h9
  omega
theorem rlN.st {t : Int} {c c' : St} (h : rlN t c) (e : c'.2 = c.2) : rlN (t + 1) c' := by
  obtain ⟨⟨a1, a2⟩, ⟨b1, b2⟩, ⟨d1, d2⟩, f⟩ := h
  unfold rlN
  rw [e]
  exact ⟨⟨a1, by omega⟩, ⟨b1, by omega⟩, ⟨d1, by omega⟩, f⟩
theorem thw_2 (c : St) (k : Nat) (h : k ≠ 19) : (thw c).2 k = c.2 k := by
  show (if k = 19 then c.2 19 + 1 else c.2 k) = c.2 k
  rw [if_neg h]
theorem rlN.th {t : Int} {c : St} (h : rlN t c) : rlN (t + 1) (thw c) := by
  obtain ⟨⟨a1, a2⟩, ⟨b1, b2⟩, ⟨d1, d2⟩, f⟩ := h
  have e : (thw c).2 19 = c.2 19 + 1 := rfl
  refine ⟨by rw [thw_2 c 2 (by decide)]; omega, by rw [thw_2 c 10 (by decide)]; omega, by rw [e]; omega, fun k => ?_⟩
  by_cases h9 : k = 19
  · subst h9; rw [e]; have := f 19; omega
  · rw [thw_2 c k h9]; exact f k
theorem Kp.th (c : St) : Kp [] c (thw c) := fun _ _ _ _ => rfl
/-- nothing but the word of what was thrown changes -/
theorem rl.thr {t : Int} {c m : St} (h : rl t c m) (k : Int) : rl (t + 1) (thw c) (pm m 12 0 0 k) := by
  refine rl.keep (T := []) (U := [(12, some 0)]) h (Kp.th c) (Kp.pm (Kp.rf _ _) (Or.inr (by decide))) (by omega) (fun _ => thw_2 c 6 (by decide)) (fun _ => thw_2 c 8 (by decide)) (by rw [thw_2 c 10 (by decide)]; omega) (by rw [thw_2 c 2 (by decide)]; omega) h.2.2.2.2.2.2.2.2.2.2.2.2.2.2.th ?_ ?_ ?_ ?_ ?_ ?_ ?_ ?_ ?_ ?_ ?_ ?_ ?_ ?_ <;> exact fun e => absurd e (by decide)
theorem Step.thr {t : Int} {a b d : Nat} {c m : St} {rc rm : Res} (h : rl t c m) {o : Nat} {v x k : Int} (ho : o ≠ 0) (h1 : rc = some (o, v, thw c)) (h2 : rm = some (0, x, pm m 12 0 0 k)) (hk : k = cdn a b d o) (h9 : cdn a b d o ≠ 0 ∧ o ≤ 3 := by decide) : Step t (cdn a b d) c m rc rm :=
  ⟨o, v, thw c, x, pm m 12 0 0 k, h1, h2, by rw [gm_pm, if_pos ⟨rfl, rfl, rfl⟩]; exact hk, fun e => absurd e ho, fun _ => h9, (Kp.th c).cls (by decide), Kp.mdl (U := [(12, some 0)]) (Kp.pm (Kp.rf _ _) (Or.inr (by decide))) (by decide), rfl, h.thr k⟩
theorem Step.ok {t : Int} {a b d : Nat} {T U : List (Nat × Option Int)} {c m c' m' : St} {rc rm : Res} {v : Int} (h1 : rc = some (0, v, c')) (h2 : rm = some (0, v, m')) (hc : Kp T c c') (hm : Kp U m m') (hT : cls T = true) (hU : mdl U = true) (h0 : gm m' 12 0 0 = 0) (h3 : m'.2 = m.2) (h4 : rl (t + 1) c' m') : Step t (cdn a b d) c m rc rm :=
  ⟨0, v, c', v, m', h1, h2, h0, fun _ => rfl, fun e => absurd rfl e, hc.cls hT, hm.mdl hU, h3, h4⟩
/-- a call without new objects: what is touched must be shown anew -/
theorem rl.keep0 {t : Int} {T U : List (Nat × Option Int)} {c c' m m' : St} (h : rl t c m) (hc : Kp T c c') (hm : Kp U m m') (hn : c'.2 = c.2) (kA : ckA T U = false → rlA c' m') (kM : ckM T U = false → rlM (t + 1) c' m') (kF : ckF T U = false → rlF c' m') (kT : ckT T U = false → rlT c' m') (kS : ckS T U = false → rlS (t + 1) c' m') (kW : ckW T U = false → rlW c' m') (kD : ckD T U = false → rlD c' m') (kJ : ckJ T U = false → rlJ c' m') (kR : ckR T U = false → rlR c' m') (kO : ckO T U = false → rlO c' m') (kC : ckC T U = false → rlC c' m') (kL : ckL T U = false → rlL (t + 1) c' m') (kH : ckH T U = false → rlH c' m') (kK : ckK T U = false → rlK (t + 1) c' m') : rl (t + 1) c' m' :=
  rl.keep h hc hm (by omega) (fun _ => by rw [hn]) (fun _ => by rw [hn]) (by rw [hn]; exact Int.le_refl _) (by rw [hn]; exact Int.le_refl _) (h.2.2.2.2.2.2.2.2.2.2.2.2.2.2.st hn) kA kM kF kT kS kW kD kJ kR kO kC kL kH kK
/-- a call that changes nothing -/
theorem rl.same {t : Int} {c m : St} (h : rl t c m) : rl (t + 1) c (pm m 12 0 0 0) := by
  refine rl.keep0 (T := []) (U := [(12, some 0)]) h (Kp.rf _ _) (Kp.pm (Kp.rf _ _) (Or.inr (by decide))) rfl ?_ ?_ ?_ ?_ ?_ ?_ ?_ ?_ ?_ ?_ ?_ ?_ ?_ ?_ <;> exact fun e => absurd e (by decide)
theorem Step.rd {t : Int} {a b d : Nat} {c m : St} {rc rm : Res} (h : rl t c m) {v : Int} (h1 : rc = some (0, v, c)) (h2 : rm = some (0, v, pm m 12 0 0 0)) : Step t (cdn a b d) c m rc rm :=
  Step.ok (T := []) (U := [(12, some 0)]) h1 h2 (Kp.rf _ _) (Kp.pm (Kp.rf _ _) (Or.inr (by decide))) (by decide) (by decide) rfl rfl h.same
theorem op_draw {t : Int} {c m : St} (h : rl t c m) (p : Int) : Step t (cdn 1 9 9) c m (FX11_draw 0 p c) (FX12_draw 0 p m) := by
  have hC := h.2.2.2.2.2.2.2.2.2.2.1
  by_cases hp : 0 ≤ p ∧ p < 5
  · refine Step.ok (T := [(11, some 4)]) (U := [(12, none)]) (v := gm m 12 0 51) (c' := pm c 11 0 4 p) (m' := pm (pm m 12 0 0 0) 12 0 51 p) ?_ ?_ (Kp.pm (Kp.rf _ _) (Or.inr (by decide))) (Kp.pm (Kp.pm (Kp.rf _ _) (Or.inl (by decide))) (Or.inl (by decide))) (by decide) (by decide) (by simp [gm_pm]) rfl ?_
    · simp [FX11_draw, fX11_draw_0, fX11_draw_18, ecIsCategory, bnd_ok, hp, hC.1.1]
    · have hp' : 0 ≤ p ∧ p ≤ 4 := by omega
      simp [FX12_draw, fX12_draw_0, fX12_draw_14, fX12_draw_15, fX12_draw_23, emIn, emHolds, bnd_ok, hp', gm_pm]
    · refine rl.keep0 (T := [(11, some 4)]) (U := [(12, some 0), (12, some 51)]) h (Kp.pm (Kp.rf _ _) (Or.inr (by decide))) (Kp.pm (Kp.pm (Kp.rf _ _) (Or.inr (by decide))) (Or.inr (by decide))) rfl ?_ ?_ ?_ ?_ ?_ ?_ ?_ ?_ ?_ ?_ ?_ ?_ ?_ ?_ <;> first | exact fun e => absurd e (by decide) | intro _
      obtain ⟨⟨a1, a2, a3⟩, a4, a5, a6⟩ := hC
      simp only [rlC, gm_pm]
      simp [a4, a5, a6]
      exact hp
  · refine Step.thr h (o := 1) (v := 0) (x := 0) (k := 1) (by decide) ?_ ?_ rfl
    · simp [FX11_draw, fX11_draw_0, fX11_draw_18, ecIsCategory, bnd_ok, hp]
    · have hp' : ¬ (0 ≤ p ∧ p ≤ 4) := by omega
      simp [FX12_draw, fX12_draw_0, fX12_draw_14, fX12_draw_15, fX12_draw_23, emIn, emHolds, bnd_ok, hp']
