/-! Both in one memory: what a call of the law does. -/
theorem rl.cong {t : Int} {c m c2 m2 : St} (h : rl t c m) (ec : ∀ k, k < 60 → k ≠ 12 → c2.1 k = c.1 k) (en : c2.2 = c.2) (em : ∀ k, (k = 12 ∨ 100 ≤ k) → m2.1 k = m.1 k) : rl t c2 m2 := by
  have gc : ∀ k, k < 60 → k ≠ 12 → ∀ n j, gm c2 k n j = gm c k n j := fun k h1 h2 n j => by unfold gm; rw [ec k h1 h2]
  have gM : ∀ k, (k = 12 ∨ 100 ≤ k) → ∀ n j, gm m2 k n j = gm m k n j := fun k h1 n j => by unfold gm; rw [em k h1]
  have c0 := gc 0 (by decide) (by decide)
  have c1 := gc 1 (by decide) (by decide)
  have c2 := gc 2 (by decide) (by decide)
  have c3 := gc 3 (by decide) (by decide)
  have c4 := gc 4 (by decide) (by decide)
  have c5 := gc 5 (by decide) (by decide)
  have c6 := gc 6 (by decide) (by decide)
  have c7 := gc 7 (by decide) (by decide)
  have c8 := gc 8 (by decide) (by decide)
  have c9 := gc 9 (by decide) (by decide)
  have c10 := gc 10 (by decide) (by decide)
  have c11 := gc 11 (by decide) (by decide)
  have c13 := gc 13 (by decide) (by decide)
  have c14 := gc 14 (by decide) (by decide)
  have c15 := gc 15 (by decide) (by decide)
  have c16 := gc 16 (by decide) (by decide)
  have c17 := gc 17 (by decide) (by decide)
  have c18 := gc 18 (by decide) (by decide)
  have c19 := gc 19 (by decide) (by decide)
  have c20 := gc 20 (by decide) (by decide)
  have c21 := gc 21 (by decide) (by decide)
  have c22 := gc 22 (by decide) (by decide)
  have c23 := gc 23 (by decide) (by decide)
  have c24 := gc 24 (by decide) (by decide)
  have c25 := gc 25 (by decide) (by decide)
  have c26 := gc 26 (by decide) (by decide)
  have c27 := gc 27 (by decide) (by decide)
  have c28 := gc 28 (by decide) (by decide)
  have c29 := gc 29 (by decide) (by decide)
  have m12 := gM 12 (by decide)
  have m102 := gM 102 (by decide)
  have m103 := gM 103 (by decide)
  have m104 := gM 104 (by decide)
  have m105 := gM 105 (by decide)
  have m106 := gM 106 (by decide)
  have m107 := gM 107 (by decide)
  have m108 := gM 108 (by decide)
  have m109 := gM 109 (by decide)
  have m110 := gM 110 (by decide)
  have m111 := gM 111 (by decide)
  have m112 := gM 112 (by decide)
  have m113 := gM 113 (by decide)
  have m115 := gM 115 (by decide)
  have m116 := gM 116 (by decide)
  have m117 := gM 117 (by decide)
  have m118 := gM 118 (by decide)
  have m119 := gM 119 (by decide)
  have m120 := gM 120 (by decide)
  have m121 := gM 121 (by decide)
  have m122 := gM 122 (by decide)
  have m123 := gM 123 (by decide)
  have m124 := gM 124 (by decide)
  have m125 := gM 125 (by decide)
  have m126 := gM 126 (by decide)
  have m127 := gM 127 (by decide)
  have m129 := gM 129 (by decide)
  have m130 := gM 130 (by decide)
  have m131 := gM 131 (by decide)
  have m132 := gM 132 (by decide)
  have m133 := gM 133 (by decide)
  have m134 := gM 134 (by decide)
  have m135 := gM 135 (by decide)
  have m136 := gM 136 (by decide)
  have m137 := gM 137 (by decide)
  have m138 := gM 138 (by decide)
  have m139 := gM 139 (by decide)
  have m140 := gM 140 (by decide)
  have m141 := gM 141 (by decide)
  have m143 := gM 143 (by decide)
  have m144 := gM 144 (by decide)
  have m145 := gM 145 (by decide)
  have m146 := gM 146 (by decide)
  have m147 := gM 147 (by decide)
  have m148 := gM 148 (by decide)
  have m149 := gM 149 (by decide)
  have m150 := gM 150 (by decide)
  clear gc gM ec em
  obtain ⟨h1, h2, h3, h4, h5, h6, h7, h8, h9, h10, h11, h12, h13, h14, h15⟩ := h
  refine ⟨?_, ?_, ?_, ?_, ?_, ?_, ?_, ?_, ?_, ?_, ?_, ?_, ?_, ?_, ?_⟩
  · simp only [rlA] at h1 ⊢; simp only [c11, c13, c6, c14, c0, m12, m102, m103, en]; exact h1
  · simp only [rlM] at h2 ⊢; simp only [c6, m12, m104]; exact h2
  · simp only [rlF] at h3 ⊢; simp only [c6, m12, m105]; exact h3
  · simp only [rlT] at h4 ⊢; simp only [c6, m12, m106, m107]; exact h4
  · simp only [rlS] at h5 ⊢; simp only [c7, c16, c17, m12, m108, m109, m110, m111]; exact h5
  · simp only [rlW] at h6 ⊢; simp only [c6, c15, c10, m12, m112, m113, en]; exact h6
  · simp only [rlD, jns] at h7 ⊢; simp only [c9, c22, c8, m12, m115, m116, m117, m118, m119, m120, en]; exact h7
  · simp only [rlJ] at h8 ⊢; simp only [c23, m123]; exact h8
  · simp only [rlR, jns] at h9 ⊢; simp only [c3, c25, c24, c26, m12, m115, m116, m117, m121, m122]; exact h9
  · simp only [rlO] at h10 ⊢; simp only [c6, c4, c27, m12, m102, m121, m124, m125, m126, m127]; exact h10
  · simp only [rlC] at h11 ⊢; simp only [c11, c0, m12, m129]; exact h11
  · simp only [rlL, rlP] at h12 ⊢; simp only [c1, c28, c2, c29, m12, m102, m121, m122, m124, m126, m130, m131, m132, m133, m134, m135, m136, m137, m138, m139, m140, m141, m143, en]; exact h12
  · simp only [rlH] at h13 ⊢; simp only [c5, c18, c19, c20, c21, m12, m102, m124, m130, m146, m147, m148, m149, m150]; exact h13
  · simp only [rlK] at h14 ⊢; simp only [c6, m12, m143, m144, m145]; exact h14
  · unfold rlN at h15 ⊢; rw [en]; exact h15
theorem lawC {t : Int} {a b d : Nat} {s : St} (h : rl t s s) (FC FM : St → Res) (hS : ∀ m, rl t s m → Step t (cdn a b d) s m (FC s) (FM m)) :
    ∃ (o : Nat) (v : Int) (c' : St), FC s = some (o, v, c') ∧ (o ≠ 0 → cdn a b d o ≠ 0 ∧ o ≤ 3) ∧ (∀ k, k = 12 ∨ 60 ≤ k → c'.1 k = s.1 k) ∧
      ∀ s1 : St, (∀ k, k ≠ 60 → s1.1 k = c'.1 k) → s1.2 = c'.2 → ∃ (w : Int) (m' : St), FM s1 = some (0, w, m') ∧ gm m' 12 0 0 = cdn a b d o ∧ (o = 0 → v = w) ∧ rl (t + 1) m' m' ∧ m'.1 60 = s1.1 60 ∧ m'.1 61 = s1.1 61 := by
  obtain ⟨o, v, c', b0, m0, e1, -, -, -, e5, e6, -, -, -⟩ := hS s h
  refine ⟨o, v, c', e1, e5, e6, fun s1 q1 q2 => ?_⟩
  have h1 : rl t s s1 := h.cong (fun _ _ _ => rfl) rfl (fun k hk => by
    rw [q1 k (by omega)]
    exact e6 k (by omega))
  obtain ⟨o2, v2, c2, w, m', f1, f2, f3, f4, f5, f6, f7, f8, f9⟩ := hS s1 h1
  rw [e1] at f1
  injection f1 with f1
  injection f1 with g1 f1
  injection f1 with g2 g3
  subst g1 g2 g3
  refine ⟨w, m', f2, f3, f4, f9.cong (fun k k1 k2 => ?_) ?_ (fun _ _ => rfl), f7 60 (by decide) (by decide), f7 61 (by decide) (by decide)⟩
  · rw [f7 k k2 (by omega), q1 k (by omega)]
  · rw [f8, q2]
theorem bn0_ok (v : Int) (s : St) (k : Int → St → Res) : bn0 (some (0, v, s)) k = k v s := rfl
/-- a store in the law's out -/
def lawS (o : Nat) (v : Int) (c' : St) : St := if o = 0 then pm c' 60 0 0 v else c'
theorem lawS_1 (o : Nat) (v : Int) (c' : St) (k : Nat) (hk : k ≠ 60) : (lawS o v c').1 k = c'.1 k := by
  unfold lawS
  split
  · funext n j
    show gm (pm c' 60 0 0 v) k n j = gm c' k n j
    rw [gm_pm, if_neg (fun e => hk e.1)]
  · rfl
theorem lawS_2 (o : Nat) (v : Int) (c' : St) : (lawS o v c').2 = c'.2 := by
  unfold lawS
  split <;> rfl
theorem lawS_60 (v : Int) (c' : St) : gm (lawS 0 v c') 60 0 0 = v := by
  show gm (pm c' 60 0 0 v) 60 0 0 = v
  rw [gm_pm, if_pos ⟨rfl, rfl, rfl⟩]
theorem icp_self (v : Int) : icp v v = 0 := by
  rw [icp_eq]
  simp
/-- .. true values -/
def B01 (r : Res) : Prop := ∀ v s, r = some (0, v, s) → v = 0 ∨ v = 1
theorem B01.bd {r : Res} {k : Int → St → Res} (h : ∀ x s, B01 (k x s)) : B01 (bnd r k) := fun v s e => by
  unfold bnd at e
  split at e
  · exact absurd e (by simp)
  · split at e
    · exact h _ _ v s e
    · rename_i h9
      injection e with e
      injection e with e _
      exact absurd e h9
theorem B01.it {p : Prop} [Decidable p] {a b : Res} (h1 : B01 a) (h2 : B01 b) : B01 (if p then a else b) := by
  split
  · exact h1
  · exact h2
theorem B01.no : B01 Option.none := fun v s e => absurd e (by simp)
theorem B01.ex (k : Nat) (v : Int) (s : St) : B01 (some (k + 1, v, s)) := fun v s e => by
  injection e with e
  injection e with e _
  exact absurd e (by simp)
theorem B01.ok (x : Int) (s : St) : B01 (if (x : Int) = 0 ∨ (x : Int) = 1 then some (0, x, s) else Option.none) := fun v s' e => by
  split at e
  · rename_i h
    injection e with e
    injection e with _ e
    injection e with e _
    rw [← e]
    exact h
  · exact absurd e (by simp)
theorem bFeud (a b d e : Int) (s : St) : B01 (FX11_feud a b d e s) := by
  simp only [FX11_feud, fX11_feud_0, fX11_feud_24, fX11_feud_34, fX11_feud_49]
  repeat' first | exact B01.no | exact B01.ex _ _ _ | exact B01.ok _ _ | (refine B01.bd (fun _ _ => ?_)) | (refine B01.it ?_ ?_)
theorem bJury (a b d : Int) (s : St) : B01 (FX11_jury a b d s) := by
  simp only [FX11_jury, fX11_jury_0, fX11_jury_17]
  repeat' first | exact B01.no | exact B01.ex _ _ _ | exact B01.ok _ _ | (refine B01.bd (fun _ _ => ?_)) | (refine B01.it ?_ ?_)
theorem bFits (a b d : Int) (s : St) : B01 (FX11_fits a b d s) := by
  have e73 : ∀ kb y s, B01 (fX11_fits_73 kb y s) := fun kb y s => B01.ok y s
  simp only [fX11_fits_0, fX11_fits_14, fX11_fits_19, fX11_fits_30, fX11_fits_40, fX11_fits_72, FX11_fits]
  repeat' first | exact e73 _ _ _ | exact B01.no | exact B01.ex _ _ _ | exact B01.ok _ _ | (refine B01.bd (fun _ _ => ?_)) | (refine B01.it ?_ ?_)
theorem bChange (a b d : Int) (s : St) : B01 (FX11_change a b d s) := by
  simp only [FX11_change, fX11_change_0, fX11_change_22, fX11_change_32, fX11_change_47, fX11_change_100, fX11_change_111]
  repeat' first | exact B01.no | exact B01.ex _ _ _ | exact B01.ok _ _ | (refine B01.bd (fun _ _ => ?_)) | (refine B01.it ?_ ?_)
theorem bDoubted (a b d : Int) (s : St) : B01 (FX11_isDoubted a b d s) := by
  simp only [FX11_isDoubted, fX11_isDoubted_0, fX11_isDoubted_20, fX11_isDoubted_38]
  repeat' first | exact B01.no | exact B01.ex _ _ _ | exact B01.ok _ _ | (refine B01.bd (fun _ _ => ?_)) | (refine B01.it ?_ ?_)
