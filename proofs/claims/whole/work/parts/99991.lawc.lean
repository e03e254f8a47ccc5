/-! The law: each call. -/
theorem wL_society {p1 p2 : Int} {s : St} {o : Nat} {v : Int} {c' : St} (h : FX11_society 0 p1 p2 s = some (o, v, c')) (ho : o ≠ 0 → cdn 1 2 9 o ≠ 0 ∧ o ≤ 3) : FL_society 0 p1 p2 0 s = some (0, cdn 1 2 9 o, lawS o v c') := by
  simp only [FL_society, fL_society_0, fL_society_13, fL_society_17, fL_society_21, h]
  by_cases e : o = 0
  · subst e
    rw [bnh_ok]
    simp [lawS, cdn]
  · obtain ⟨h1, h2⟩ := ho e
    rw [bnh_ex o e]
    have h3 : o = 1 ∨ o = 2 ∨ o = 3 := by omega
    rcases h3 with h3 | h3 | h3 <;> subst h3 <;> first | rfl | exact absurd rfl h1
theorem lL_society {t i L a0 : Int} {s : St} (ht : 0 ≤ t ∧ t ≤ 600) (h : rl t s s) (hL : gm s 61 1 0 = L) (hL2 : L ≤ 100000) (i0 : 0 ≤ i) (i1 : i + 7 ≤ L) : ∃ m', (∀ n, fL_law_188 (kL_law (n + 1)) a0 0 0 0 i s = fL_law_23 (kL_law n) a0 0 0 0 (i + 7) m') ∧ rl (t + 1) m' m' ∧ m'.1 61 = s.1 61 := by
  have w7 : wr (i + 7) = i + 7 := wq (by omega) (by omega)
  have w1 : wr (i + 1) = i + 1 := wq (by omega) (by omega)
  have r1 : 0 ≤ i + 1 ∧ i + 1 < L := by omega
  have w2 : wr (i + 2) = i + 2 := wq (by omega) (by omega)
  have r2 : 0 ≤ i + 2 ∧ i + 2 < L := by omega
  obtain ⟨o, v, c', e1, e2, e3, e4⟩ := lawC (a := 1) (b := 2) (d := 9) h (fun s9 => FX11_society 0 (gm s 61 0 (i + 1)) (gm s 61 0 (i + 2)) s9) (fun s9 => FX12_society 0 (gm s 61 0 (i + 1)) (gm s 61 0 (i + 2)) s9) (fun m h' => op_society h' (gm s 61 0 (i + 1)) (gm s 61 0 (i + 2)))
  have e5 := wL_society e1 e2
  obtain ⟨w, m', f1, f2, f3, f4, f5, f6⟩ := e4 (lawS o v c') (lawS_1 o v c') (lawS_2 o v c')
  have g61 : (lawS o v c').1 61 = s.1 61 := by rw [lawS_1 _ _ _ 61 (by decide)]; exact e3 61 (by decide)
  have h60 : o = 0 → gm m' 60 0 0 = v := fun e => by
    have : gm m' 60 0 0 = gm (lawS o v c') 60 0 0 := by unfold gm; rw [f5]
    rw [this, e]; exact lawS_60 v c'
  have g1 : ∀ z j, gm (lawS o v c') 61 z j = gm s 61 z j := fun z j => by unfold gm; rw [g61]
  (try dsimp only at f1)
  have f2' := emThrown 0 m'
  rw [f2] at f2'
  refine ⟨m', fun n => ?_, f4, f6.trans g61⟩
  generalize hs1 : lawS o v c' = s1 at e5 f1 g1 h60
  generalize hR : fL_law_23 (kL_law n) a0 0 0 0 (i + 7) m' = R
  simp only [fL_law_188, fL_law_236, fL_law_253, fL_law_2636, hL, w1, if_pos r1, w2, if_pos r2, e5, bn0_ok, g1, f1, bnd_ok, f2', if_true, w7]
  rw [uL_law_23]
  by_cases e : o = 0
  · rw [h60 e, f3 e, e, icp_self, if_pos (show cdn 1 2 9 0 = 0 from rfl)]
    simp
    exact hR
  · rw [if_neg (e2 e).1]
    exact hR
theorem wL_feud {p1 p2 p3 : Int} {s : St} {o : Nat} {v : Int} {c' : St} (h : FX11_feud 0 p1 p2 p3 s = some (o, v, c')) (ho : o ≠ 0 → cdn 3 1 9 o ≠ 0 ∧ o ≤ 3) : FL_feud 0 p1 p2 p3 0 s = some (0, cdn 3 1 9 o, lawS o v c') := by
  simp only [FL_feud, fL_feud_0, fL_feud_17, fL_feud_18, fL_feud_22, fL_feud_26, fL_feud_30, h]
  by_cases e : o = 0
  · subst e
    rw [bnh_ok]
    have hv := bFeud _ _ _ _ _ v c' h
    rcases hv with hv | hv <;> subst hv <;> simp [lawS, cdn]
  · obtain ⟨h1, h2⟩ := ho e
    rw [bnh_ex o e]
    have h3 : o = 1 ∨ o = 2 ∨ o = 3 := by omega
    rcases h3 with h3 | h3 | h3 <;> subst h3 <;> first | rfl | exact absurd rfl h1
theorem lL_feud {t i L a0 : Int} {s : St} (ht : 0 ≤ t ∧ t ≤ 600) (h : rl t s s) (hL : gm s 61 1 0 = L) (hL2 : L ≤ 100000) (i0 : 0 ≤ i) (i1 : i + 7 ≤ L) : ∃ m', (∀ n, fL_law_256 (kL_law (n + 1)) a0 0 0 0 i s = fL_law_23 (kL_law n) a0 0 0 0 (i + 7) m') ∧ rl (t + 1) m' m' ∧ m'.1 61 = s.1 61 := by
  have w7 : wr (i + 7) = i + 7 := wq (by omega) (by omega)
  have w1 : wr (i + 1) = i + 1 := wq (by omega) (by omega)
  have r1 : 0 ≤ i + 1 ∧ i + 1 < L := by omega
  have w2 : wr (i + 2) = i + 2 := wq (by omega) (by omega)
  have r2 : 0 ≤ i + 2 ∧ i + 2 < L := by omega
  have w3 : wr (i + 3) = i + 3 := wq (by omega) (by omega)
  have r3 : 0 ≤ i + 3 ∧ i + 3 < L := by omega
  obtain ⟨bv, hbv⟩ : ∃ bv : Int, bv = (if gm s 61 0 (i + 3) = 0 then 0 else 1) := ⟨_, rfl⟩
  have hb : bv = 0 ∨ bv = 1 := by rw [hbv]; split <;> simp
  obtain ⟨o, v, c', e1, e2, e3, e4⟩ := lawC (a := 3) (b := 1) (d := 9) h (fun s9 => FX11_feud 0 (gm s 61 0 (i + 1)) (gm s 61 0 (i + 2)) bv s9) (fun s9 => FX12_feud 0 (gm s 61 0 (i + 1)) (gm s 61 0 (i + 2)) bv s9) (fun m h' => op_feud h' (gm s 61 0 (i + 1)) (gm s 61 0 (i + 2)) hb)
  have e5 := wL_feud e1 e2
  obtain ⟨w, m', f1, f2, f3, f4, f5, f6⟩ := e4 (lawS o v c') (lawS_1 o v c') (lawS_2 o v c')
  have g61 : (lawS o v c').1 61 = s.1 61 := by rw [lawS_1 _ _ _ 61 (by decide)]; exact e3 61 (by decide)
  have g1 : ∀ z j, gm (lawS o v c') 61 z j = gm s 61 z j := fun z j => by unfold gm; rw [g61]
  (try dsimp only at f1)
  have f2' := emThrown 0 m'
  rw [f2] at f2'
  have h60 : o = 0 → gm m' 60 0 0 = v := fun e => by
    have : gm m' 60 0 0 = gm (lawS o v c') 60 0 0 := by unfold gm; rw [f5]
    rw [this, e]; exact lawS_60 v c'
  refine ⟨m', fun n => ?_, f4, f6.trans g61⟩
  generalize hs1 : lawS o v c' = s1 at e5 f1 g1 h60
  generalize hR : fL_law_23 (kL_law n) a0 0 0 0 (i + 7) m' = R
  simp only [fL_law_256, fL_law_282, fL_law_283, fL_law_315, fL_law_316, fL_law_332, fL_law_349, fL_law_350, fL_law_356, fL_law_2636, hL, w1, if_pos r1, w2, if_pos r2, w3, if_pos r3, g1, w7]
  have h01 : o = 0 → v = 0 ∨ v = 1 := fun e => bFeud _ _ _ _ _ v c' (by rw [← e]; exact e1)
  have tail : ∀ k : Res, (k = R) → (if cdn 3 1 9 o = 0 then if w = 0 then if icp (gm m' 60 0 0) 0 = 0 then k else if (0 : Int) = 0 ∨ (0 : Int) = 1 then some (0, 0, m') else none else if icp (gm m' 60 0 0) 1 = 0 then k else if (0 : Int) = 0 ∨ (0 : Int) = 1 then some (0, 0, m') else none else k) = R := fun k hk => by
    by_cases e : o = 0
    · have a1 := f3 e
      have a2 := h01 e
      rw [h60 e, e]
      rw [if_pos (show cdn 3 1 9 0 = 0 from rfl)]
      rcases a2 with a2 | a2
      · rw [if_pos (by omega), a2, icp_self, if_pos rfl]; exact hk
      · rw [if_neg (by omega), a2, icp_self, if_pos rfl]; exact hk
    · rw [if_neg (e2 e).1]; exact hk
  by_cases z : gm s 61 0 (i + 3) = 0
  · rw [if_pos z] at hbv
    rw [hbv] at e5 f1
    simp only [if_pos z, e5, bn0_ok, g1, hL, w1, if_pos r1, w2, if_pos r2, w3, if_pos r3, f1, bnd_ok, f2', if_true]
    first
      | exact tail _ (by rw [uL_law_23]; exact hR)
      | (simp only [true_and, and_true, Nat.le_refl, if_true]; exact tail _ (by rw [uL_law_23]; exact hR))
  · rw [if_neg z] at hbv
    rw [hbv] at e5 f1
    simp only [if_neg z, e5, bn0_ok, g1, hL, w1, if_pos r1, w2, if_pos r2, w3, if_pos r3, f1, bnd_ok, f2', if_true]
    first
      | exact tail _ (by rw [uL_law_23]; exact hR)
      | (simp only [true_and, and_true, Nat.le_refl, if_true]; exact tail _ (by rw [uL_law_23]; exact hR))
theorem wL_theme {p1 p2 p3 : Int} {s : St} {o : Nat} {v : Int} {c' : St} (h : FX11_theme 0 p1 p2 p3 s = some (o, v, c')) (ho : o ≠ 0 → cdn 3 1 9 o ≠ 0 ∧ o ≤ 3) : FL_theme 0 p1 p2 p3 0 s = some (0, cdn 3 1 9 o, lawS o v c') := by
  simp only [FL_theme, fL_theme_0, fL_theme_15, fL_theme_19, fL_theme_23, h]
  by_cases e : o = 0
  · subst e
    rw [bnh_ok]
    simp [lawS, cdn]
  · obtain ⟨h1, h2⟩ := ho e
    rw [bnh_ex o e]
    have h3 : o = 1 ∨ o = 2 ∨ o = 3 := by omega
    rcases h3 with h3 | h3 | h3 <;> subst h3 <;> first | rfl | exact absurd rfl h1
theorem lL_theme {t i L a0 : Int} {s : St} (ht : 0 ≤ t ∧ t ≤ 600) (h : rl t s s) (hL : gm s 61 1 0 = L) (hL2 : L ≤ 100000) (i0 : 0 ≤ i) (i1 : i + 7 ≤ L) : ∃ m', (∀ n, fL_law_359 (kL_law (n + 1)) a0 0 0 0 i s = fL_law_23 (kL_law n) a0 0 0 0 (i + 7) m') ∧ rl (t + 1) m' m' ∧ m'.1 61 = s.1 61 := by
  have w7 : wr (i + 7) = i + 7 := wq (by omega) (by omega)
  have w1 : wr (i + 1) = i + 1 := wq (by omega) (by omega)
  have r1 : 0 ≤ i + 1 ∧ i + 1 < L := by omega
  have w2 : wr (i + 2) = i + 2 := wq (by omega) (by omega)
  have r2 : 0 ≤ i + 2 ∧ i + 2 < L := by omega
  have w3 : wr (i + 3) = i + 3 := wq (by omega) (by omega)
  have r3 : 0 ≤ i + 3 ∧ i + 3 < L := by omega
  obtain ⟨o, v, c', e1, e2, e3, e4⟩ := lawC (a := 3) (b := 1) (d := 9) h (fun s9 => FX11_theme 0 (gm s 61 0 (i + 1)) (gm s 61 0 (i + 2)) (gm s 61 0 (i + 3)) s9) (fun s9 => FX12_theme 0 (gm s 61 0 (i + 1)) (gm s 61 0 (i + 2)) (gm s 61 0 (i + 3)) s9) (fun m h' => op_theme h' (gm s 61 0 (i + 1)) (gm s 61 0 (i + 2)) (gm s 61 0 (i + 3)))
  have e5 := wL_theme e1 e2
  obtain ⟨w, m', f1, f2, f3, f4, f5, f6⟩ := e4 (lawS o v c') (lawS_1 o v c') (lawS_2 o v c')
  have g61 : (lawS o v c').1 61 = s.1 61 := by rw [lawS_1 _ _ _ 61 (by decide)]; exact e3 61 (by decide)
  have h60 : o = 0 → gm m' 60 0 0 = v := fun e => by
    have : gm m' 60 0 0 = gm (lawS o v c') 60 0 0 := by unfold gm; rw [f5]
    rw [this, e]; exact lawS_60 v c'
  have g1 : ∀ z j, gm (lawS o v c') 61 z j = gm s 61 z j := fun z j => by unfold gm; rw [g61]
  (try dsimp only at f1)
  have f2' := emThrown 0 m'
  rw [f2] at f2'
  refine ⟨m', fun n => ?_, f4, f6.trans g61⟩
  generalize hs1 : lawS o v c' = s1 at e5 f1 g1 h60
  generalize hR : fL_law_23 (kL_law n) a0 0 0 0 (i + 7) m' = R
  simp only [fL_law_359, fL_law_419, fL_law_436, fL_law_2636, hL, w1, if_pos r1, w2, if_pos r2, w3, if_pos r3, e5, bn0_ok, g1, f1, bnd_ok, f2', if_true, w7]
  rw [uL_law_23]
  by_cases e : o = 0
  · rw [h60 e, f3 e, e, icp_self, if_pos (show cdn 3 1 9 0 = 0 from rfl)]
    simp
    exact hR
  · rw [if_neg (e2 e).1]
    exact hR
theorem wL_song {p1 : Int} {s : St} {o : Nat} {v : Int} {c' : St} (h : FX11_song 0 p1 s = some (o, v, c')) (ho : o ≠ 0 → cdn 3 2 9 o ≠ 0 ∧ o ≤ 3) : FL_song 0 p1 0 s = some (0, cdn 3 2 9 o, lawS o v c') := by
  simp only [FL_song, fL_song_0, fL_song_12, fL_song_15, fL_song_18, h]
  by_cases e : o = 0
  · subst e
    rw [bnh_ok]
    simp [lawS, cdn]
  · obtain ⟨h1, h2⟩ := ho e
    rw [bnh_ex o e]
    have h3 : o = 1 ∨ o = 2 ∨ o = 3 := by omega
    rcases h3 with h3 | h3 | h3 <;> subst h3 <;> first | rfl | exact absurd rfl h1
theorem lL_song {t i L a0 : Int} {s : St} (ht : 0 ≤ t ∧ t ≤ 600) (h : rl t s s) (hL : gm s 61 1 0 = L) (hL2 : L ≤ 100000) (i0 : 0 ≤ i) (i1 : i + 7 ≤ L) : ∃ m', (∀ n, fL_law_439 (kL_law (n + 1)) a0 0 0 0 i s = fL_law_23 (kL_law n) a0 0 0 0 (i + 7) m') ∧ rl (t + 1) m' m' ∧ m'.1 61 = s.1 61 := by
  have w7 : wr (i + 7) = i + 7 := wq (by omega) (by omega)
  have w1 : wr (i + 1) = i + 1 := wq (by omega) (by omega)
  have r1 : 0 ≤ i + 1 ∧ i + 1 < L := by omega
  obtain ⟨o, v, c', e1, e2, e3, e4⟩ := lawC (a := 3) (b := 2) (d := 9) h (fun s9 => FX11_song 0 (gm s 61 0 (i + 1)) s9) (fun s9 => FX12_song 0 (gm s 61 0 (i + 1)) s9) (fun m h' => op_song h' (gm s 61 0 (i + 1)))
  have e5 := wL_song e1 e2
  obtain ⟨w, m', f1, f2, f3, f4, f5, f6⟩ := e4 (lawS o v c') (lawS_1 o v c') (lawS_2 o v c')
  have g61 : (lawS o v c').1 61 = s.1 61 := by rw [lawS_1 _ _ _ 61 (by decide)]; exact e3 61 (by decide)
  have h60 : o = 0 → gm m' 60 0 0 = v := fun e => by
    have : gm m' 60 0 0 = gm (lawS o v c') 60 0 0 := by unfold gm; rw [f5]
    rw [this, e]; exact lawS_60 v c'
  have g1 : ∀ z j, gm (lawS o v c') 61 z j = gm s 61 z j := fun z j => by unfold gm; rw [g61]
  (try dsimp only at f1)
  have f2' := emThrown 0 m'
  rw [f2] at f2'
  refine ⟨m', fun n => ?_, f4, f6.trans g61⟩
  generalize hs1 : lawS o v c' = s1 at e5 f1 g1 h60
  generalize hR : fL_law_23 (kL_law n) a0 0 0 0 (i + 7) m' = R
  simp only [fL_law_439, fL_law_475, fL_law_492, fL_law_2636, hL, w1, if_pos r1, e5, bn0_ok, g1, f1, bnd_ok, f2', if_true, w7]
  rw [uL_law_23]
  by_cases e : o = 0
  · rw [h60 e, f3 e, e, icp_self, if_pos (show cdn 3 2 9 0 = 0 from rfl)]
    simp
    exact hR
  · rw [if_neg (e2 e).1]
    exact hR
theorem wL_vote {p1 p2 p3 : Int} {s : St} {o : Nat} {v : Int} {c' : St} (h : FX11_vote 0 p1 p2 p3 s = some (o, v, c')) (ho : o ≠ 0 → cdn 3 1 2 o ≠ 0 ∧ o ≤ 3) : FL_vote 0 p1 p2 p3 0 s = some (0, cdn 3 1 2 o, lawS o v c') := by
  simp only [FL_vote, fL_vote_0, fL_vote_15, fL_vote_19, fL_vote_23, fL_vote_27, h]
  by_cases e : o = 0
  · subst e
    rw [bnh_ok]
    simp [lawS, cdn]
  · obtain ⟨h1, h2⟩ := ho e
    rw [bnh_ex o e]
    have h3 : o = 1 ∨ o = 2 ∨ o = 3 := by omega
    rcases h3 with h3 | h3 | h3 <;> subst h3 <;> first | rfl | exact absurd rfl h1
theorem lL_vote {t i L a0 : Int} {s : St} (ht : 0 ≤ t ∧ t ≤ 600) (h : rl t s s) (hL : gm s 61 1 0 = L) (hL2 : L ≤ 100000) (i0 : 0 ≤ i) (i1 : i + 7 ≤ L) : ∃ m', (∀ n, fL_law_495 (kL_law (n + 1)) a0 0 0 0 i s = fL_law_23 (kL_law n) a0 0 0 0 (i + 7) m') ∧ rl (t + 1) m' m' ∧ m'.1 61 = s.1 61 := by
  have w7 : wr (i + 7) = i + 7 := wq (by omega) (by omega)
  have w1 : wr (i + 1) = i + 1 := wq (by omega) (by omega)
  have r1 : 0 ≤ i + 1 ∧ i + 1 < L := by omega
  have w2 : wr (i + 2) = i + 2 := wq (by omega) (by omega)
  have r2 : 0 ≤ i + 2 ∧ i + 2 < L := by omega
  have w3 : wr (i + 3) = i + 3 := wq (by omega) (by omega)
  have r3 : 0 ≤ i + 3 ∧ i + 3 < L := by omega
  obtain ⟨o, v, c', e1, e2, e3, e4⟩ := lawC (a := 3) (b := 1) (d := 2) h (fun s9 => FX11_vote 0 (gm s 61 0 (i + 1)) (gm s 61 0 (i + 2)) (gm s 61 0 (i + 3)) s9) (fun s9 => FX12_vote 0 (gm s 61 0 (i + 1)) (gm s 61 0 (i + 2)) (gm s 61 0 (i + 3)) s9) (fun m h' => op_vote (by omega) h' (gm s 61 0 (i + 1)) (gm s 61 0 (i + 2)) (gm s 61 0 (i + 3)))
  have e5 := wL_vote e1 e2
  obtain ⟨w, m', f1, f2, f3, f4, f5, f6⟩ := e4 (lawS o v c') (lawS_1 o v c') (lawS_2 o v c')
  have g61 : (lawS o v c').1 61 = s.1 61 := by rw [lawS_1 _ _ _ 61 (by decide)]; exact e3 61 (by decide)
  have h60 : o = 0 → gm m' 60 0 0 = v := fun e => by
    have : gm m' 60 0 0 = gm (lawS o v c') 60 0 0 := by unfold gm; rw [f5]
    rw [this, e]; exact lawS_60 v c'
  have g1 : ∀ z j, gm (lawS o v c') 61 z j = gm s 61 z j := fun z j => by unfold gm; rw [g61]
  (try dsimp only at f1)
  have f2' := emThrown 0 m'
  rw [f2] at f2'
  refine ⟨m', fun n => ?_, f4, f6.trans g61⟩
  generalize hs1 : lawS o v c' = s1 at e5 f1 g1 h60
  generalize hR : fL_law_23 (kL_law n) a0 0 0 0 (i + 7) m' = R
  simp only [fL_law_495, fL_law_555, fL_law_572, fL_law_2636, hL, w1, if_pos r1, w2, if_pos r2, w3, if_pos r3, e5, bn0_ok, g1, f1, bnd_ok, f2', if_true, w7]
  rw [uL_law_23]
  by_cases e : o = 0
  · rw [h60 e, f3 e, e, icp_self, if_pos (show cdn 3 1 2 0 = 0 from rfl)]
    simp
    exact hR
  · rw [if_neg (e2 e).1]
    exact hR
theorem wL_round {p1 : Int} {s : St} {o : Nat} {v : Int} {c' : St} (h : FX11_round 0 p1 s = some (o, v, c')) (ho : o ≠ 0 → cdn 3 2 9 o ≠ 0 ∧ o ≤ 3) : FL_round 0 p1 0 s = some (0, cdn 3 2 9 o, lawS o v c') := by
  simp only [FL_round, fL_round_0, fL_round_12, fL_round_15, fL_round_18, h]
  by_cases e : o = 0
  · subst e
    rw [bnh_ok]
    simp [lawS, cdn]
  · obtain ⟨h1, h2⟩ := ho e
    rw [bnh_ex o e]
    have h3 : o = 1 ∨ o = 2 ∨ o = 3 := by omega
    rcases h3 with h3 | h3 | h3 <;> subst h3 <;> first | rfl | exact absurd rfl h1
theorem lL_round {t i L a0 : Int} {s : St} (ht : 0 ≤ t ∧ t ≤ 600) (h : rl t s s) (hL : gm s 61 1 0 = L) (hL2 : L ≤ 100000) (i0 : 0 ≤ i) (i1 : i + 7 ≤ L) : ∃ m', (∀ n, fL_law_575 (kL_law (n + 1)) a0 0 0 0 i s = fL_law_23 (kL_law n) a0 0 0 0 (i + 7) m') ∧ rl (t + 1) m' m' ∧ m'.1 61 = s.1 61 := by
  have w7 : wr (i + 7) = i + 7 := wq (by omega) (by omega)
  have w1 : wr (i + 1) = i + 1 := wq (by omega) (by omega)
  have r1 : 0 ≤ i + 1 ∧ i + 1 < L := by omega
  obtain ⟨o, v, c', e1, e2, e3, e4⟩ := lawC (a := 3) (b := 2) (d := 9) h (fun s9 => FX11_round 0 (gm s 61 0 (i + 1)) s9) (fun s9 => FX12_round 0 (gm s 61 0 (i + 1)) s9) (fun m h' => op_round h' (gm s 61 0 (i + 1)))
  have e5 := wL_round e1 e2
  obtain ⟨w, m', f1, f2, f3, f4, f5, f6⟩ := e4 (lawS o v c') (lawS_1 o v c') (lawS_2 o v c')
  have g61 : (lawS o v c').1 61 = s.1 61 := by rw [lawS_1 _ _ _ 61 (by decide)]; exact e3 61 (by decide)
  have h60 : o = 0 → gm m' 60 0 0 = v := fun e => by
    have : gm m' 60 0 0 = gm (lawS o v c') 60 0 0 := by unfold gm; rw [f5]
    rw [this, e]; exact lawS_60 v c'
  have g1 : ∀ z j, gm (lawS o v c') 61 z j = gm s 61 z j := fun z j => by unfold gm; rw [g61]
  (try dsimp only at f1)
  have f2' := emThrown 0 m'
  rw [f2] at f2'
  refine ⟨m', fun n => ?_, f4, f6.trans g61⟩
  generalize hs1 : lawS o v c' = s1 at e5 f1 g1 h60
  generalize hR : fL_law_23 (kL_law n) a0 0 0 0 (i + 7) m' = R
  simp only [fL_law_575, fL_law_611, fL_law_628, fL_law_2636, hL, w1, if_pos r1, e5, bn0_ok, g1, f1, bnd_ok, f2', if_true, w7]
  rw [uL_law_23]
  by_cases e : o = 0
  · rw [h60 e, f3 e, e, icp_self, if_pos (show cdn 3 2 9 0 = 0 from rfl)]
    simp
    exact hR
  · rw [if_neg (e2 e).1]
    exact hR
theorem wL_street {p1 p2 p3 p4 p5 p6 : Int} {s : St} {o : Nat} {v : Int} {c' : St} (h : FX11_street 0 p1 p2 p3 p4 p5 p6 s = some (o, v, c')) (ho : o ≠ 0 → cdn 3 1 2 o ≠ 0 ∧ o ≤ 3) : FL_street 0 p1 p2 p3 p4 p5 p6 0 s = some (0, cdn 3 1 2 o, lawS o v c') := by
  simp only [FL_street, fL_street_0, fL_street_21, fL_street_25, fL_street_29, fL_street_33, h]
  by_cases e : o = 0
  · subst e
    rw [bnh_ok]
    simp [lawS, cdn]
  · obtain ⟨h1, h2⟩ := ho e
    rw [bnh_ex o e]
    have h3 : o = 1 ∨ o = 2 ∨ o = 3 := by omega
    rcases h3 with h3 | h3 | h3 <;> subst h3 <;> first | rfl | exact absurd rfl h1
theorem lL_street {t i L a0 : Int} {s : St} (ht : 0 ≤ t ∧ t ≤ 600) (h : rl t s s) (hL : gm s 61 1 0 = L) (hL2 : L ≤ 100000) (i0 : 0 ≤ i) (i1 : i + 7 ≤ L) : ∃ m', (∀ n, fL_law_631 (kL_law (n + 1)) a0 0 0 0 i s = fL_law_23 (kL_law n) a0 0 0 0 (i + 7) m') ∧ rl (t + 1) m' m' ∧ m'.1 61 = s.1 61 := by
  have w7 : wr (i + 7) = i + 7 := wq (by omega) (by omega)
  have w1 : wr (i + 1) = i + 1 := wq (by omega) (by omega)
  have r1 : 0 ≤ i + 1 ∧ i + 1 < L := by omega
  have w2 : wr (i + 2) = i + 2 := wq (by omega) (by omega)
  have r2 : 0 ≤ i + 2 ∧ i + 2 < L := by omega
  have w3 : wr (i + 3) = i + 3 := wq (by omega) (by omega)
  have r3 : 0 ≤ i + 3 ∧ i + 3 < L := by omega
  have w4 : wr (i + 4) = i + 4 := wq (by omega) (by omega)
  have r4 : 0 ≤ i + 4 ∧ i + 4 < L := by omega
  have w5 : wr (i + 5) = i + 5 := wq (by omega) (by omega)
  have r5 : 0 ≤ i + 5 ∧ i + 5 < L := by omega
  have w6 : wr (i + 6) = i + 6 := wq (by omega) (by omega)
  have r6 : 0 ≤ i + 6 ∧ i + 6 < L := by omega
  obtain ⟨o, v, c', e1, e2, e3, e4⟩ := lawC (a := 3) (b := 1) (d := 2) h (fun s9 => FX11_street 0 (gm s 61 0 (i + 1)) (gm s 61 0 (i + 2)) (gm s 61 0 (i + 3)) (gm s 61 0 (i + 4)) (gm s 61 0 (i + 5)) (gm s 61 0 (i + 6)) s9) (fun s9 => FX12_street 0 (gm s 61 0 (i + 1)) (gm s 61 0 (i + 2)) (gm s 61 0 (i + 3)) (gm s 61 0 (i + 4)) (gm s 61 0 (i + 5)) (gm s 61 0 (i + 6)) s9) (fun m h' => op_street h' (gm s 61 0 (i + 1)) (gm s 61 0 (i + 2)) (gm s 61 0 (i + 3)) (gm s 61 0 (i + 4)) (gm s 61 0 (i + 5)) (gm s 61 0 (i + 6)))
  have e5 := wL_street e1 e2
  obtain ⟨w, m', f1, f2, f3, f4, f5, f6⟩ := e4 (lawS o v c') (lawS_1 o v c') (lawS_2 o v c')
  have g61 : (lawS o v c').1 61 = s.1 61 := by rw [lawS_1 _ _ _ 61 (by decide)]; exact e3 61 (by decide)
  have h60 : o = 0 → gm m' 60 0 0 = v := fun e => by
    have : gm m' 60 0 0 = gm (lawS o v c') 60 0 0 := by unfold gm; rw [f5]
    rw [this, e]; exact lawS_60 v c'
  have g1 : ∀ z j, gm (lawS o v c') 61 z j = gm s 61 z j := fun z j => by unfold gm; rw [g61]
  (try dsimp only at f1)
  have f2' := emThrown 0 m'
  rw [f2] at f2'
  refine ⟨m', fun n => ?_, f4, f6.trans g61⟩
  generalize hs1 : lawS o v c' = s1 at e5 f1 g1 h60
  generalize hR : fL_law_23 (kL_law n) a0 0 0 0 (i + 7) m' = R
  simp only [fL_law_631, fL_law_729, fL_law_746, fL_law_2636, hL, w1, if_pos r1, w2, if_pos r2, w3, if_pos r3, w4, if_pos r4, w5, if_pos r5, w6, if_pos r6, e5, bn0_ok, g1, f1, bnd_ok, f2', if_true, w7]
  rw [uL_law_23]
  by_cases e : o = 0
  · rw [h60 e, f3 e, e, icp_self, if_pos (show cdn 3 1 2 0 = 0 from rfl)]
    simp
    exact hR
  · rw [if_neg (e2 e).1]
    exact hR
theorem wL_route {p1 p2 : Int} {s : St} {o : Nat} {v : Int} {c' : St} (h : FX11_route 0 p1 p2 s = some (o, v, c')) (ho : o ≠ 0 → cdn 3 1 2 o ≠ 0 ∧ o ≤ 3) : FL_route 0 p1 p2 s = some (0, cdn 3 1 2 o, c') := by
  simp only [FL_route, fL_route_0, fL_route_9, fL_route_12, fL_route_15, fL_route_18, h]
  by_cases e : o = 0
  · subst e
    rw [bnh_ok]
    rfl
  · obtain ⟨h1, h2⟩ := ho e
    rw [bnh_ex o e]
    have h3 : o = 1 ∨ o = 2 ∨ o = 3 := by omega
    rcases h3 with h3 | h3 | h3 <;> subst h3 <;> first | rfl | exact absurd rfl h1
theorem lL_route {t i L a0 : Int} {s : St} (ht : 0 ≤ t ∧ t ≤ 600) (h : rl t s s) (hL : gm s 61 1 0 = L) (hL2 : L ≤ 100000) (i0 : 0 ≤ i) (i1 : i + 7 ≤ L) : ∃ m', (∀ n, fL_law_749 (kL_law (n + 1)) a0 0 0 0 i s = fL_law_23 (kL_law n) a0 0 0 0 (i + 7) m') ∧ rl (t + 1) m' m' ∧ m'.1 61 = s.1 61 := by
  have w7 : wr (i + 7) = i + 7 := wq (by omega) (by omega)
  have w1 : wr (i + 1) = i + 1 := wq (by omega) (by omega)
  have r1 : 0 ≤ i + 1 ∧ i + 1 < L := by omega
  have w2 : wr (i + 2) = i + 2 := wq (by omega) (by omega)
  have r2 : 0 ≤ i + 2 ∧ i + 2 < L := by omega
  obtain ⟨o, v, c', e1, e2, e3, e4⟩ := lawC (a := 3) (b := 1) (d := 2) h (fun s9 => FX11_route 0 (gm s 61 0 (i + 1)) (gm s 61 0 (i + 2)) s9) (fun s9 => FX12_route 0 (gm s 61 0 (i + 1)) (gm s 61 0 (i + 2)) s9) (fun m h' => op_route h' (gm s 61 0 (i + 1)) (gm s 61 0 (i + 2)))
  have e5 := wL_route e1 e2
  obtain ⟨w, m', f1, f2, f3, f4, f5, f6⟩ := e4 c' (fun _ _ => rfl) rfl
  have g61 : c'.1 61 = s.1 61 := e3 61 (by decide)
  have g1 : ∀ z j, gm c' 61 z j = gm s 61 z j := fun z j => by unfold gm; rw [g61]
  (try dsimp only at f1)
  have f2' := emThrown 0 m'
  rw [f2] at f2'
  refine ⟨m', fun n => ?_, f4, f6.trans g61⟩
  generalize hR : fL_law_23 (kL_law n) a0 0 0 0 (i + 7) m' = R
  simp only [fL_law_749, fL_law_794, fL_law_2636, hL, w1, if_pos r1, w2, if_pos r2, e5, bn0_ok, g1, f1, bnd_ok, f2', if_true, w7]
  rw [uL_law_23]
  exact hR
theorem wL_goOn {p1 p2 : Int} {s : St} {o : Nat} {v : Int} {c' : St} (h : FX11_goOn 0 p1 p2 s = some (o, v, c')) (ho : o ≠ 0 → cdn 3 1 2 o ≠ 0 ∧ o ≤ 3) : FL_goOn 0 p1 p2 0 s = some (0, cdn 3 1 2 o, lawS o v c') := by
  simp only [FL_goOn, fL_goOn_0, fL_goOn_13, fL_goOn_17, fL_goOn_21, fL_goOn_25, h]
  by_cases e : o = 0
  · subst e
    rw [bnh_ok]
    simp [lawS, cdn]
  · obtain ⟨h1, h2⟩ := ho e
    rw [bnh_ex o e]
    have h3 : o = 1 ∨ o = 2 ∨ o = 3 := by omega
    rcases h3 with h3 | h3 | h3 <;> subst h3 <;> first | rfl | exact absurd rfl h1
theorem lL_goOn {t i L a0 : Int} {s : St} (ht : 0 ≤ t ∧ t ≤ 600) (h : rl t s s) (hL : gm s 61 1 0 = L) (hL2 : L ≤ 100000) (i0 : 0 ≤ i) (i1 : i + 7 ≤ L) : ∃ m', (∀ n, fL_law_797 (kL_law (n + 1)) a0 0 0 0 i s = fL_law_23 (kL_law n) a0 0 0 0 (i + 7) m') ∧ rl (t + 1) m' m' ∧ m'.1 61 = s.1 61 := by
  have w7 : wr (i + 7) = i + 7 := wq (by omega) (by omega)
  have w1 : wr (i + 1) = i + 1 := wq (by omega) (by omega)
  have r1 : 0 ≤ i + 1 ∧ i + 1 < L := by omega
  have w2 : wr (i + 2) = i + 2 := wq (by omega) (by omega)
  have r2 : 0 ≤ i + 2 ∧ i + 2 < L := by omega
  obtain ⟨o, v, c', e1, e2, e3, e4⟩ := lawC (a := 3) (b := 1) (d := 2) h (fun s9 => FX11_goOn 0 (gm s 61 0 (i + 1)) (gm s 61 0 (i + 2)) s9) (fun s9 => FX12_goOn 0 (gm s 61 0 (i + 1)) (gm s 61 0 (i + 2)) s9) (fun m h' => op_goOn h' (gm s 61 0 (i + 1)) (gm s 61 0 (i + 2)))
  have e5 := wL_goOn e1 e2
  obtain ⟨w, m', f1, f2, f3, f4, f5, f6⟩ := e4 (lawS o v c') (lawS_1 o v c') (lawS_2 o v c')
  have g61 : (lawS o v c').1 61 = s.1 61 := by rw [lawS_1 _ _ _ 61 (by decide)]; exact e3 61 (by decide)
  have h60 : o = 0 → gm m' 60 0 0 = v := fun e => by
    have : gm m' 60 0 0 = gm (lawS o v c') 60 0 0 := by unfold gm; rw [f5]
    rw [this, e]; exact lawS_60 v c'
  have g1 : ∀ z j, gm (lawS o v c') 61 z j = gm s 61 z j := fun z j => by unfold gm; rw [g61]
  (try dsimp only at f1)
  have f2' := emThrown 0 m'
  rw [f2] at f2'
  refine ⟨m', fun n => ?_, f4, f6.trans g61⟩
  generalize hs1 : lawS o v c' = s1 at e5 f1 g1 h60
  generalize hR : fL_law_23 (kL_law n) a0 0 0 0 (i + 7) m' = R
  simp only [fL_law_797, fL_law_845, fL_law_862, fL_law_2636, hL, w1, if_pos r1, w2, if_pos r2, e5, bn0_ok, g1, f1, bnd_ok, f2', if_true, w7]
  rw [uL_law_23]
  by_cases e : o = 0
  · rw [h60 e, f3 e, e, icp_self, if_pos (show cdn 3 1 2 0 = 0 from rfl)]
    simp
    exact hR
  · rw [if_neg (e2 e).1]
    exact hR
theorem wL_jury {p1 p2 : Int} {s : St} {o : Nat} {v : Int} {c' : St} (h : FX11_jury 0 p1 p2 s = some (o, v, c')) (ho : o ≠ 0 → cdn 3 9 9 o ≠ 0 ∧ o ≤ 3) : FL_jury 0 p1 p2 0 s = some (0, cdn 3 9 9 o, lawS o v c') := by
  simp only [FL_jury, fL_jury_0, fL_jury_15, fL_jury_16, fL_jury_20, fL_jury_24, h]
  by_cases e : o = 0
  · subst e
    rw [bnh_ok]
    have hv := bJury _ _ _ _ v c' h
    rcases hv with hv | hv <;> subst hv <;> simp [lawS, cdn]
  · obtain ⟨h1, h2⟩ := ho e
    rw [bnh_ex o e]
    have h3 : o = 1 ∨ o = 2 ∨ o = 3 := by omega
    rcases h3 with h3 | h3 | h3 <;> subst h3 <;> first | rfl | exact absurd rfl h1
theorem lL_jury {t i L a0 : Int} {s : St} (ht : 0 ≤ t ∧ t ≤ 600) (h : rl t s s) (hL : gm s 61 1 0 = L) (hL2 : L ≤ 100000) (i0 : 0 ≤ i) (i1 : i + 7 ≤ L) : ∃ m', (∀ n, fL_law_865 (kL_law (n + 1)) a0 0 0 0 i s = fL_law_23 (kL_law n) a0 0 0 0 (i + 7) m') ∧ rl (t + 1) m' m' ∧ m'.1 61 = s.1 61 := by
  have w7 : wr (i + 7) = i + 7 := wq (by omega) (by omega)
  have w1 : wr (i + 1) = i + 1 := wq (by omega) (by omega)
  have r1 : 0 ≤ i + 1 ∧ i + 1 < L := by omega
  have w2 : wr (i + 2) = i + 2 := wq (by omega) (by omega)
  have r2 : 0 ≤ i + 2 ∧ i + 2 < L := by omega
  obtain ⟨bv, hbv⟩ : ∃ bv : Int, bv = (if gm s 61 0 (i + 2) = 0 then 0 else 1) := ⟨_, rfl⟩
  have hb : bv = 0 ∨ bv = 1 := by rw [hbv]; split <;> simp
  obtain ⟨o, v, c', e1, e2, e3, e4⟩ := lawC (a := 3) (b := 9) (d := 9) h (fun s9 => FX11_jury 0 (gm s 61 0 (i + 1)) bv s9) (fun s9 => FX12_jury 0 (gm s 61 0 (i + 1)) bv s9) (fun m h' => op_jury h' (gm s 61 0 (i + 1)) hb)
  have e5 := wL_jury e1 e2
  obtain ⟨w, m', f1, f2, f3, f4, f5, f6⟩ := e4 (lawS o v c') (lawS_1 o v c') (lawS_2 o v c')
  have g61 : (lawS o v c').1 61 = s.1 61 := by rw [lawS_1 _ _ _ 61 (by decide)]; exact e3 61 (by decide)
  have g1 : ∀ z j, gm (lawS o v c') 61 z j = gm s 61 z j := fun z j => by unfold gm; rw [g61]
  (try dsimp only at f1)
  have f2' := emThrown 0 m'
  rw [f2] at f2'
  have h60 : o = 0 → gm m' 60 0 0 = v := fun e => by
    have : gm m' 60 0 0 = gm (lawS o v c') 60 0 0 := by unfold gm; rw [f5]
    rw [this, e]; exact lawS_60 v c'
  refine ⟨m', fun n => ?_, f4, f6.trans g61⟩
  generalize hs1 : lawS o v c' = s1 at e5 f1 g1 h60
  generalize hR : fL_law_23 (kL_law n) a0 0 0 0 (i + 7) m' = R
  simp only [fL_law_865, fL_law_885, fL_law_886, fL_law_912, fL_law_913, fL_law_929, fL_law_946, fL_law_947, fL_law_953, fL_law_2636, hL, w1, if_pos r1, w2, if_pos r2, g1, w7]
  have h01 : o = 0 → v = 0 ∨ v = 1 := fun e => bJury _ _ _ _ v c' (by rw [← e]; exact e1)
  have tail : ∀ k : Res, (k = R) → (if cdn 3 9 9 o = 0 then if w = 0 then if icp (gm m' 60 0 0) 0 = 0 then k else if (0 : Int) = 0 ∨ (0 : Int) = 1 then some (0, 0, m') else none else if icp (gm m' 60 0 0) 1 = 0 then k else if (0 : Int) = 0 ∨ (0 : Int) = 1 then some (0, 0, m') else none else k) = R := fun k hk => by
    by_cases e : o = 0
    · have a1 := f3 e
      have a2 := h01 e
      rw [h60 e, e]
      rw [if_pos (show cdn 3 9 9 0 = 0 from rfl)]
      rcases a2 with a2 | a2
      · rw [if_pos (by omega), a2, icp_self, if_pos rfl]; exact hk
      · rw [if_neg (by omega), a2, icp_self, if_pos rfl]; exact hk
    · rw [if_neg (e2 e).1]; exact hk
  by_cases z : gm s 61 0 (i + 2) = 0
  · rw [if_pos z] at hbv
    rw [hbv] at e5 f1
    simp only [if_pos z, e5, bn0_ok, g1, hL, w1, if_pos r1, w2, if_pos r2, f1, bnd_ok, f2', if_true]
    first
      | exact tail _ (by rw [uL_law_23]; exact hR)
      | (simp only [true_and, and_true, Nat.le_refl, if_true]; exact tail _ (by rw [uL_law_23]; exact hR))
  · rw [if_neg z] at hbv
    rw [hbv] at e5 f1
    simp only [if_neg z, e5, bn0_ok, g1, hL, w1, if_pos r1, w2, if_pos r2, f1, bnd_ok, f2', if_true]
    first
      | exact tail _ (by rw [uL_law_23]; exact hR)
      | (simp only [true_and, and_true, Nat.le_refl, if_true]; exact tail _ (by rw [uL_law_23]; exact hR))
theorem wL_build {p1 p2 p3 p4 p5 : Int} {s : St} {o : Nat} {v : Int} {c' : St} (h : FX11_build 0 p1 p2 p3 p4 p5 s = some (o, v, c')) (ho : o ≠ 0 → cdn 3 1 2 o ≠ 0 ∧ o ≤ 3) : FL_build 0 p1 p2 p3 p4 p5 0 s = some (0, cdn 3 1 2 o, lawS o v c') := by
  simp only [FL_build, fL_build_0, fL_build_19, fL_build_23, fL_build_27, fL_build_31, h]
  by_cases e : o = 0
  · subst e
    rw [bnh_ok]
    simp [lawS, cdn]
  · obtain ⟨h1, h2⟩ := ho e
    rw [bnh_ex o e]
    have h3 : o = 1 ∨ o = 2 ∨ o = 3 := by omega
    rcases h3 with h3 | h3 | h3 <;> subst h3 <;> first | rfl | exact absurd rfl h1
theorem lL_build {t i L a0 : Int} {s : St} (ht : 0 ≤ t ∧ t ≤ 600) (h : rl t s s) (hL : gm s 61 1 0 = L) (hL2 : L ≤ 100000) (i0 : 0 ≤ i) (i1 : i + 7 ≤ L) : ∃ m', (∀ n, fL_law_956 (kL_law (n + 1)) a0 0 0 0 i s = fL_law_23 (kL_law n) a0 0 0 0 (i + 7) m') ∧ rl (t + 1) m' m' ∧ m'.1 61 = s.1 61 := by
  have w7 : wr (i + 7) = i + 7 := wq (by omega) (by omega)
  have w1 : wr (i + 1) = i + 1 := wq (by omega) (by omega)
  have r1 : 0 ≤ i + 1 ∧ i + 1 < L := by omega
  have w2 : wr (i + 2) = i + 2 := wq (by omega) (by omega)
  have r2 : 0 ≤ i + 2 ∧ i + 2 < L := by omega
  have w3 : wr (i + 3) = i + 3 := wq (by omega) (by omega)
  have r3 : 0 ≤ i + 3 ∧ i + 3 < L := by omega
  have w4 : wr (i + 4) = i + 4 := wq (by omega) (by omega)
  have r4 : 0 ≤ i + 4 ∧ i + 4 < L := by omega
  have w5 : wr (i + 5) = i + 5 := wq (by omega) (by omega)
  have r5 : 0 ≤ i + 5 ∧ i + 5 < L := by omega
  obtain ⟨o, v, c', e1, e2, e3, e4⟩ := lawC (a := 3) (b := 1) (d := 2) h (fun s9 => FX11_build 0 (gm s 61 0 (i + 1)) (gm s 61 0 (i + 2)) (gm s 61 0 (i + 3)) (gm s 61 0 (i + 4)) (gm s 61 0 (i + 5)) s9) (fun s9 => FX12_build 0 (gm s 61 0 (i + 1)) (gm s 61 0 (i + 2)) (gm s 61 0 (i + 3)) (gm s 61 0 (i + 4)) (gm s 61 0 (i + 5)) s9) (fun m h' => op_build h' (gm s 61 0 (i + 1)) (gm s 61 0 (i + 2)) (gm s 61 0 (i + 3)) (gm s 61 0 (i + 4)) (gm s 61 0 (i + 5)))
  have e5 := wL_build e1 e2
  obtain ⟨w, m', f1, f2, f3, f4, f5, f6⟩ := e4 (lawS o v c') (lawS_1 o v c') (lawS_2 o v c')
  have g61 : (lawS o v c').1 61 = s.1 61 := by rw [lawS_1 _ _ _ 61 (by decide)]; exact e3 61 (by decide)
  have h60 : o = 0 → gm m' 60 0 0 = v := fun e => by
    have : gm m' 60 0 0 = gm (lawS o v c') 60 0 0 := by unfold gm; rw [f5]
    rw [this, e]; exact lawS_60 v c'
  have g1 : ∀ z j, gm (lawS o v c') 61 z j = gm s 61 z j := fun z j => by unfold gm; rw [g61]
  (try dsimp only at f1)
  have f2' := emThrown 0 m'
  rw [f2] at f2'
  refine ⟨m', fun n => ?_, f4, f6.trans g61⟩
  generalize hs1 : lawS o v c' = s1 at e5 f1 g1 h60
  generalize hR : fL_law_23 (kL_law n) a0 0 0 0 (i + 7) m' = R
  simp only [fL_law_956, fL_law_1040, fL_law_1057, fL_law_2636, hL, w1, if_pos r1, w2, if_pos r2, w3, if_pos r3, w4, if_pos r4, w5, if_pos r5, e5, bn0_ok, g1, f1, bnd_ok, f2', if_true, w7]
  rw [uL_law_23]
  by_cases e : o = 0
  · rw [h60 e, f3 e, e, icp_self, if_pos (show cdn 3 1 2 0 = 0 from rfl)]
    simp
    exact hR
  · rw [if_neg (e2 e).1]
    exact hR
theorem wL_cut {p1 p2 p3 p4 p5 p6 : Int} {s : St} {o : Nat} {v : Int} {c' : St} (h : FX11_cut 0 p1 p2 p3 p4 p5 p6 s = some (o, v, c')) (ho : o ≠ 0 → cdn 3 1 2 o ≠ 0 ∧ o ≤ 3) : FL_cut 0 p1 p2 p3 p4 p5 p6 0 s = some (0, cdn 3 1 2 o, lawS o v c') := by
  simp only [FL_cut, fL_cut_0, fL_cut_21, fL_cut_25, fL_cut_29, fL_cut_33, h]
  by_cases e : o = 0
  · subst e
    rw [bnh_ok]
    simp [lawS, cdn]
  · obtain ⟨h1, h2⟩ := ho e
    rw [bnh_ex o e]
    have h3 : o = 1 ∨ o = 2 ∨ o = 3 := by omega
    rcases h3 with h3 | h3 | h3 <;> subst h3 <;> first | rfl | exact absurd rfl h1
theorem lL_cut {t i L a0 : Int} {s : St} (ht : 0 ≤ t ∧ t ≤ 600) (h : rl t s s) (hL : gm s 61 1 0 = L) (hL2 : L ≤ 100000) (i0 : 0 ≤ i) (i1 : i + 7 ≤ L) : ∃ m', (∀ n, fL_law_1060 (kL_law (n + 1)) a0 0 0 0 i s = fL_law_23 (kL_law n) a0 0 0 0 (i + 7) m') ∧ rl (t + 1) m' m' ∧ m'.1 61 = s.1 61 := by
  have w7 : wr (i + 7) = i + 7 := wq (by omega) (by omega)
  have w1 : wr (i + 1) = i + 1 := wq (by omega) (by omega)
  have r1 : 0 ≤ i + 1 ∧ i + 1 < L := by omega
  have w2 : wr (i + 2) = i + 2 := wq (by omega) (by omega)
  have r2 : 0 ≤ i + 2 ∧ i + 2 < L := by omega
  have w3 : wr (i + 3) = i + 3 := wq (by omega) (by omega)
  have r3 : 0 ≤ i + 3 ∧ i + 3 < L := by omega
  have w4 : wr (i + 4) = i + 4 := wq (by omega) (by omega)
  have r4 : 0 ≤ i + 4 ∧ i + 4 < L := by omega
  have w5 : wr (i + 5) = i + 5 := wq (by omega) (by omega)
  have r5 : 0 ≤ i + 5 ∧ i + 5 < L := by omega
  have w6 : wr (i + 6) = i + 6 := wq (by omega) (by omega)
  have r6 : 0 ≤ i + 6 ∧ i + 6 < L := by omega
  obtain ⟨o, v, c', e1, e2, e3, e4⟩ := lawC (a := 3) (b := 1) (d := 2) h (fun s9 => FX11_cut 0 (gm s 61 0 (i + 1)) (gm s 61 0 (i + 2)) (gm s 61 0 (i + 3)) (gm s 61 0 (i + 4)) (gm s 61 0 (i + 5)) (gm s 61 0 (i + 6)) s9) (fun s9 => FX12_cut 0 (gm s 61 0 (i + 1)) (gm s 61 0 (i + 2)) (gm s 61 0 (i + 3)) (gm s 61 0 (i + 4)) (gm s 61 0 (i + 5)) (gm s 61 0 (i + 6)) s9) (fun m h' => op_cut h' (gm s 61 0 (i + 1)) (gm s 61 0 (i + 2)) (gm s 61 0 (i + 3)) (gm s 61 0 (i + 4)) (gm s 61 0 (i + 5)) (gm s 61 0 (i + 6)))
  have e5 := wL_cut e1 e2
  obtain ⟨w, m', f1, f2, f3, f4, f5, f6⟩ := e4 (lawS o v c') (lawS_1 o v c') (lawS_2 o v c')
  have g61 : (lawS o v c').1 61 = s.1 61 := by rw [lawS_1 _ _ _ 61 (by decide)]; exact e3 61 (by decide)
  have h60 : o = 0 → gm m' 60 0 0 = v := fun e => by
    have : gm m' 60 0 0 = gm (lawS o v c') 60 0 0 := by unfold gm; rw [f5]
    rw [this, e]; exact lawS_60 v c'
  have g1 : ∀ z j, gm (lawS o v c') 61 z j = gm s 61 z j := fun z j => by unfold gm; rw [g61]
  (try dsimp only at f1)
  have f2' := emThrown 0 m'
  rw [f2] at f2'
  refine ⟨m', fun n => ?_, f4, f6.trans g61⟩
  generalize hs1 : lawS o v c' = s1 at e5 f1 g1 h60
  generalize hR : fL_law_23 (kL_law n) a0 0 0 0 (i + 7) m' = R
  simp only [fL_law_1060, fL_law_1158, fL_law_1175, fL_law_2636, hL, w1, if_pos r1, w2, if_pos r2, w3, if_pos r3, w4, if_pos r4, w5, if_pos r5, w6, if_pos r6, e5, bn0_ok, g1, f1, bnd_ok, f2', if_true, w7]
  rw [uL_law_23]
  by_cases e : o = 0
  · rw [h60 e, f3 e, e, icp_self, if_pos (show cdn 3 1 2 0 = 0 from rfl)]
    simp
    exact hR
  · rw [if_neg (e2 e).1]
    exact hR
theorem wL_fits {p1 p2 : Int} {s : St} {o : Nat} {v : Int} {c' : St} (h : FX11_fits 0 p1 p2 s = some (o, v, c')) (ho : o ≠ 0 → cdn 3 9 9 o ≠ 0 ∧ o ≤ 3) : FL_fits 0 p1 p2 0 s = some (0, cdn 3 9 9 o, lawS o v c') := by
  simp only [FL_fits, fL_fits_0, fL_fits_15, fL_fits_16, fL_fits_20, fL_fits_24, h]
  by_cases e : o = 0
  · subst e
    rw [bnh_ok]
    have hv := bFits _ _ _ _ v c' h
    rcases hv with hv | hv <;> subst hv <;> simp [lawS, cdn]
  · obtain ⟨h1, h2⟩ := ho e
    rw [bnh_ex o e]
    have h3 : o = 1 ∨ o = 2 ∨ o = 3 := by omega
    rcases h3 with h3 | h3 | h3 <;> subst h3 <;> first | rfl | exact absurd rfl h1
theorem lL_fits {t i L a0 : Int} {s : St} (ht : 0 ≤ t ∧ t ≤ 600) (h : rl t s s) (hL : gm s 61 1 0 = L) (hL2 : L ≤ 100000) (i0 : 0 ≤ i) (i1 : i + 7 ≤ L) : ∃ m', (∀ n, fL_law_1178 (kL_law (n + 1)) a0 0 0 0 i s = fL_law_23 (kL_law n) a0 0 0 0 (i + 7) m') ∧ rl (t + 1) m' m' ∧ m'.1 61 = s.1 61 := by
  have w7 : wr (i + 7) = i + 7 := wq (by omega) (by omega)
  have w1 : wr (i + 1) = i + 1 := wq (by omega) (by omega)
  have r1 : 0 ≤ i + 1 ∧ i + 1 < L := by omega
  have w2 : wr (i + 2) = i + 2 := wq (by omega) (by omega)
  have r2 : 0 ≤ i + 2 ∧ i + 2 < L := by omega
  obtain ⟨o, v, c', e1, e2, e3, e4⟩ := lawC (a := 3) (b := 9) (d := 9) h (fun s9 => FX11_fits 0 (gm s 61 0 (i + 1)) (gm s 61 0 (i + 2)) s9) (fun s9 => FX12_fits 0 (gm s 61 0 (i + 1)) (gm s 61 0 (i + 2)) s9) (fun m h' => op_fits h' (gm s 61 0 (i + 1)) (gm s 61 0 (i + 2)))
  have e5 := wL_fits e1 e2
  obtain ⟨w, m', f1, f2, f3, f4, f5, f6⟩ := e4 (lawS o v c') (lawS_1 o v c') (lawS_2 o v c')
  have g61 : (lawS o v c').1 61 = s.1 61 := by rw [lawS_1 _ _ _ 61 (by decide)]; exact e3 61 (by decide)
  have h60 : o = 0 → gm m' 60 0 0 = v := fun e => by
    have : gm m' 60 0 0 = gm (lawS o v c') 60 0 0 := by unfold gm; rw [f5]
    rw [this, e]; exact lawS_60 v c'
  have g1 : ∀ z j, gm (lawS o v c') 61 z j = gm s 61 z j := fun z j => by unfold gm; rw [g61]
  (try dsimp only at f1)
  have f2' := emThrown 0 m'
  rw [f2] at f2'
  refine ⟨m', fun n => ?_, f4, f6.trans g61⟩
  generalize hs1 : lawS o v c' = s1 at e5 f1 g1 h60
  generalize hR : fL_law_23 (kL_law n) a0 0 0 0 (i + 7) m' = R
  simp only [fL_law_1178, fL_law_1226, fL_law_1243, fL_law_1244, fL_law_1250, fL_law_2636, hL, w1, if_pos r1, w2, if_pos r2, e5, bn0_ok, g1, f1, bnd_ok, f2', if_true, w7]
  rw [uL_law_23]
  by_cases e : o = 0
  · have a1 := f3 e
    have a2 : v = 0 ∨ v = 1 := bFits _ _ _ _ v c' (by rw [← e]; exact e1)
    rw [h60 e, e, if_pos (show cdn 3 9 9 0 = 0 from rfl)]
    rcases a2 with a2 | a2
    · rw [← a1, a2]
      simp only [icp_self, if_true]
      simp
      exact hR
    · rw [← a1, a2]
      simp only [icp_self, if_true]
      simp
      exact hR
  · rw [if_neg (e2 e).1]
    exact hR
theorem wL_enter {p1 p2 : Int} {s : St} {o : Nat} {v : Int} {c' : St} (h : FX11_enter 0 p1 p2 s = some (o, v, c')) (ho : o ≠ 0 → cdn 3 1 2 o ≠ 0 ∧ o ≤ 3) : FL_enter 0 p1 p2 0 s = some (0, cdn 3 1 2 o, lawS o v c') := by
  simp only [FL_enter, fL_enter_0, fL_enter_13, fL_enter_17, fL_enter_21, fL_enter_25, h]
  by_cases e : o = 0
  · subst e
    rw [bnh_ok]
    simp [lawS, cdn]
  · obtain ⟨h1, h2⟩ := ho e
    rw [bnh_ex o e]
    have h3 : o = 1 ∨ o = 2 ∨ o = 3 := by omega
    rcases h3 with h3 | h3 | h3 <;> subst h3 <;> first | rfl | exact absurd rfl h1
theorem lL_enter {t i L a0 : Int} {s : St} (ht : 0 ≤ t ∧ t ≤ 600) (h : rl t s s) (hL : gm s 61 1 0 = L) (hL2 : L ≤ 100000) (i0 : 0 ≤ i) (i1 : i + 7 ≤ L) : ∃ m', (∀ n, fL_law_1253 (kL_law (n + 1)) a0 0 0 0 i s = fL_law_23 (kL_law n) a0 0 0 0 (i + 7) m') ∧ rl (t + 1) m' m' ∧ m'.1 61 = s.1 61 := by
  have w7 : wr (i + 7) = i + 7 := wq (by omega) (by omega)
  have w1 : wr (i + 1) = i + 1 := wq (by omega) (by omega)
  have r1 : 0 ≤ i + 1 ∧ i + 1 < L := by omega
  have w2 : wr (i + 2) = i + 2 := wq (by omega) (by omega)
  have r2 : 0 ≤ i + 2 ∧ i + 2 < L := by omega
  obtain ⟨o, v, c', e1, e2, e3, e4⟩ := lawC (a := 3) (b := 1) (d := 2) h (fun s9 => FX11_enter 0 (gm s 61 0 (i + 1)) (gm s 61 0 (i + 2)) s9) (fun s9 => FX12_enter 0 (gm s 61 0 (i + 1)) (gm s 61 0 (i + 2)) s9) (fun m h' => op_enter h' (gm s 61 0 (i + 1)) (gm s 61 0 (i + 2)))
  have e5 := wL_enter e1 e2
  obtain ⟨w, m', f1, f2, f3, f4, f5, f6⟩ := e4 (lawS o v c') (lawS_1 o v c') (lawS_2 o v c')
  have g61 : (lawS o v c').1 61 = s.1 61 := by rw [lawS_1 _ _ _ 61 (by decide)]; exact e3 61 (by decide)
  have h60 : o = 0 → gm m' 60 0 0 = v := fun e => by
    have : gm m' 60 0 0 = gm (lawS o v c') 60 0 0 := by unfold gm; rw [f5]
    rw [this, e]; exact lawS_60 v c'
  have g1 : ∀ z j, gm (lawS o v c') 61 z j = gm s 61 z j := fun z j => by unfold gm; rw [g61]
  (try dsimp only at f1)
  have f2' := emThrown 0 m'
  rw [f2] at f2'
  refine ⟨m', fun n => ?_, f4, f6.trans g61⟩
  generalize hs1 : lawS o v c' = s1 at e5 f1 g1 h60
  generalize hR : fL_law_23 (kL_law n) a0 0 0 0 (i + 7) m' = R
  simp only [fL_law_1253, fL_law_1301, fL_law_1318, fL_law_2636, hL, w1, if_pos r1, w2, if_pos r2, e5, bn0_ok, g1, f1, bnd_ok, f2', if_true, w7]
  rw [uL_law_23]
  by_cases e : o = 0
  · rw [h60 e, f3 e, e, icp_self, if_pos (show cdn 3 1 2 0 = 0 from rfl)]
    simp
    exact hR
  · rw [if_neg (e2 e).1]
    exact hR
theorem wL_change {p1 p2 : Int} {s : St} {o : Nat} {v : Int} {c' : St} (h : FX11_change 0 p1 p2 s = some (o, v, c')) (ho : o ≠ 0 → cdn 3 1 2 o ≠ 0 ∧ o ≤ 3) : FL_change 0 p1 p2 0 s = some (0, cdn 3 1 2 o, lawS o v c') := by
  simp only [FL_change, fL_change_0, fL_change_15, fL_change_16, fL_change_20, fL_change_24, fL_change_28, fL_change_32, h]
  by_cases e : o = 0
  · subst e
    rw [bnh_ok]
    have hv := bChange _ _ _ _ v c' h
    rcases hv with hv | hv <;> subst hv <;> simp [lawS, cdn]
  · obtain ⟨h1, h2⟩ := ho e
    rw [bnh_ex o e]
    have h3 : o = 1 ∨ o = 2 ∨ o = 3 := by omega
    rcases h3 with h3 | h3 | h3 <;> subst h3 <;> first | rfl | exact absurd rfl h1
theorem lL_change {t i L a0 : Int} {s : St} (ht : 0 ≤ t ∧ t ≤ 600) (h : rl t s s) (hL : gm s 61 1 0 = L) (hL2 : L ≤ 100000) (i0 : 0 ≤ i) (i1 : i + 7 ≤ L) : ∃ m', (∀ n, fL_law_1321 (kL_law (n + 1)) a0 0 0 0 i s = fL_law_23 (kL_law n) a0 0 0 0 (i + 7) m') ∧ rl (t + 1) m' m' ∧ m'.1 61 = s.1 61 := by
  have w7 : wr (i + 7) = i + 7 := wq (by omega) (by omega)
  have w1 : wr (i + 1) = i + 1 := wq (by omega) (by omega)
  have r1 : 0 ≤ i + 1 ∧ i + 1 < L := by omega
  have w2 : wr (i + 2) = i + 2 := wq (by omega) (by omega)
  have r2 : 0 ≤ i + 2 ∧ i + 2 < L := by omega
  obtain ⟨o, v, c', e1, e2, e3, e4⟩ := lawC (a := 3) (b := 1) (d := 2) h (fun s9 => FX11_change 0 (gm s 61 0 (i + 1)) (gm s 61 0 (i + 2)) s9) (fun s9 => FX12_change 0 (gm s 61 0 (i + 1)) (gm s 61 0 (i + 2)) s9) (fun m h' => op_change h' (gm s 61 0 (i + 1)) (gm s 61 0 (i + 2)))
  have e5 := wL_change e1 e2
  obtain ⟨w, m', f1, f2, f3, f4, f5, f6⟩ := e4 (lawS o v c') (lawS_1 o v c') (lawS_2 o v c')
  have g61 : (lawS o v c').1 61 = s.1 61 := by rw [lawS_1 _ _ _ 61 (by decide)]; exact e3 61 (by decide)
  have h60 : o = 0 → gm m' 60 0 0 = v := fun e => by
    have : gm m' 60 0 0 = gm (lawS o v c') 60 0 0 := by unfold gm; rw [f5]
    rw [this, e]; exact lawS_60 v c'
  have g1 : ∀ z j, gm (lawS o v c') 61 z j = gm s 61 z j := fun z j => by unfold gm; rw [g61]
  (try dsimp only at f1)
  have f2' := emThrown 0 m'
  rw [f2] at f2'
  refine ⟨m', fun n => ?_, f4, f6.trans g61⟩
  generalize hs1 : lawS o v c' = s1 at e5 f1 g1 h60
  generalize hR : fL_law_23 (kL_law n) a0 0 0 0 (i + 7) m' = R
  simp only [fL_law_1321, fL_law_1369, fL_law_1386, fL_law_1387, fL_law_1393, fL_law_2636, hL, w1, if_pos r1, w2, if_pos r2, e5, bn0_ok, g1, f1, bnd_ok, f2', if_true, w7]
  rw [uL_law_23]
  by_cases e : o = 0
  · have a1 := f3 e
    have a2 : v = 0 ∨ v = 1 := bChange _ _ _ _ v c' (by rw [← e]; exact e1)
    rw [h60 e, e, if_pos (show cdn 3 1 2 0 = 0 from rfl)]
    rcases a2 with a2 | a2
    · rw [← a1, a2]
      simp only [icp_self, if_true]
      simp
      exact hR
    · rw [← a1, a2]
      simp only [icp_self, if_true]
      simp
      exact hR
  · rw [if_neg (e2 e).1]
    exact hR
theorem wL_order {p1 p2 : Int} {s : St} {o : Nat} {v : Int} {c' : St} (h : FX11_order 0 p1 p2 s = some (o, v, c')) (ho : o ≠ 0 → cdn 3 1 9 o ≠ 0 ∧ o ≤ 3) : FL_order 0 p1 p2 0 s = some (0, cdn 3 1 9 o, lawS o v c') := by
  simp only [FL_order, fL_order_0, fL_order_13, fL_order_17, fL_order_21, h]
  by_cases e : o = 0
  · subst e
    rw [bnh_ok]
    simp [lawS, cdn]
  · obtain ⟨h1, h2⟩ := ho e
    rw [bnh_ex o e]
    have h3 : o = 1 ∨ o = 2 ∨ o = 3 := by omega
    rcases h3 with h3 | h3 | h3 <;> subst h3 <;> first | rfl | exact absurd rfl h1
theorem lL_order {t i L a0 : Int} {s : St} (ht : 0 ≤ t ∧ t ≤ 600) (h : rl t s s) (hL : gm s 61 1 0 = L) (hL2 : L ≤ 100000) (i0 : 0 ≤ i) (i1 : i + 7 ≤ L) : ∃ m', (∀ n, fL_law_1396 (kL_law (n + 1)) a0 0 0 0 i s = fL_law_23 (kL_law n) a0 0 0 0 (i + 7) m') ∧ rl (t + 1) m' m' ∧ m'.1 61 = s.1 61 := by
  have w7 : wr (i + 7) = i + 7 := wq (by omega) (by omega)
  have w1 : wr (i + 1) = i + 1 := wq (by omega) (by omega)
  have r1 : 0 ≤ i + 1 ∧ i + 1 < L := by omega
  have w2 : wr (i + 2) = i + 2 := wq (by omega) (by omega)
  have r2 : 0 ≤ i + 2 ∧ i + 2 < L := by omega
  obtain ⟨o, v, c', e1, e2, e3, e4⟩ := lawC (a := 3) (b := 1) (d := 9) h (fun s9 => FX11_order 0 (gm s 61 0 (i + 1)) (gm s 61 0 (i + 2)) s9) (fun s9 => FX12_order 0 (gm s 61 0 (i + 1)) (gm s 61 0 (i + 2)) s9) (fun m h' => op_order h' (gm s 61 0 (i + 1)) (gm s 61 0 (i + 2)))
  have e5 := wL_order e1 e2
  obtain ⟨w, m', f1, f2, f3, f4, f5, f6⟩ := e4 (lawS o v c') (lawS_1 o v c') (lawS_2 o v c')
  have g61 : (lawS o v c').1 61 = s.1 61 := by rw [lawS_1 _ _ _ 61 (by decide)]; exact e3 61 (by decide)
  have h60 : o = 0 → gm m' 60 0 0 = v := fun e => by
    have : gm m' 60 0 0 = gm (lawS o v c') 60 0 0 := by unfold gm; rw [f5]
    rw [this, e]; exact lawS_60 v c'
  have g1 : ∀ z j, gm (lawS o v c') 61 z j = gm s 61 z j := fun z j => by unfold gm; rw [g61]
  (try dsimp only at f1)
  have f2' := emThrown 0 m'
  rw [f2] at f2'
  refine ⟨m', fun n => ?_, f4, f6.trans g61⟩
  generalize hs1 : lawS o v c' = s1 at e5 f1 g1 h60
  generalize hR : fL_law_23 (kL_law n) a0 0 0 0 (i + 7) m' = R
  simp only [fL_law_1396, fL_law_1444, fL_law_1461, fL_law_2636, hL, w1, if_pos r1, w2, if_pos r2, e5, bn0_ok, g1, f1, bnd_ok, f2', if_true, w7]
  rw [uL_law_23]
  by_cases e : o = 0
  · rw [h60 e, f3 e, e, icp_self, if_pos (show cdn 3 1 9 0 = 0 from rfl)]
    simp
    exact hR
  · rw [if_neg (e2 e).1]
    exact hR
theorem wL_begin {p1 p2 p3 : Int} {s : St} {o : Nat} {v : Int} {c' : St} (h : FX11_begin 0 p1 p2 p3 s = some (o, v, c')) (ho : o ≠ 0 → cdn 1 2 9 o ≠ 0 ∧ o ≤ 3) : FL_begin 0 p1 p2 p3 0 s = some (0, cdn 1 2 9 o, lawS o v c') := by
  simp only [FL_begin, fL_begin_0, fL_begin_15, fL_begin_19, fL_begin_23, h]
  by_cases e : o = 0
  · subst e
    rw [bnh_ok]
    simp [lawS, cdn]
  · obtain ⟨h1, h2⟩ := ho e
    rw [bnh_ex o e]
    have h3 : o = 1 ∨ o = 2 ∨ o = 3 := by omega
    rcases h3 with h3 | h3 | h3 <;> subst h3 <;> first | rfl | exact absurd rfl h1
theorem lL_begin {t i L a0 : Int} {s : St} (ht : 0 ≤ t ∧ t ≤ 600) (h : rl t s s) (hL : gm s 61 1 0 = L) (hL2 : L ≤ 100000) (i0 : 0 ≤ i) (i1 : i + 7 ≤ L) : ∃ m', (∀ n, fL_law_1464 (kL_law (n + 1)) a0 0 0 0 i s = fL_law_23 (kL_law n) a0 0 0 0 (i + 7) m') ∧ rl (t + 1) m' m' ∧ m'.1 61 = s.1 61 := by
  have w7 : wr (i + 7) = i + 7 := wq (by omega) (by omega)
  have w1 : wr (i + 1) = i + 1 := wq (by omega) (by omega)
  have r1 : 0 ≤ i + 1 ∧ i + 1 < L := by omega
  have w2 : wr (i + 2) = i + 2 := wq (by omega) (by omega)
  have r2 : 0 ≤ i + 2 ∧ i + 2 < L := by omega
  have w3 : wr (i + 3) = i + 3 := wq (by omega) (by omega)
  have r3 : 0 ≤ i + 3 ∧ i + 3 < L := by omega
  obtain ⟨o, v, c', e1, e2, e3, e4⟩ := lawC (a := 1) (b := 2) (d := 9) h (fun s9 => FX11_begin 0 (gm s 61 0 (i + 1)) (gm s 61 0 (i + 2)) (gm s 61 0 (i + 3)) s9) (fun s9 => FX12_begin 0 (gm s 61 0 (i + 1)) (gm s 61 0 (i + 2)) (gm s 61 0 (i + 3)) s9) (fun m h' => op_begin h' (gm s 61 0 (i + 1)) (gm s 61 0 (i + 2)) (gm s 61 0 (i + 3)))
  have e5 := wL_begin e1 e2
  obtain ⟨w, m', f1, f2, f3, f4, f5, f6⟩ := e4 (lawS o v c') (lawS_1 o v c') (lawS_2 o v c')
  have g61 : (lawS o v c').1 61 = s.1 61 := by rw [lawS_1 _ _ _ 61 (by decide)]; exact e3 61 (by decide)
  have h60 : o = 0 → gm m' 60 0 0 = v := fun e => by
    have : gm m' 60 0 0 = gm (lawS o v c') 60 0 0 := by unfold gm; rw [f5]
    rw [this, e]; exact lawS_60 v c'
  have g1 : ∀ z j, gm (lawS o v c') 61 z j = gm s 61 z j := fun z j => by unfold gm; rw [g61]
  (try dsimp only at f1)
  have f2' := emThrown 0 m'
  rw [f2] at f2'
  refine ⟨m', fun n => ?_, f4, f6.trans g61⟩
  generalize hs1 : lawS o v c' = s1 at e5 f1 g1 h60
  generalize hR : fL_law_23 (kL_law n) a0 0 0 0 (i + 7) m' = R
  simp only [fL_law_1464, fL_law_1524, fL_law_1541, fL_law_2636, hL, w1, if_pos r1, w2, if_pos r2, w3, if_pos r3, e5, bn0_ok, g1, f1, bnd_ok, f2', if_true, w7]
  rw [uL_law_23]
  by_cases e : o = 0
  · rw [h60 e, f3 e, e, icp_self, if_pos (show cdn 1 2 9 0 = 0 from rfl)]
    simp
    exact hR
  · rw [if_neg (e2 e).1]
    exact hR
theorem wL_stop {p1 p2 p3 : Int} {s : St} {o : Nat} {v : Int} {c' : St} (h : FX11_stop 0 p1 p2 p3 s = some (o, v, c')) (ho : o ≠ 0 → cdn 1 2 3 o ≠ 0 ∧ o ≤ 3) : FL_stop 0 p1 p2 p3 0 s = some (0, cdn 1 2 3 o, lawS o v c') := by
  simp only [FL_stop, fL_stop_0, fL_stop_15, fL_stop_19, fL_stop_23, fL_stop_27, h]
  by_cases e : o = 0
  · subst e
    rw [bnh_ok]
    simp [lawS, cdn]
  · obtain ⟨h1, h2⟩ := ho e
    rw [bnh_ex o e]
    have h3 : o = 1 ∨ o = 2 ∨ o = 3 := by omega
    rcases h3 with h3 | h3 | h3 <;> subst h3 <;> first | rfl | exact absurd rfl h1
theorem lL_stop {t i L a0 : Int} {s : St} (ht : 0 ≤ t ∧ t ≤ 600) (h : rl t s s) (hL : gm s 61 1 0 = L) (hL2 : L ≤ 100000) (i0 : 0 ≤ i) (i1 : i + 7 ≤ L) : ∃ m', (∀ n, fL_law_1544 (kL_law (n + 1)) a0 0 0 0 i s = fL_law_23 (kL_law n) a0 0 0 0 (i + 7) m') ∧ rl (t + 1) m' m' ∧ m'.1 61 = s.1 61 := by
  have w7 : wr (i + 7) = i + 7 := wq (by omega) (by omega)
  have w1 : wr (i + 1) = i + 1 := wq (by omega) (by omega)
  have r1 : 0 ≤ i + 1 ∧ i + 1 < L := by omega
  have w2 : wr (i + 2) = i + 2 := wq (by omega) (by omega)
  have r2 : 0 ≤ i + 2 ∧ i + 2 < L := by omega
  have w3 : wr (i + 3) = i + 3 := wq (by omega) (by omega)
  have r3 : 0 ≤ i + 3 ∧ i + 3 < L := by omega
  obtain ⟨o, v, c', e1, e2, e3, e4⟩ := lawC (a := 1) (b := 2) (d := 3) h (fun s9 => FX11_stop 0 (gm s 61 0 (i + 1)) (gm s 61 0 (i + 2)) (gm s 61 0 (i + 3)) s9) (fun s9 => FX12_stop 0 (gm s 61 0 (i + 1)) (gm s 61 0 (i + 2)) (gm s 61 0 (i + 3)) s9) (fun m h' => op_stop (by omega) h' (gm s 61 0 (i + 1)) (gm s 61 0 (i + 2)) (gm s 61 0 (i + 3)))
  have e5 := wL_stop e1 e2
  obtain ⟨w, m', f1, f2, f3, f4, f5, f6⟩ := e4 (lawS o v c') (lawS_1 o v c') (lawS_2 o v c')
  have g61 : (lawS o v c').1 61 = s.1 61 := by rw [lawS_1 _ _ _ 61 (by decide)]; exact e3 61 (by decide)
  have h60 : o = 0 → gm m' 60 0 0 = v := fun e => by
    have : gm m' 60 0 0 = gm (lawS o v c') 60 0 0 := by unfold gm; rw [f5]
    rw [this, e]; exact lawS_60 v c'
  have g1 : ∀ z j, gm (lawS o v c') 61 z j = gm s 61 z j := fun z j => by unfold gm; rw [g61]
  (try dsimp only at f1)
  have f2' := emThrown 0 m'
  rw [f2] at f2'
  refine ⟨m', fun n => ?_, f4, f6.trans g61⟩
  generalize hs1 : lawS o v c' = s1 at e5 f1 g1 h60
  generalize hR : fL_law_23 (kL_law n) a0 0 0 0 (i + 7) m' = R
  simp only [fL_law_1544, fL_law_1604, fL_law_1621, fL_law_2636, hL, w1, if_pos r1, w2, if_pos r2, w3, if_pos r3, e5, bn0_ok, g1, f1, bnd_ok, f2', if_true, w7]
  rw [uL_law_23]
  by_cases e : o = 0
  · rw [h60 e, f3 e, e, icp_self, if_pos (show cdn 1 2 3 0 = 0 from rfl)]
    simp
    exact hR
  · rw [if_neg (e2 e).1]
    exact hR
theorem lL_rain {t i L a0 : Int} {s : St} (ht : 0 ≤ t ∧ t ≤ 600) (h : rl t s s) (hL : gm s 61 1 0 = L) (hL2 : L ≤ 100000) (i0 : 0 ≤ i) (i1 : i + 7 ≤ L) : ∃ m', (∀ n, fL_law_1624 (kL_law (n + 1)) a0 0 0 0 i s = fL_law_23 (kL_law n) a0 0 0 0 (i + 7) m') ∧ rl (t + 1) m' m' ∧ m'.1 61 = s.1 61 := by
  have w7 : wr (i + 7) = i + 7 := wq (by omega) (by omega)
  have w1 : wr (i + 1) = i + 1 := wq (by omega) (by omega)
  have r1 : 0 ≤ i + 1 ∧ i + 1 < L := by omega
  obtain ⟨bv, hbv⟩ : ∃ bv : Int, bv = (if gm s 61 0 (i + 1) = 0 then 0 else 1) := ⟨_, rfl⟩
  have hb : bv = 0 ∨ bv = 1 := by rw [hbv]; split <;> simp
  obtain ⟨o, v, c', e1, e2, e3, e4⟩ := lawC (a := 9) (b := 9) (d := 9) h (fun s9 => FX11_rain 0  bv s9) (fun s9 => FX12_rain 0  bv s9) (fun m h' => op_rain h'  hb)
  have o0 : o = 0 := by
    by_cases e : o = 0
    · exact e
    · obtain ⟨h1, h2⟩ := e2 e
      have h3 : o = 1 ∨ o = 2 ∨ o = 3 := by omega
      rcases h3 with h3 | h3 | h3 <;> subst h3 <;> exact absurd rfl h1
  subst o0
  obtain ⟨w, m', f1, f2, f3, f4, f5, f6⟩ := e4 c' (fun _ _ => rfl) rfl
  (try dsimp only at f1)
  (try dsimp only at e1)
  have g61 : c'.1 61 = s.1 61 := e3 61 (by decide)
  have g1 : ∀ z j, gm c' 61 z j = gm s 61 z j := fun z j => by unfold gm; rw [g61]
  have vw := f3 rfl
  refine ⟨m', fun n => ?_, f4, f6.trans g61⟩
  generalize hR : fL_law_23 (kL_law n) a0 0 0 0 (i + 7) m' = R
  by_cases z : gm s 61 0 (i + 1) = 0
  · rw [if_pos z] at hbv
    rw [hbv] at e1 f1
    simp only [fL_law_1624, fL_law_1638, fL_law_1639, fL_law_1656, fL_law_1657, fL_law_2636, hL, w1, w7, if_pos r1, if_pos z, e1, bnd_ok, g1, f1, vw, if_true]
    rw [uL_law_23]
    exact hR
  · rw [if_neg z] at hbv
    rw [hbv] at e1 f1
    simp only [fL_law_1624, fL_law_1638, fL_law_1639, fL_law_1656, fL_law_1657, fL_law_2636, hL, w1, w7, if_pos r1, if_neg z, e1, bnd_ok, g1, f1, vw, if_true]
    rw [uL_law_23]
    exact hR
theorem wL_ambulance {p1 : Int} {s : St} {o : Nat} {v : Int} {c' : St} (h : FX11_ambulance 0 p1 s = some (o, v, c')) (ho : o ≠ 0 → cdn 3 9 9 o ≠ 0 ∧ o ≤ 3) : FL_ambulance 0 p1 0 s = some (0, cdn 3 9 9 o, lawS o v c') := by
  simp only [FL_ambulance, fL_ambulance_0, fL_ambulance_12, fL_ambulance_15, h]
  by_cases e : o = 0
  · subst e
    rw [bnh_ok]
    simp [lawS, cdn]
  · obtain ⟨h1, h2⟩ := ho e
    rw [bnh_ex o e]
    have h3 : o = 1 ∨ o = 2 ∨ o = 3 := by omega
    rcases h3 with h3 | h3 | h3 <;> subst h3 <;> first | rfl | exact absurd rfl h1
theorem lL_ambulance {t i L a0 : Int} {s : St} (ht : 0 ≤ t ∧ t ≤ 600) (h : rl t s s) (hL : gm s 61 1 0 = L) (hL2 : L ≤ 100000) (i0 : 0 ≤ i) (i1 : i + 7 ≤ L) : ∃ m', (∀ n, fL_law_1665 (kL_law (n + 1)) a0 0 0 0 i s = fL_law_23 (kL_law n) a0 0 0 0 (i + 7) m') ∧ rl (t + 1) m' m' ∧ m'.1 61 = s.1 61 := by
  have w7 : wr (i + 7) = i + 7 := wq (by omega) (by omega)
  have w1 : wr (i + 1) = i + 1 := wq (by omega) (by omega)
  have r1 : 0 ≤ i + 1 ∧ i + 1 < L := by omega
  obtain ⟨o, v, c', e1, e2, e3, e4⟩ := lawC (a := 3) (b := 9) (d := 9) h (fun s9 => FX11_ambulance 0 (gm s 61 0 (i + 1)) s9) (fun s9 => FX12_ambulance 0 (gm s 61 0 (i + 1)) s9) (fun m h' => op_ambulance h' (gm s 61 0 (i + 1)))
  have e5 := wL_ambulance e1 e2
  obtain ⟨w, m', f1, f2, f3, f4, f5, f6⟩ := e4 (lawS o v c') (lawS_1 o v c') (lawS_2 o v c')
  have g61 : (lawS o v c').1 61 = s.1 61 := by rw [lawS_1 _ _ _ 61 (by decide)]; exact e3 61 (by decide)
  have h60 : o = 0 → gm m' 60 0 0 = v := fun e => by
    have : gm m' 60 0 0 = gm (lawS o v c') 60 0 0 := by unfold gm; rw [f5]
    rw [this, e]; exact lawS_60 v c'
  have g1 : ∀ z j, gm (lawS o v c') 61 z j = gm s 61 z j := fun z j => by unfold gm; rw [g61]
  (try dsimp only at f1)
  have f2' := emThrown 0 m'
  rw [f2] at f2'
  refine ⟨m', fun n => ?_, f4, f6.trans g61⟩
  generalize hs1 : lawS o v c' = s1 at e5 f1 g1 h60
  generalize hR : fL_law_23 (kL_law n) a0 0 0 0 (i + 7) m' = R
  simp only [fL_law_1665, fL_law_1701, fL_law_1718, fL_law_2636, hL, w1, if_pos r1, e5, bn0_ok, g1, f1, bnd_ok, f2', if_true, w7]
  rw [uL_law_23]
  by_cases e : o = 0
  · rw [h60 e, f3 e, e, icp_self, if_pos (show cdn 3 9 9 0 = 0 from rfl)]
    simp
    exact hR
  · rw [if_neg (e2 e).1]
    exact hR
theorem wL_march {p1 p2 : Int} {s : St} {o : Nat} {v : Int} {c' : St} (h : FX11_march 0 p1 p2 s = some (o, v, c')) (ho : o ≠ 0 → cdn 1 2 9 o ≠ 0 ∧ o ≤ 3) : FL_march 0 p1 p2 0 s = some (0, cdn 1 2 9 o, lawS o v c') := by
  simp only [FL_march, fL_march_0, fL_march_13, fL_march_17, fL_march_21, h]
  by_cases e : o = 0
  · subst e
    rw [bnh_ok]
    simp [lawS, cdn]
  · obtain ⟨h1, h2⟩ := ho e
    rw [bnh_ex o e]
    have h3 : o = 1 ∨ o = 2 ∨ o = 3 := by omega
    rcases h3 with h3 | h3 | h3 <;> subst h3 <;> first | rfl | exact absurd rfl h1
theorem lL_march {t i L a0 : Int} {s : St} (ht : 0 ≤ t ∧ t ≤ 600) (h : rl t s s) (hL : gm s 61 1 0 = L) (hL2 : L ≤ 100000) (i0 : 0 ≤ i) (i1 : i + 7 ≤ L) : ∃ m', (∀ n, fL_law_1721 (kL_law (n + 1)) a0 0 0 0 i s = fL_law_23 (kL_law n) a0 0 0 0 (i + 7) m') ∧ rl (t + 1) m' m' ∧ m'.1 61 = s.1 61 := by
  have w7 : wr (i + 7) = i + 7 := wq (by omega) (by omega)
  have w1 : wr (i + 1) = i + 1 := wq (by omega) (by omega)
  have r1 : 0 ≤ i + 1 ∧ i + 1 < L := by omega
  have w2 : wr (i + 2) = i + 2 := wq (by omega) (by omega)
  have r2 : 0 ≤ i + 2 ∧ i + 2 < L := by omega
  obtain ⟨o, v, c', e1, e2, e3, e4⟩ := lawC (a := 1) (b := 2) (d := 9) h (fun s9 => FX11_march 0 (gm s 61 0 (i + 1)) (gm s 61 0 (i + 2)) s9) (fun s9 => FX12_march 0 (gm s 61 0 (i + 1)) (gm s 61 0 (i + 2)) s9) (fun m h' => op_march (by omega) h' (gm s 61 0 (i + 1)) (gm s 61 0 (i + 2)))
  have e5 := wL_march e1 e2
  obtain ⟨w, m', f1, f2, f3, f4, f5, f6⟩ := e4 (lawS o v c') (lawS_1 o v c') (lawS_2 o v c')
  have g61 : (lawS o v c').1 61 = s.1 61 := by rw [lawS_1 _ _ _ 61 (by decide)]; exact e3 61 (by decide)
  have h60 : o = 0 → gm m' 60 0 0 = v := fun e => by
    have : gm m' 60 0 0 = gm (lawS o v c') 60 0 0 := by unfold gm; rw [f5]
    rw [this, e]; exact lawS_60 v c'
  have g1 : ∀ z j, gm (lawS o v c') 61 z j = gm s 61 z j := fun z j => by unfold gm; rw [g61]
  (try dsimp only at f1)
  have f2' := emThrown 0 m'
  rw [f2] at f2'
  refine ⟨m', fun n => ?_, f4, f6.trans g61⟩
  generalize hs1 : lawS o v c' = s1 at e5 f1 g1 h60
  generalize hR : fL_law_23 (kL_law n) a0 0 0 0 (i + 7) m' = R
  simp only [fL_law_1721, fL_law_1769, fL_law_1786, fL_law_2636, hL, w1, if_pos r1, w2, if_pos r2, e5, bn0_ok, g1, f1, bnd_ok, f2', if_true, w7]
  rw [uL_law_23]
  by_cases e : o = 0
  · rw [h60 e, f3 e, e, icp_self, if_pos (show cdn 1 2 9 0 = 0 from rfl)]
    simp
    exact hR
  · rw [if_neg (e2 e).1]
    exact hR
theorem wL_part {p1 p2 p3 : Int} {s : St} {o : Nat} {v : Int} {c' : St} (h : FX11_part 0 p1 p2 p3 s = some (o, v, c')) (ho : o ≠ 0 → cdn 1 2 3 o ≠ 0 ∧ o ≤ 3) : FL_part 0 p1 p2 p3 0 s = some (0, cdn 1 2 3 o, lawS o v c') := by
  simp only [FL_part, fL_part_0, fL_part_15, fL_part_19, fL_part_23, fL_part_27, h]
  by_cases e : o = 0
  · subst e
    rw [bnh_ok]
    simp [lawS, cdn]
  · obtain ⟨h1, h2⟩ := ho e
    rw [bnh_ex o e]
    have h3 : o = 1 ∨ o = 2 ∨ o = 3 := by omega
    rcases h3 with h3 | h3 | h3 <;> subst h3 <;> first | rfl | exact absurd rfl h1
theorem lL_part {t i L a0 : Int} {s : St} (ht : 0 ≤ t ∧ t ≤ 600) (h : rl t s s) (hL : gm s 61 1 0 = L) (hL2 : L ≤ 100000) (i0 : 0 ≤ i) (i1 : i + 7 ≤ L) : ∃ m', (∀ n, fL_law_1789 (kL_law (n + 1)) a0 0 0 0 i s = fL_law_23 (kL_law n) a0 0 0 0 (i + 7) m') ∧ rl (t + 1) m' m' ∧ m'.1 61 = s.1 61 := by
  have w7 : wr (i + 7) = i + 7 := wq (by omega) (by omega)
  have w1 : wr (i + 1) = i + 1 := wq (by omega) (by omega)
  have r1 : 0 ≤ i + 1 ∧ i + 1 < L := by omega
  have w2 : wr (i + 2) = i + 2 := wq (by omega) (by omega)
  have r2 : 0 ≤ i + 2 ∧ i + 2 < L := by omega
  have w3 : wr (i + 3) = i + 3 := wq (by omega) (by omega)
  have r3 : 0 ≤ i + 3 ∧ i + 3 < L := by omega
  obtain ⟨o, v, c', e1, e2, e3, e4⟩ := lawC (a := 1) (b := 2) (d := 3) h (fun s9 => FX11_part 0 (gm s 61 0 (i + 1)) (gm s 61 0 (i + 2)) (gm s 61 0 (i + 3)) s9) (fun s9 => FX12_part 0 (gm s 61 0 (i + 1)) (gm s 61 0 (i + 2)) (gm s 61 0 (i + 3)) s9) (fun m h' => op_part h' (gm s 61 0 (i + 1)) (gm s 61 0 (i + 2)) (gm s 61 0 (i + 3)))
  have e5 := wL_part e1 e2
  obtain ⟨w, m', f1, f2, f3, f4, f5, f6⟩ := e4 (lawS o v c') (lawS_1 o v c') (lawS_2 o v c')
  have g61 : (lawS o v c').1 61 = s.1 61 := by rw [lawS_1 _ _ _ 61 (by decide)]; exact e3 61 (by decide)
  have h60 : o = 0 → gm m' 60 0 0 = v := fun e => by
    have : gm m' 60 0 0 = gm (lawS o v c') 60 0 0 := by unfold gm; rw [f5]
    rw [this, e]; exact lawS_60 v c'
  have g1 : ∀ z j, gm (lawS o v c') 61 z j = gm s 61 z j := fun z j => by unfold gm; rw [g61]
  (try dsimp only at f1)
  have f2' := emThrown 0 m'
  rw [f2] at f2'
  refine ⟨m', fun n => ?_, f4, f6.trans g61⟩
  generalize hs1 : lawS o v c' = s1 at e5 f1 g1 h60
  generalize hR : fL_law_23 (kL_law n) a0 0 0 0 (i + 7) m' = R
  simp only [fL_law_1789, fL_law_1849, fL_law_1866, fL_law_2636, hL, w1, if_pos r1, w2, if_pos r2, w3, if_pos r3, e5, bn0_ok, g1, f1, bnd_ok, f2', if_true, w7]
  rw [uL_law_23]
  by_cases e : o = 0
  · rw [h60 e, f3 e, e, icp_self, if_pos (show cdn 1 2 3 0 = 0 from rfl)]
    simp
    exact hR
  · rw [if_neg (e2 e).1]
    exact hR
theorem wL_clock {p1 p2 : Int} {s : St} {o : Nat} {v : Int} {c' : St} (h : FX11_clock 0 p1 p2 s = some (o, v, c')) (ho : o ≠ 0 → cdn 3 1 9 o ≠ 0 ∧ o ≤ 3) : FL_clock 0 p1 p2 0 s = some (0, cdn 3 1 9 o, lawS o v c') := by
  simp only [FL_clock, fL_clock_0, fL_clock_13, fL_clock_17, fL_clock_21, h]
  by_cases e : o = 0
  · subst e
    rw [bnh_ok]
    simp [lawS, cdn]
  · obtain ⟨h1, h2⟩ := ho e
    rw [bnh_ex o e]
    have h3 : o = 1 ∨ o = 2 ∨ o = 3 := by omega
    rcases h3 with h3 | h3 | h3 <;> subst h3 <;> first | rfl | exact absurd rfl h1
theorem lL_clock {t i L a0 : Int} {s : St} (ht : 0 ≤ t ∧ t ≤ 600) (h : rl t s s) (hL : gm s 61 1 0 = L) (hL2 : L ≤ 100000) (i0 : 0 ≤ i) (i1 : i + 7 ≤ L) : ∃ m', (∀ n, fL_law_1869 (kL_law (n + 1)) a0 0 0 0 i s = fL_law_23 (kL_law n) a0 0 0 0 (i + 7) m') ∧ rl (t + 1) m' m' ∧ m'.1 61 = s.1 61 := by
  have w7 : wr (i + 7) = i + 7 := wq (by omega) (by omega)
  have w1 : wr (i + 1) = i + 1 := wq (by omega) (by omega)
  have r1 : 0 ≤ i + 1 ∧ i + 1 < L := by omega
  have w2 : wr (i + 2) = i + 2 := wq (by omega) (by omega)
  have r2 : 0 ≤ i + 2 ∧ i + 2 < L := by omega
  obtain ⟨o, v, c', e1, e2, e3, e4⟩ := lawC (a := 3) (b := 1) (d := 9) h (fun s9 => FX11_clock 0 (gm s 61 0 (i + 1)) (gm s 61 0 (i + 2)) s9) (fun s9 => FX12_clock 0 (gm s 61 0 (i + 1)) (gm s 61 0 (i + 2)) s9) (fun m h' => op_clock (by omega) h' (gm s 61 0 (i + 1)) (gm s 61 0 (i + 2)))
  have e5 := wL_clock e1 e2
  obtain ⟨w, m', f1, f2, f3, f4, f5, f6⟩ := e4 (lawS o v c') (lawS_1 o v c') (lawS_2 o v c')
  have g61 : (lawS o v c').1 61 = s.1 61 := by rw [lawS_1 _ _ _ 61 (by decide)]; exact e3 61 (by decide)
  have h60 : o = 0 → gm m' 60 0 0 = v := fun e => by
    have : gm m' 60 0 0 = gm (lawS o v c') 60 0 0 := by unfold gm; rw [f5]
    rw [this, e]; exact lawS_60 v c'
  have g1 : ∀ z j, gm (lawS o v c') 61 z j = gm s 61 z j := fun z j => by unfold gm; rw [g61]
  (try dsimp only at f1)
  have f2' := emThrown 0 m'
  rw [f2] at f2'
  refine ⟨m', fun n => ?_, f4, f6.trans g61⟩
  generalize hs1 : lawS o v c' = s1 at e5 f1 g1 h60
  generalize hR : fL_law_23 (kL_law n) a0 0 0 0 (i + 7) m' = R
  simp only [fL_law_1869, fL_law_1917, fL_law_1934, fL_law_2636, hL, w1, if_pos r1, w2, if_pos r2, e5, bn0_ok, g1, f1, bnd_ok, f2', if_true, w7]
  rw [uL_law_23]
  by_cases e : o = 0
  · rw [h60 e, f3 e, e, icp_self, if_pos (show cdn 3 1 9 0 = 0 from rfl)]
    simp
    exact hR
  · rw [if_neg (e2 e).1]
    exact hR
theorem wL_note {p1 p2 p3 p4 : Int} {s : St} {o : Nat} {v : Int} {c' : St} (h : FX11_note 0 p1 p2 p3 p4 s = some (o, v, c')) (ho : o ≠ 0 → cdn 3 1 2 o ≠ 0 ∧ o ≤ 3) : FL_note 0 p1 p2 p3 p4 0 s = some (0, cdn 3 1 2 o, lawS o v c') := by
  simp only [FL_note, fL_note_0, fL_note_17, fL_note_21, fL_note_25, fL_note_29, h]
  by_cases e : o = 0
  · subst e
    rw [bnh_ok]
    simp [lawS, cdn]
  · obtain ⟨h1, h2⟩ := ho e
    rw [bnh_ex o e]
    have h3 : o = 1 ∨ o = 2 ∨ o = 3 := by omega
    rcases h3 with h3 | h3 | h3 <;> subst h3 <;> first | rfl | exact absurd rfl h1
theorem lL_note {t i L a0 : Int} {s : St} (ht : 0 ≤ t ∧ t ≤ 600) (h : rl t s s) (hL : gm s 61 1 0 = L) (hL2 : L ≤ 100000) (i0 : 0 ≤ i) (i1 : i + 7 ≤ L) : ∃ m', (∀ n, fL_law_1937 (kL_law (n + 1)) a0 0 0 0 i s = fL_law_23 (kL_law n) a0 0 0 0 (i + 7) m') ∧ rl (t + 1) m' m' ∧ m'.1 61 = s.1 61 := by
  have w7 : wr (i + 7) = i + 7 := wq (by omega) (by omega)
  have w1 : wr (i + 1) = i + 1 := wq (by omega) (by omega)
  have r1 : 0 ≤ i + 1 ∧ i + 1 < L := by omega
  have w2 : wr (i + 2) = i + 2 := wq (by omega) (by omega)
  have r2 : 0 ≤ i + 2 ∧ i + 2 < L := by omega
  have w3 : wr (i + 3) = i + 3 := wq (by omega) (by omega)
  have r3 : 0 ≤ i + 3 ∧ i + 3 < L := by omega
  have w4 : wr (i + 4) = i + 4 := wq (by omega) (by omega)
  have r4 : 0 ≤ i + 4 ∧ i + 4 < L := by omega
  obtain ⟨o, v, c', e1, e2, e3, e4⟩ := lawC (a := 3) (b := 1) (d := 2) h (fun s9 => FX11_note 0 (gm s 61 0 (i + 1)) (gm s 61 0 (i + 2)) (gm s 61 0 (i + 3)) (gm s 61 0 (i + 4)) s9) (fun s9 => FX12_note 0 (gm s 61 0 (i + 1)) (gm s 61 0 (i + 2)) (gm s 61 0 (i + 3)) (gm s 61 0 (i + 4)) s9) (fun m h' => op_note h' (gm s 61 0 (i + 1)) (gm s 61 0 (i + 2)) (gm s 61 0 (i + 3)) (gm s 61 0 (i + 4)))
  have e5 := wL_note e1 e2
  obtain ⟨w, m', f1, f2, f3, f4, f5, f6⟩ := e4 (lawS o v c') (lawS_1 o v c') (lawS_2 o v c')
  have g61 : (lawS o v c').1 61 = s.1 61 := by rw [lawS_1 _ _ _ 61 (by decide)]; exact e3 61 (by decide)
  have h60 : o = 0 → gm m' 60 0 0 = v := fun e => by
    have : gm m' 60 0 0 = gm (lawS o v c') 60 0 0 := by unfold gm; rw [f5]
    rw [this, e]; exact lawS_60 v c'
  have g1 : ∀ z j, gm (lawS o v c') 61 z j = gm s 61 z j := fun z j => by unfold gm; rw [g61]
  (try dsimp only at f1)
  have f2' := emThrown 0 m'
  rw [f2] at f2'
  refine ⟨m', fun n => ?_, f4, f6.trans g61⟩
  generalize hs1 : lawS o v c' = s1 at e5 f1 g1 h60
  generalize hR : fL_law_23 (kL_law n) a0 0 0 0 (i + 7) m' = R
  simp only [fL_law_1937, fL_law_2009, fL_law_2026, fL_law_2636, hL, w1, if_pos r1, w2, if_pos r2, w3, if_pos r3, w4, if_pos r4, e5, bn0_ok, g1, f1, bnd_ok, f2', if_true, w7]
  rw [uL_law_23]
  by_cases e : o = 0
  · rw [h60 e, f3 e, e, icp_self, if_pos (show cdn 3 1 2 0 = 0 from rfl)]
    simp
    exact hR
  · rw [if_neg (e2 e).1]
    exact hR
theorem wL_penalty {p1 p2 p3 : Int} {s : St} {o : Nat} {v : Int} {c' : St} (h : FX11_penalty 0 p1 p2 p3 s = some (o, v, c')) (ho : o ≠ 0 → cdn 3 1 2 o ≠ 0 ∧ o ≤ 3) : FL_penalty 0 p1 p2 p3 0 s = some (0, cdn 3 1 2 o, lawS o v c') := by
  simp only [FL_penalty, fL_penalty_0, fL_penalty_15, fL_penalty_19, fL_penalty_23, fL_penalty_27, h]
  by_cases e : o = 0
  · subst e
    rw [bnh_ok]
    simp [lawS, cdn]
  · obtain ⟨h1, h2⟩ := ho e
    rw [bnh_ex o e]
    have h3 : o = 1 ∨ o = 2 ∨ o = 3 := by omega
    rcases h3 with h3 | h3 | h3 <;> subst h3 <;> first | rfl | exact absurd rfl h1
theorem lL_penalty {t i L a0 : Int} {s : St} (ht : 0 ≤ t ∧ t ≤ 600) (h : rl t s s) (hL : gm s 61 1 0 = L) (hL2 : L ≤ 100000) (i0 : 0 ≤ i) (i1 : i + 7 ≤ L) : ∃ m', (∀ n, fL_law_2029 (kL_law (n + 1)) a0 0 0 0 i s = fL_law_23 (kL_law n) a0 0 0 0 (i + 7) m') ∧ rl (t + 1) m' m' ∧ m'.1 61 = s.1 61 := by
  have w7 : wr (i + 7) = i + 7 := wq (by omega) (by omega)
  have w1 : wr (i + 1) = i + 1 := wq (by omega) (by omega)
  have r1 : 0 ≤ i + 1 ∧ i + 1 < L := by omega
  have w2 : wr (i + 2) = i + 2 := wq (by omega) (by omega)
  have r2 : 0 ≤ i + 2 ∧ i + 2 < L := by omega
  have w3 : wr (i + 3) = i + 3 := wq (by omega) (by omega)
  have r3 : 0 ≤ i + 3 ∧ i + 3 < L := by omega
  obtain ⟨o, v, c', e1, e2, e3, e4⟩ := lawC (a := 3) (b := 1) (d := 2) h (fun s9 => FX11_penalty 0 (gm s 61 0 (i + 1)) (gm s 61 0 (i + 2)) (gm s 61 0 (i + 3)) s9) (fun s9 => FX12_penalty 0 (gm s 61 0 (i + 1)) (gm s 61 0 (i + 2)) (gm s 61 0 (i + 3)) s9) (fun m h' => op_penalty h' (gm s 61 0 (i + 1)) (gm s 61 0 (i + 2)) (gm s 61 0 (i + 3)))
  have e5 := wL_penalty e1 e2
  obtain ⟨w, m', f1, f2, f3, f4, f5, f6⟩ := e4 (lawS o v c') (lawS_1 o v c') (lawS_2 o v c')
  have g61 : (lawS o v c').1 61 = s.1 61 := by rw [lawS_1 _ _ _ 61 (by decide)]; exact e3 61 (by decide)
  have h60 : o = 0 → gm m' 60 0 0 = v := fun e => by
    have : gm m' 60 0 0 = gm (lawS o v c') 60 0 0 := by unfold gm; rw [f5]
    rw [this, e]; exact lawS_60 v c'
  have g1 : ∀ z j, gm (lawS o v c') 61 z j = gm s 61 z j := fun z j => by unfold gm; rw [g61]
  (try dsimp only at f1)
  have f2' := emThrown 0 m'
  rw [f2] at f2'
  refine ⟨m', fun n => ?_, f4, f6.trans g61⟩
  generalize hs1 : lawS o v c' = s1 at e5 f1 g1 h60
  generalize hR : fL_law_23 (kL_law n) a0 0 0 0 (i + 7) m' = R
  simp only [fL_law_2029, fL_law_2089, fL_law_2106, fL_law_2636, hL, w1, if_pos r1, w2, if_pos r2, w3, if_pos r3, e5, bn0_ok, g1, f1, bnd_ok, f2', if_true, w7]
  rw [uL_law_23]
  by_cases e : o = 0
  · rw [h60 e, f3 e, e, icp_self, if_pos (show cdn 3 1 2 0 = 0 from rfl)]
    simp
    exact hR
  · rw [if_neg (e2 e).1]
    exact hR
theorem wL_appeal {p1 p2 : Int} {s : St} {o : Nat} {v : Int} {c' : St} (h : FX11_appeal 0 p1 p2 s = some (o, v, c')) (ho : o ≠ 0 → cdn 3 2 9 o ≠ 0 ∧ o ≤ 3) : FL_appeal 0 p1 p2 0 s = some (0, cdn 3 2 9 o, lawS o v c') := by
  simp only [FL_appeal, fL_appeal_0, fL_appeal_13, fL_appeal_17, fL_appeal_21, h]
  by_cases e : o = 0
  · subst e
    rw [bnh_ok]
    simp [lawS, cdn]
  · obtain ⟨h1, h2⟩ := ho e
    rw [bnh_ex o e]
    have h3 : o = 1 ∨ o = 2 ∨ o = 3 := by omega
    rcases h3 with h3 | h3 | h3 <;> subst h3 <;> first | rfl | exact absurd rfl h1
theorem lL_appeal {t i L a0 : Int} {s : St} (ht : 0 ≤ t ∧ t ≤ 600) (h : rl t s s) (hL : gm s 61 1 0 = L) (hL2 : L ≤ 100000) (i0 : 0 ≤ i) (i1 : i + 7 ≤ L) : ∃ m', (∀ n, fL_law_2109 (kL_law (n + 1)) a0 0 0 0 i s = fL_law_23 (kL_law n) a0 0 0 0 (i + 7) m') ∧ rl (t + 1) m' m' ∧ m'.1 61 = s.1 61 := by
  have w7 : wr (i + 7) = i + 7 := wq (by omega) (by omega)
  have w1 : wr (i + 1) = i + 1 := wq (by omega) (by omega)
  have r1 : 0 ≤ i + 1 ∧ i + 1 < L := by omega
  have w2 : wr (i + 2) = i + 2 := wq (by omega) (by omega)
  have r2 : 0 ≤ i + 2 ∧ i + 2 < L := by omega
  obtain ⟨o, v, c', e1, e2, e3, e4⟩ := lawC (a := 3) (b := 2) (d := 9) h (fun s9 => FX11_appeal 0 (gm s 61 0 (i + 1)) (gm s 61 0 (i + 2)) s9) (fun s9 => FX12_appeal 0 (gm s 61 0 (i + 1)) (gm s 61 0 (i + 2)) s9) (fun m h' => op_appeal h' (gm s 61 0 (i + 1)) (gm s 61 0 (i + 2)))
  have e5 := wL_appeal e1 e2
  obtain ⟨w, m', f1, f2, f3, f4, f5, f6⟩ := e4 (lawS o v c') (lawS_1 o v c') (lawS_2 o v c')
  have g61 : (lawS o v c').1 61 = s.1 61 := by rw [lawS_1 _ _ _ 61 (by decide)]; exact e3 61 (by decide)
  have h60 : o = 0 → gm m' 60 0 0 = v := fun e => by
    have : gm m' 60 0 0 = gm (lawS o v c') 60 0 0 := by unfold gm; rw [f5]
    rw [this, e]; exact lawS_60 v c'
  have g1 : ∀ z j, gm (lawS o v c') 61 z j = gm s 61 z j := fun z j => by unfold gm; rw [g61]
  (try dsimp only at f1)
  have f2' := emThrown 0 m'
  rw [f2] at f2'
  refine ⟨m', fun n => ?_, f4, f6.trans g61⟩
  generalize hs1 : lawS o v c' = s1 at e5 f1 g1 h60
  generalize hR : fL_law_23 (kL_law n) a0 0 0 0 (i + 7) m' = R
  simp only [fL_law_2109, fL_law_2157, fL_law_2174, fL_law_2636, hL, w1, if_pos r1, w2, if_pos r2, e5, bn0_ok, g1, f1, bnd_ok, f2', if_true, w7]
  rw [uL_law_23]
  by_cases e : o = 0
  · rw [h60 e, f3 e, e, icp_self, if_pos (show cdn 3 2 9 0 = 0 from rfl)]
    simp
    exact hR
  · rw [if_neg (e2 e).1]
    exact hR
theorem wL_draw {p1 : Int} {s : St} {o : Nat} {v : Int} {c' : St} (h : FX11_draw 0 p1 s = some (o, v, c')) (ho : o ≠ 0 → cdn 1 9 9 o ≠ 0 ∧ o ≤ 3) : FL_draw 0 p1 0 s = some (0, cdn 1 9 9 o, lawS o v c') := by
  simp only [FL_draw, fL_draw_0, fL_draw_12, fL_draw_15, h]
  by_cases e : o = 0
  · subst e
    rw [bnh_ok]
    simp [lawS, cdn]
  · obtain ⟨h1, h2⟩ := ho e
    rw [bnh_ex o e]
    have h3 : o = 1 ∨ o = 2 ∨ o = 3 := by omega
    rcases h3 with h3 | h3 | h3 <;> subst h3 <;> first | rfl | exact absurd rfl h1
theorem lL_draw {t i L a0 : Int} {s : St} (ht : 0 ≤ t ∧ t ≤ 600) (h : rl t s s) (hL : gm s 61 1 0 = L) (hL2 : L ≤ 100000) (i0 : 0 ≤ i) (i1 : i + 7 ≤ L) : ∃ m', (∀ n, fL_law_2177 (kL_law (n + 1)) a0 0 0 0 i s = fL_law_23 (kL_law n) a0 0 0 0 (i + 7) m') ∧ rl (t + 1) m' m' ∧ m'.1 61 = s.1 61 := by
  have w7 : wr (i + 7) = i + 7 := wq (by omega) (by omega)
  have w1 : wr (i + 1) = i + 1 := wq (by omega) (by omega)
  have r1 : 0 ≤ i + 1 ∧ i + 1 < L := by omega
  obtain ⟨o, v, c', e1, e2, e3, e4⟩ := lawC (a := 1) (b := 9) (d := 9) h (fun s9 => FX11_draw 0 (gm s 61 0 (i + 1)) s9) (fun s9 => FX12_draw 0 (gm s 61 0 (i + 1)) s9) (fun m h' => op_draw h' (gm s 61 0 (i + 1)))
  have e5 := wL_draw e1 e2
  obtain ⟨w, m', f1, f2, f3, f4, f5, f6⟩ := e4 (lawS o v c') (lawS_1 o v c') (lawS_2 o v c')
  have g61 : (lawS o v c').1 61 = s.1 61 := by rw [lawS_1 _ _ _ 61 (by decide)]; exact e3 61 (by decide)
  have h60 : o = 0 → gm m' 60 0 0 = v := fun e => by
    have : gm m' 60 0 0 = gm (lawS o v c') 60 0 0 := by unfold gm; rw [f5]
    rw [this, e]; exact lawS_60 v c'
  have g1 : ∀ z j, gm (lawS o v c') 61 z j = gm s 61 z j := fun z j => by unfold gm; rw [g61]
  (try dsimp only at f1)
  have f2' := emThrown 0 m'
  rw [f2] at f2'
  refine ⟨m', fun n => ?_, f4, f6.trans g61⟩
  generalize hs1 : lawS o v c' = s1 at e5 f1 g1 h60
  generalize hR : fL_law_23 (kL_law n) a0 0 0 0 (i + 7) m' = R
  simp only [fL_law_2177, fL_law_2213, fL_law_2230, fL_law_2636, hL, w1, if_pos r1, e5, bn0_ok, g1, f1, bnd_ok, f2', if_true, w7]
  rw [uL_law_23]
  by_cases e : o = 0
  · rw [h60 e, f3 e, e, icp_self, if_pos (show cdn 1 9 9 0 = 0 from rfl)]
    simp
    exact hR
  · rw [if_neg (e2 e).1]
    exact hR
theorem wL_endYear {s : St} {o : Nat} {v : Int} {c' : St} (h : FX11_endYear 0 s = some (o, v, c')) (ho : o ≠ 0 → cdn 2 9 9 o ≠ 0 ∧ o ≤ 3) : FL_endYear 0 0 s = some (0, cdn 2 9 9 o, lawS o v c') := by
  simp only [FL_endYear, fL_endYear_0, fL_endYear_11, fL_endYear_14, h]
  by_cases e : o = 0
  · subst e
    rw [bnh_ok]
    simp [lawS, cdn]
  · obtain ⟨h1, h2⟩ := ho e
    rw [bnh_ex o e]
    have h3 : o = 1 ∨ o = 2 ∨ o = 3 := by omega
    rcases h3 with h3 | h3 | h3 <;> subst h3 <;> first | rfl | exact absurd rfl h1
theorem lL_endYear {t i L a0 : Int} {s : St} (ht : 0 ≤ t ∧ t ≤ 600) (h : rl t s s) (hL : gm s 61 1 0 = L) (hL2 : L ≤ 100000) (i0 : 0 ≤ i) (i1 : i + 7 ≤ L) : ∃ m', (∀ n, fL_law_2233 (kL_law (n + 1)) a0 0 0 0 i s = fL_law_23 (kL_law n) a0 0 0 0 (i + 7) m') ∧ rl (t + 1) m' m' ∧ m'.1 61 = s.1 61 := by
  have w7 : wr (i + 7) = i + 7 := wq (by omega) (by omega)
  obtain ⟨o, v, c', e1, e2, e3, e4⟩ := lawC (a := 2) (b := 9) (d := 9) h (fun s9 => FX11_endYear 0 s9) (fun s9 => FX12_endYear 0 s9) (fun m h' => op_endYear (by omega) h' )
  have e5 := wL_endYear e1 e2
  obtain ⟨w, m', f1, f2, f3, f4, f5, f6⟩ := e4 (lawS o v c') (lawS_1 o v c') (lawS_2 o v c')
  have g61 : (lawS o v c').1 61 = s.1 61 := by rw [lawS_1 _ _ _ 61 (by decide)]; exact e3 61 (by decide)
  have h60 : o = 0 → gm m' 60 0 0 = v := fun e => by
    have : gm m' 60 0 0 = gm (lawS o v c') 60 0 0 := by unfold gm; rw [f5]
    rw [this, e]; exact lawS_60 v c'
  have g1 : ∀ z j, gm (lawS o v c') 61 z j = gm s 61 z j := fun z j => by unfold gm; rw [g61]
  (try dsimp only at f1)
  have f2' := emThrown 0 m'
  rw [f2] at f2'
  refine ⟨m', fun n => ?_, f4, f6.trans g61⟩
  generalize hs1 : lawS o v c' = s1 at e5 f1 g1 h60
  generalize hR : fL_law_23 (kL_law n) a0 0 0 0 (i + 7) m' = R
  simp only [fL_law_2233, fL_law_2257, fL_law_2274, fL_law_2636, hL, e5, bn0_ok, g1, f1, bnd_ok, f2', if_true, w7]
  rw [uL_law_23]
  by_cases e : o = 0
  · rw [h60 e, f3 e, e, icp_self, if_pos (show cdn 2 9 9 0 = 0 from rfl)]
    simp
    exact hR
  · rw [if_neg (e2 e).1]
    exact hR
theorem wL_about {p1 p2 : Int} {s : St} {o : Nat} {v : Int} {c' : St} (h : FX11_about 0 p1 p2 s = some (o, v, c')) (ho : o ≠ 0 → cdn 3 1 9 o ≠ 0 ∧ o ≤ 3) : FL_about 0 p1 p2 0 s = some (0, cdn 3 1 9 o, lawS o v c') := by
  simp only [FL_about, fL_about_0, fL_about_13, fL_about_17, fL_about_21, h]
  by_cases e : o = 0
  · subst e
    rw [bnh_ok]
    simp [lawS, cdn]
  · obtain ⟨h1, h2⟩ := ho e
    rw [bnh_ex o e]
    have h3 : o = 1 ∨ o = 2 ∨ o = 3 := by omega
    rcases h3 with h3 | h3 | h3 <;> subst h3 <;> first | rfl | exact absurd rfl h1
theorem lL_about {t i L a0 : Int} {s : St} (ht : 0 ≤ t ∧ t ≤ 600) (h : rl t s s) (hL : gm s 61 1 0 = L) (hL2 : L ≤ 100000) (i0 : 0 ≤ i) (i1 : i + 7 ≤ L) : ∃ m', (∀ n, fL_law_2277 (kL_law (n + 1)) a0 0 0 0 i s = fL_law_23 (kL_law n) a0 0 0 0 (i + 7) m') ∧ rl (t + 1) m' m' ∧ m'.1 61 = s.1 61 := by
  have w7 : wr (i + 7) = i + 7 := wq (by omega) (by omega)
  have w1 : wr (i + 1) = i + 1 := wq (by omega) (by omega)
  have r1 : 0 ≤ i + 1 ∧ i + 1 < L := by omega
  have w2 : wr (i + 2) = i + 2 := wq (by omega) (by omega)
  have r2 : 0 ≤ i + 2 ∧ i + 2 < L := by omega
  obtain ⟨o, v, c', e1, e2, e3, e4⟩ := lawC (a := 3) (b := 1) (d := 9) h (fun s9 => FX11_about 0 (gm s 61 0 (i + 1)) (gm s 61 0 (i + 2)) s9) (fun s9 => FX12_about 0 (gm s 61 0 (i + 1)) (gm s 61 0 (i + 2)) s9) (fun m h' => op_about h' (gm s 61 0 (i + 1)) (gm s 61 0 (i + 2)))
  have e5 := wL_about e1 e2
  obtain ⟨w, m', f1, f2, f3, f4, f5, f6⟩ := e4 (lawS o v c') (lawS_1 o v c') (lawS_2 o v c')
  have g61 : (lawS o v c').1 61 = s.1 61 := by rw [lawS_1 _ _ _ 61 (by decide)]; exact e3 61 (by decide)
  have h60 : o = 0 → gm m' 60 0 0 = v := fun e => by
    have : gm m' 60 0 0 = gm (lawS o v c') 60 0 0 := by unfold gm; rw [f5]
    rw [this, e]; exact lawS_60 v c'
  have g1 : ∀ z j, gm (lawS o v c') 61 z j = gm s 61 z j := fun z j => by unfold gm; rw [g61]
  (try dsimp only at f1)
  have f2' := emThrown 0 m'
  rw [f2] at f2'
  refine ⟨m', fun n => ?_, f4, f6.trans g61⟩
  generalize hs1 : lawS o v c' = s1 at e5 f1 g1 h60
  generalize hR : fL_law_23 (kL_law n) a0 0 0 0 (i + 7) m' = R
  simp only [fL_law_2277, fL_law_2325, fL_law_2342, fL_law_2636, hL, w1, if_pos r1, w2, if_pos r2, e5, bn0_ok, g1, f1, bnd_ok, f2', if_true, w7]
  rw [uL_law_23]
  by_cases e : o = 0
  · rw [h60 e, f3 e, e, icp_self, if_pos (show cdn 3 1 9 0 = 0 from rfl)]
    simp
    exact hR
  · rw [if_neg (e2 e).1]
    exact hR
theorem wL_notes {p1 p2 : Int} {s : St} {o : Nat} {v : Int} {c' : St} (h : FX11_notes 0 p1 p2 s = some (o, v, c')) (ho : o ≠ 0 → cdn 3 1 9 o ≠ 0 ∧ o ≤ 3) : FL_notes 0 p1 p2 0 s = some (0, cdn 3 1 9 o, lawS o v c') := by
  simp only [FL_notes, fL_notes_0, fL_notes_13, fL_notes_17, fL_notes_21, h]
  by_cases e : o = 0
  · subst e
    rw [bnh_ok]
    simp [lawS, cdn]
  · obtain ⟨h1, h2⟩ := ho e
    rw [bnh_ex o e]
    have h3 : o = 1 ∨ o = 2 ∨ o = 3 := by omega
    rcases h3 with h3 | h3 | h3 <;> subst h3 <;> first | rfl | exact absurd rfl h1
theorem lL_notes {t i L a0 : Int} {s : St} (ht : 0 ≤ t ∧ t ≤ 600) (h : rl t s s) (hL : gm s 61 1 0 = L) (hL2 : L ≤ 100000) (i0 : 0 ≤ i) (i1 : i + 7 ≤ L) : ∃ m', (∀ n, fL_law_2345 (kL_law (n + 1)) a0 0 0 0 i s = fL_law_23 (kL_law n) a0 0 0 0 (i + 7) m') ∧ rl (t + 1) m' m' ∧ m'.1 61 = s.1 61 := by
  have w7 : wr (i + 7) = i + 7 := wq (by omega) (by omega)
  have w1 : wr (i + 1) = i + 1 := wq (by omega) (by omega)
  have r1 : 0 ≤ i + 1 ∧ i + 1 < L := by omega
  have w2 : wr (i + 2) = i + 2 := wq (by omega) (by omega)
  have r2 : 0 ≤ i + 2 ∧ i + 2 < L := by omega
  obtain ⟨o, v, c', e1, e2, e3, e4⟩ := lawC (a := 3) (b := 1) (d := 9) h (fun s9 => FX11_notes 0 (gm s 61 0 (i + 1)) (gm s 61 0 (i + 2)) s9) (fun s9 => FX12_notes 0 (gm s 61 0 (i + 1)) (gm s 61 0 (i + 2)) s9) (fun m h' => op_notes h' (gm s 61 0 (i + 1)) (gm s 61 0 (i + 2)))
  have e5 := wL_notes e1 e2
  obtain ⟨w, m', f1, f2, f3, f4, f5, f6⟩ := e4 (lawS o v c') (lawS_1 o v c') (lawS_2 o v c')
  have g61 : (lawS o v c').1 61 = s.1 61 := by rw [lawS_1 _ _ _ 61 (by decide)]; exact e3 61 (by decide)
  have h60 : o = 0 → gm m' 60 0 0 = v := fun e => by
    have : gm m' 60 0 0 = gm (lawS o v c') 60 0 0 := by unfold gm; rw [f5]
    rw [this, e]; exact lawS_60 v c'
  have g1 : ∀ z j, gm (lawS o v c') 61 z j = gm s 61 z j := fun z j => by unfold gm; rw [g61]
  (try dsimp only at f1)
  have f2' := emThrown 0 m'
  rw [f2] at f2'
  refine ⟨m', fun n => ?_, f4, f6.trans g61⟩
  generalize hs1 : lawS o v c' = s1 at e5 f1 g1 h60
  generalize hR : fL_law_23 (kL_law n) a0 0 0 0 (i + 7) m' = R
  simp only [fL_law_2345, fL_law_2393, fL_law_2410, fL_law_2636, hL, w1, if_pos r1, w2, if_pos r2, e5, bn0_ok, g1, f1, bnd_ok, f2', if_true, w7]
  rw [uL_law_23]
  by_cases e : o = 0
  · rw [h60 e, f3 e, e, icp_self, if_pos (show cdn 3 1 9 0 = 0 from rfl)]
    simp
    exact hR
  · rw [if_neg (e2 e).1]
    exact hR
theorem wL_penaltyAt {p1 p2 p3 : Int} {s : St} {o : Nat} {v : Int} {c' : St} (h : FX11_penaltyAt 0 p1 p2 p3 s = some (o, v, c')) (ho : o ≠ 0 → cdn 3 1 9 o ≠ 0 ∧ o ≤ 3) : FL_penaltyAt 0 p1 p2 p3 0 s = some (0, cdn 3 1 9 o, lawS o v c') := by
  simp only [FL_penaltyAt, fL_penaltyAt_0, fL_penaltyAt_15, fL_penaltyAt_19, fL_penaltyAt_23, h]
  by_cases e : o = 0
  · subst e
    rw [bnh_ok]
    simp [lawS, cdn]
  · obtain ⟨h1, h2⟩ := ho e
    rw [bnh_ex o e]
    have h3 : o = 1 ∨ o = 2 ∨ o = 3 := by omega
    rcases h3 with h3 | h3 | h3 <;> subst h3 <;> first | rfl | exact absurd rfl h1
theorem lL_penaltyAt {t i L a0 : Int} {s : St} (ht : 0 ≤ t ∧ t ≤ 600) (h : rl t s s) (hL : gm s 61 1 0 = L) (hL2 : L ≤ 100000) (i0 : 0 ≤ i) (i1 : i + 7 ≤ L) : ∃ m', (∀ n, fL_law_2413 (kL_law (n + 1)) a0 0 0 0 i s = fL_law_23 (kL_law n) a0 0 0 0 (i + 7) m') ∧ rl (t + 1) m' m' ∧ m'.1 61 = s.1 61 := by
  have w7 : wr (i + 7) = i + 7 := wq (by omega) (by omega)
  have w1 : wr (i + 1) = i + 1 := wq (by omega) (by omega)
  have r1 : 0 ≤ i + 1 ∧ i + 1 < L := by omega
  have w2 : wr (i + 2) = i + 2 := wq (by omega) (by omega)
  have r2 : 0 ≤ i + 2 ∧ i + 2 < L := by omega
  have w3 : wr (i + 3) = i + 3 := wq (by omega) (by omega)
  have r3 : 0 ≤ i + 3 ∧ i + 3 < L := by omega
  obtain ⟨o, v, c', e1, e2, e3, e4⟩ := lawC (a := 3) (b := 1) (d := 9) h (fun s9 => FX11_penaltyAt 0 (gm s 61 0 (i + 1)) (gm s 61 0 (i + 2)) (gm s 61 0 (i + 3)) s9) (fun s9 => FX12_penaltyAt 0 (gm s 61 0 (i + 1)) (gm s 61 0 (i + 2)) (gm s 61 0 (i + 3)) s9) (fun m h' => op_penaltyAt h' (gm s 61 0 (i + 1)) (gm s 61 0 (i + 2)) (gm s 61 0 (i + 3)))
  have e5 := wL_penaltyAt e1 e2
  obtain ⟨w, m', f1, f2, f3, f4, f5, f6⟩ := e4 (lawS o v c') (lawS_1 o v c') (lawS_2 o v c')
  have g61 : (lawS o v c').1 61 = s.1 61 := by rw [lawS_1 _ _ _ 61 (by decide)]; exact e3 61 (by decide)
  have h60 : o = 0 → gm m' 60 0 0 = v := fun e => by
    have : gm m' 60 0 0 = gm (lawS o v c') 60 0 0 := by unfold gm; rw [f5]
    rw [this, e]; exact lawS_60 v c'
  have g1 : ∀ z j, gm (lawS o v c') 61 z j = gm s 61 z j := fun z j => by unfold gm; rw [g61]
  (try dsimp only at f1)
  have f2' := emThrown 0 m'
  rw [f2] at f2'
  refine ⟨m', fun n => ?_, f4, f6.trans g61⟩
  generalize hs1 : lawS o v c' = s1 at e5 f1 g1 h60
  generalize hR : fL_law_23 (kL_law n) a0 0 0 0 (i + 7) m' = R
  simp only [fL_law_2413, fL_law_2473, fL_law_2490, fL_law_2636, hL, w1, if_pos r1, w2, if_pos r2, w3, if_pos r3, e5, bn0_ok, g1, f1, bnd_ok, f2', if_true, w7]
  rw [uL_law_23]
  by_cases e : o = 0
  · rw [h60 e, f3 e, e, icp_self, if_pos (show cdn 3 1 9 0 = 0 from rfl)]
    simp
    exact hR
  · rw [if_neg (e2 e).1]
    exact hR
theorem wL_isDoubted {p1 p2 : Int} {s : St} {o : Nat} {v : Int} {c' : St} (h : FX11_isDoubted 0 p1 p2 s = some (o, v, c')) (ho : o ≠ 0 → cdn 3 1 9 o ≠ 0 ∧ o ≤ 3) : FL_isDoubted 0 p1 p2 0 s = some (0, cdn 3 1 9 o, lawS o v c') := by
  simp only [FL_isDoubted, fL_isDoubted_0, fL_isDoubted_15, fL_isDoubted_16, fL_isDoubted_20, fL_isDoubted_24, fL_isDoubted_28, h]
  by_cases e : o = 0
  · subst e
    rw [bnh_ok]
    have hv := bDoubted _ _ _ _ v c' h
    rcases hv with hv | hv <;> subst hv <;> simp [lawS, cdn]
  · obtain ⟨h1, h2⟩ := ho e
    rw [bnh_ex o e]
    have h3 : o = 1 ∨ o = 2 ∨ o = 3 := by omega
    rcases h3 with h3 | h3 | h3 <;> subst h3 <;> first | rfl | exact absurd rfl h1
theorem lL_isDoubted {t i L a0 : Int} {s : St} (ht : 0 ≤ t ∧ t ≤ 600) (h : rl t s s) (hL : gm s 61 1 0 = L) (hL2 : L ≤ 100000) (i0 : 0 ≤ i) (i1 : i + 7 ≤ L) : ∃ m', (∀ n, fL_law_2493 (kL_law (n + 1)) a0 0 0 0 i s = fL_law_23 (kL_law n) a0 0 0 0 (i + 7) m') ∧ rl (t + 1) m' m' ∧ m'.1 61 = s.1 61 := by
  have w7 : wr (i + 7) = i + 7 := wq (by omega) (by omega)
  have w1 : wr (i + 1) = i + 1 := wq (by omega) (by omega)
  have r1 : 0 ≤ i + 1 ∧ i + 1 < L := by omega
  have w2 : wr (i + 2) = i + 2 := wq (by omega) (by omega)
  have r2 : 0 ≤ i + 2 ∧ i + 2 < L := by omega
  obtain ⟨o, v, c', e1, e2, e3, e4⟩ := lawC (a := 3) (b := 1) (d := 9) h (fun s9 => FX11_isDoubted 0 (gm s 61 0 (i + 1)) (gm s 61 0 (i + 2)) s9) (fun s9 => FX12_isDoubted 0 (gm s 61 0 (i + 1)) (gm s 61 0 (i + 2)) s9) (fun m h' => op_isDoubted h' (gm s 61 0 (i + 1)) (gm s 61 0 (i + 2)))
  have e5 := wL_isDoubted e1 e2
  obtain ⟨w, m', f1, f2, f3, f4, f5, f6⟩ := e4 (lawS o v c') (lawS_1 o v c') (lawS_2 o v c')
  have g61 : (lawS o v c').1 61 = s.1 61 := by rw [lawS_1 _ _ _ 61 (by decide)]; exact e3 61 (by decide)
  have h60 : o = 0 → gm m' 60 0 0 = v := fun e => by
    have : gm m' 60 0 0 = gm (lawS o v c') 60 0 0 := by unfold gm; rw [f5]
    rw [this, e]; exact lawS_60 v c'
  have g1 : ∀ z j, gm (lawS o v c') 61 z j = gm s 61 z j := fun z j => by unfold gm; rw [g61]
  (try dsimp only at f1)
  have f2' := emThrown 0 m'
  rw [f2] at f2'
  refine ⟨m', fun n => ?_, f4, f6.trans g61⟩
  generalize hs1 : lawS o v c' = s1 at e5 f1 g1 h60
  generalize hR : fL_law_23 (kL_law n) a0 0 0 0 (i + 7) m' = R
  simp only [fL_law_2493, fL_law_2541, fL_law_2558, fL_law_2559, fL_law_2565, fL_law_2636, hL, w1, if_pos r1, w2, if_pos r2, e5, bn0_ok, g1, f1, bnd_ok, f2', if_true, w7]
  rw [uL_law_23]
  by_cases e : o = 0
  · have a1 := f3 e
    have a2 : v = 0 ∨ v = 1 := bDoubted _ _ _ _ v c' (by rw [← e]; exact e1)
    rw [h60 e, e, if_pos (show cdn 3 1 9 0 = 0 from rfl)]
    rcases a2 with a2 | a2
    · rw [← a1, a2]
      simp only [icp_self, if_true]
      simp
      exact hR
    · rw [← a1, a2]
      simp only [icp_self, if_true]
      simp
      exact hR
  · rw [if_neg (e2 e).1]
    exact hR
theorem wL_table {p1 p2 : Int} {s : St} {o : Nat} {v : Int} {c' : St} (h : FX11_table 0 p1 p2 s = some (o, v, c')) (ho : o ≠ 0 → cdn 3 1 9 o ≠ 0 ∧ o ≤ 3) : FL_table 0 p1 p2 0 s = some (0, cdn 3 1 9 o, lawS o v c') := by
  simp only [FL_table, fL_table_0, fL_table_13, fL_table_17, fL_table_21, h]
  by_cases e : o = 0
  · subst e
    rw [bnh_ok]
    simp [lawS, cdn]
  · obtain ⟨h1, h2⟩ := ho e
    rw [bnh_ex o e]
    have h3 : o = 1 ∨ o = 2 ∨ o = 3 := by omega
    rcases h3 with h3 | h3 | h3 <;> subst h3 <;> first | rfl | exact absurd rfl h1
theorem lL_table {t i L a0 : Int} {s : St} (ht : 0 ≤ t ∧ t ≤ 600) (h : rl t s s) (hL : gm s 61 1 0 = L) (hL2 : L ≤ 100000) (i0 : 0 ≤ i) (i1 : i + 7 ≤ L) : ∃ m', (∀ n, fL_law_2568 (kL_law (n + 1)) a0 0 0 0 i s = fL_law_23 (kL_law n) a0 0 0 0 (i + 7) m') ∧ rl (t + 1) m' m' ∧ m'.1 61 = s.1 61 := by
  have w7 : wr (i + 7) = i + 7 := wq (by omega) (by omega)
  have w1 : wr (i + 1) = i + 1 := wq (by omega) (by omega)
  have r1 : 0 ≤ i + 1 ∧ i + 1 < L := by omega
  have w2 : wr (i + 2) = i + 2 := wq (by omega) (by omega)
  have r2 : 0 ≤ i + 2 ∧ i + 2 < L := by omega
  obtain ⟨o, v, c', e1, e2, e3, e4⟩ := lawC (a := 3) (b := 1) (d := 9) h (fun s9 => FX11_table 0 (gm s 61 0 (i + 1)) (gm s 61 0 (i + 2)) s9) (fun s9 => FX12_table 0 (gm s 61 0 (i + 1)) (gm s 61 0 (i + 2)) s9) (fun m h' => op_table h' (gm s 61 0 (i + 1)) (gm s 61 0 (i + 2)))
  have e5 := wL_table e1 e2
  obtain ⟨w, m', f1, f2, f3, f4, f5, f6⟩ := e4 (lawS o v c') (lawS_1 o v c') (lawS_2 o v c')
  have g61 : (lawS o v c').1 61 = s.1 61 := by rw [lawS_1 _ _ _ 61 (by decide)]; exact e3 61 (by decide)
  have h60 : o = 0 → gm m' 60 0 0 = v := fun e => by
    have : gm m' 60 0 0 = gm (lawS o v c') 60 0 0 := by unfold gm; rw [f5]
    rw [this, e]; exact lawS_60 v c'
  have g1 : ∀ z j, gm (lawS o v c') 61 z j = gm s 61 z j := fun z j => by unfold gm; rw [g61]
  (try dsimp only at f1)
  have f2' := emThrown 0 m'
  rw [f2] at f2'
  refine ⟨m', fun n => ?_, f4, f6.trans g61⟩
  generalize hs1 : lawS o v c' = s1 at e5 f1 g1 h60
  generalize hR : fL_law_23 (kL_law n) a0 0 0 0 (i + 7) m' = R
  simp only [fL_law_2568, fL_law_2616, fL_law_2633, fL_law_2636, hL, w1, if_pos r1, w2, if_pos r2, e5, bn0_ok, g1, f1, bnd_ok, f2', if_true, w7]
  rw [uL_law_23]
  by_cases e : o = 0
  · rw [h60 e, f3 e, e, icp_self, if_pos (show cdn 3 1 9 0 = 0 from rfl)]
    simp
    exact hR
  · rw [if_neg (e2 e).1]
    exact hR
