/-! Calls of notes and penalties. -/
theorem rl.n {t : Int} {c m : St} (h : rl t c m) : 0 ≤ gm m 12 0 1 ∧ gm m 12 0 1 ≤ 10 := ⟨h.1.1.2.1, h.1.1.2.2.1⟩
theorem rl.hH {t : Int} {c m : St} (h : rl t c m) : rlH c m := h.2.2.2.2.2.2.2.2.2.2.2.2.1
theorem rl.hK {t : Int} {c m : St} (h : rl t c m) : rlK t c m := h.2.2.2.2.2.2.2.2.2.2.2.2.2.1
theorem rl.hL {t : Int} {c m : St} (h : rl t c m) : rlL t c m := h.2.2.2.2.2.2.2.2.2.2.2.1
theorem rl.hC {t : Int} {c m : St} (h : rl t c m) : rlC c m := h.2.2.2.2.2.2.2.2.2.2.1
theorem rl.hO {t : Int} {c m : St} (h : rl t c m) : rlO c m := h.2.2.2.2.2.2.2.2.2.1
theorem rl.hR {t : Int} {c m : St} (h : rl t c m) : rlR c m := h.2.2.2.2.2.2.2.2.1
theorem rl.hJ {t : Int} {c m : St} (h : rl t c m) : rlJ c m := h.2.2.2.2.2.2.2.1
theorem rl.hD {t : Int} {c m : St} (h : rl t c m) : rlD c m := h.2.2.2.2.2.2.1
theorem rl.hW {t : Int} {c m : St} (h : rl t c m) : rlW c m := h.2.2.2.2.2.1
theorem rl.hS {t : Int} {c m : St} (h : rl t c m) : rlS t c m := h.2.2.2.2.1
theorem rl.hT {t : Int} {c m : St} (h : rl t c m) : rlT c m := h.2.2.2.1
theorem rl.hF {t : Int} {c m : St} (h : rl t c m) : rlF c m := h.2.2.1
theorem rl.hM {t : Int} {c m : St} (h : rl t c m) : rlM t c m := h.2.1
theorem rl.hN {t : Int} {c m : St} (h : rl t c m) : rlN t c := h.2.2.2.2.2.2.2.2.2.2.2.2.2.2
theorem rl.soc {t : Int} {c m : St} (h : rl t c m) (p : Int) : FX11_societyAt 0 p c = some (0, if 0 ≤ p ∧ p < gm m 12 0 1 then p else -1, c) := by
  rw [ecSocietyAt]
  have hn := h.n
  have h2 := h.1.2.1 p
  grind
theorem rl.lea {t : Int} {c m : St} (h : rl t c m) (p : Int) : FX11_leagueAt 0 p c = some (0, if 0 ≤ p ∧ p < 2 then p else -1, c) := by
  rw [ecLeagueAt]
  obtain ⟨a, b, -⟩ := h.1.2.2.2
  by_cases hp : 0 ≤ p ∧ p < 2
  · rw [if_pos hp, if_pos hp]
    rcases (show p = 0 ∨ p = 1 by omega) with rfl | rfl
    · rw [a]
    · rw [b]
  · rw [if_neg hp, if_neg hp]
theorem rl.isS {t : Int} {c m : St} (h : rl t c m) (p : Int) : FX12_isSociety 0 p m = some (0, if 0 ≤ p ∧ p < gm m 12 0 1 then 1 else 0, m) := emIsSociety h.n.1 h.n.2
theorem rl.so {t : Int} {c m : St} (h : rl t c m) {p : Int} (h0 : 0 ≤ p) (h1 : p < gm m 12 0 1) : gm c 6 p 0 = p ∧ gm c 6 p 1 = gm m 103 0 p ∧ (1 ≤ gm m 103 0 p ∧ gm m 103 0 p ≤ 200) ∧ gm c 6 p 5 = gm m 102 0 p ∧ (0 ≤ gm m 102 0 p ∧ gm m 102 0 p < 2) := h.1.2.2.1 p h0 h1
/-- the state with nothing thrown -/
theorem rl.z {t : Int} {c m : St} (h : rl t c m) (k : Int) : rl t c (pm m 12 0 0 k) := by
  refine rl.keep (T := []) (U := [(12, some 0)]) h (Kp.rf _ _) (Kp.pm (Kp.rf _ _) (Or.inr (by decide))) (Int.le_refl _) (fun _ => rfl) (fun _ => rfl) (Int.le_refl _) (Int.le_refl _) h.hN ?_ ?_ ?_ ?_ ?_ ?_ ?_ ?_ ?_ ?_ ?_ ?_ ?_ ?_ <;> exact fun e => absurd e (by decide)
theorem rl.mar {t : Int} {c m : St} (h : rl t c m) {p : Int} (h0 : 0 ≤ p) (h1 : p < gm m 12 0 1) : FX11_hasMarched 0 p c = some (0, if gm m 124 0 p ≠ 0 ∧ gm m 130 0 (gm m 102 0 p) = 2 then 1 else 0, c) := by
  obtain ⟨-, -, -, e5, e6⟩ := h.so h0 h1
  have hn := h.n
  obtain ⟨o1, o2, o3, -⟩ := h.hO.1 p h0 (by omega)
  obtain ⟨a, b, -⟩ := h.1.2.2.2
  have hl : gm c 14 0 (gm m 102 0 p) = gm m 102 0 p := by
    rcases (show gm m 102 0 p = 0 ∨ gm m 102 0 p = 1 by omega) with e | e
    · rw [e, a]
    · rw [e, b]
  rw [ecHasMarched 0 p c h0 (by rw [e5]; exact e6) (by rw [e5, hl]; exact e6.1), e5, hl]
  obtain ⟨l1, -⟩ := h.hL.1 (gm m 102 0 p) e6.1 e6.2
  have o3 := o3 h1
  congr 3
  grind
theorem rl.marM {t : Int} {c m : St} (h : rl t c m) {p : Int} (h0 : 0 ≤ p) (h1 : p < gm m 12 0 1) : FX12_hasMarched 0 p m = some (0, if gm m 124 0 p ≠ 0 ∧ gm m 130 0 (gm m 102 0 p) = 2 then 1 else 0, m) := by
  obtain ⟨-, -, -, e5, e6⟩ := h.so h0 h1
  have hn := h.n
  exact emHasMarched h0 (by omega) e6.1 e6.2
theorem rlH.tog {c m : St} (h : rlH c m) {p a : Int} (h0 : 0 ≤ p) (h1 : p < gm m 12 0 1) (hn : gm m 12 0 1 ≤ 10) (ha : 0 ≤ a ∧ a < 5) : FX5_together p a c = some (0, tg (fun j => gm m 146 0 (20 * p + 5 * j + a)), c) ∧ FX12_noteSum 0 p a m = some (0, tg (fun j => gm m 146 0 (20 * p + 5 * j + a)), m) ∧ -200 ≤ tg (fun j => gm m 146 0 (20 * p + 5 * j + a)) ∧ tg (fun j => gm m 146 0 (20 * p + 5 * j + a)) ≤ 400 := by
  obtain ⟨-, q2, -⟩ := (h p h0 (by omega)).2 h1
  have e : ∀ j : Int, 20 * p + 5 * j + a = 20 * p + (5 * j + a) := fun j => by omega
  refine ⟨ecTogether (fun j j0 j1 => ?_) ha, emNoteSum (fun j j0 j1 => ?_) ⟨h0, by omega⟩ ha, tg_le (fun j j0 j1 => ?_)⟩
  · obtain ⟨r1, r2⟩ := q2 (5 * j + a) (by omega) (by omega)
    simp only [e]
    exact ⟨r1, by omega, by omega⟩
  · obtain ⟨r1, r2⟩ := q2 (5 * j + a) (by omega) (by omega)
    simp only [e]
    exact ⟨trivial, r2⟩
  · obtain ⟨r1, r2⟩ := q2 (5 * j + a) (by omega) (by omega)
    simp only [e]
    omega
/-- the points of a society, of the reference's places -/
def ptv (m : St) (p : Int) : Int := sm (fun a => tg (fun j => gm m 146 0 (20 * p + 5 * j + a))) 5 0 - sm (fun k => if gm m 150 0 (20 * p + k) = 0 then gm m 149 0 (20 * p + k) else 0) (gm m 147 0 p).toNat 0
theorem rlH.pts {c m : St} (h : rlH c m) {p : Int} (h0 : 0 ≤ p) (h1 : p < gm m 12 0 1) (hn : gm m 12 0 1 ≤ 10) : FX5_points p c = some (0, ptv m p, c) ∧ FX12_pointsOf 0 p m = some (0, ptv m p, m) := by
  obtain ⟨⟨q1, q2, q3⟩, -, q4, -⟩ := (h p h0 (by omega)).2 h1
  refine ⟨ecPoints q1 q2 q3 (fun a a0 a1 => ?_) (fun k k0 k1 => ?_), emPointsOf ⟨h0, by omega⟩ rfl q2 q3 (fun a a0 a1 => ?_) (fun k k0 k1 => ?_)⟩
  · have r := h.tog h0 h1 hn ⟨a0, a1⟩
    exact ⟨r.1, r.2.2⟩
  · obtain ⟨-, ⟨r2, r3, r4⟩, r5, -⟩ := q4 k k0 k1
    rw [r5, r2]
    refine ⟨rfl, ?_⟩
    split <;> omega
  · have r := h.tog h0 h1 hn ⟨a0, a1⟩
    exact ⟨r.2.1, r.2.2⟩
  · obtain ⟨-, ⟨r2, r3, r4⟩, r5, -⟩ := q4 k k0 k1
    refine ⟨rfl, ?_⟩
    split <;> omega
theorem op_notes {t : Int} {c m : St} (h : rl t c m) (p a : Int) : Step t (cdn 3 1 9) c m (FX11_notes 0 p a c) (FX12_notes 0 p a m) := by
  by_cases hp : 0 ≤ p ∧ p < gm m 12 0 1
  · have hp1 : ¬ p = -1 := by omega
    by_cases ha : 0 ≤ a ∧ a < 5
    · have ha' : 0 ≤ a ∧ a ≤ 4 := by omega
      have r := h.hH.tog hp.1 hp.2 h.n.2 ha
      have r' := (h.z 0).hH.tog hp.1 hp.2 h.n.2 ha
      refine Step.rd h (v := tg (fun j => gm m 146 0 (20 * p + 5 * j + a))) ?_ ?_
      · simp [FX11_notes, fX11_notes_0, fX11_notes_20, fX11_notes_38, h.soc, ecIsCategory, bnd_ok, hp, hp1, ha, r.1]
      · simp [FX12_notes, fX12_notes_0, fX12_notes_13, fX12_notes_26, fX12_notes_27, fX12_notes_42, fX12_notes_43, h.isS, emIn, emHolds, bnd_ok, hp, ha', r'.2.1]
        rfl
    · have ha' : ¬ (0 ≤ a ∧ a ≤ 4) := by omega
      refine Step.thr h (o := 1) (v := 0) (x := 0) (k := 2) (by decide) ?_ ?_ rfl
      · simp [FX11_notes, fX11_notes_0, fX11_notes_20, fX11_notes_38, h.soc, ecIsCategory, bnd_ok, hp, hp1, ha]
      · simp [FX12_notes, fX12_notes_0, fX12_notes_13, fX12_notes_26, fX12_notes_27, fX12_notes_42, fX12_notes_43, h.isS, emIn, emHolds, bnd_ok, hp, ha']
  · refine Step.thr h (o := 3) (v := 0) (x := 0) (k := 1) (by decide) ?_ ?_ rfl
    · simp [FX11_notes, fX11_notes_0, fX11_notes_20, fX11_notes_38, h.soc, bnd_ok, hp]
    · simp [FX12_notes, fX12_notes_0, fX12_notes_13, fX12_notes_26, fX12_notes_27, fX12_notes_42, fX12_notes_43, h.isS, emHolds, bnd_ok, hp]
theorem ecSetNote {a0 j a v : Int} {s : St} (hj : 0 ≤ j ∧ j < 4) (ha : 0 ≤ a ∧ a < 5) : FX5_setNote a0 j a v s = some (0, 0, pm s 18 a0 (5 * j + a) v) := by
  simp only [FX5_setNote, fX5_setNote_0, fX5_setNote_30]
  simp (disch := omega) only [wq]
  rw [show j * 5 + a = 5 * j + a by omega]
  grind
theorem op_note {t : Int} {c m : St} (h : rl t c m) (j p a v : Int) : Step t (cdn 3 1 2) c m (FX11_note 0 j p a v c) (FX12_note 0 j p a v m) := by
  by_cases hp : 0 ≤ p ∧ p < gm m 12 0 1
  · have hp1 : ¬ p = -1 := by omega
    have hn := h.n
    by_cases hv : (0 ≤ j ∧ j < 4) ∧ (0 ≤ a ∧ a < 5) ∧ (50 ≤ v ∧ v ≤ 100)
    · obtain ⟨hj, ha, hv⟩ := hv
      have hj' : 0 ≤ j ∧ j ≤ 3 := by omega
      have ha' : 0 ≤ a ∧ a ≤ 4 := by omega
      have m1 := h.mar hp.1 hp.2
      have m2 := h.marM hp.1 hp.2
      by_cases hm : gm m 124 0 p ≠ 0 ∧ gm m 130 0 (gm m 102 0 p) = 2
      · obtain ⟨-, q2, -⟩ := (h.hH p hp.1 (by omega)).2 hp.2
        obtain ⟨r1, r2⟩ := q2 (5 * j + a) (by omega) (by omega)
        have hr : 0 ≤ 20 * p + 5 * j + a ∧ 20 * p + 5 * j + a < 200 := by omega
        have er : 20 * p + 5 * j + a = 20 * p + (5 * j + a) := by omega
        have kc : Kp [(18, none)] c (pm c 18 p (5 * j + a) v) := Kp.pm (Kp.rf _ _) (Or.inl (by decide))
        have km : Kp [(12, some 0), (146, none)] m (pm (pm m 12 0 0 0) 146 0 (20 * p + 5 * j + a) v) := Kp.pm (Kp.pm (Kp.rf _ _) (Or.inr (by decide))) (Or.inl (by decide))
        refine Step.ok (v := if gm m 146 0 (20 * p + 5 * j + a) = 0 then -1 else gm m 146 0 (20 * p + 5 * j + a)) (c' := pm c 18 p (5 * j + a) v) (m' := pm (pm m 12 0 0 0) 146 0 (20 * p + 5 * j + a) v) ?_ ?_ kc km (by decide) (by decide) (by simp [gm_pm]) rfl ?_
        · simp [FX11_note, fX11_note_0, fX11_note_22, fX11_note_48, fX11_note_59, fX11_note_79, fX11_note_112, fX11_note_114, h.soc, ecIsJudge, ecIsCategory, ecWithin, bnd_ok, hp, hp1, hj, ha, hv, m1, hm, ecNoteBy hj.1 hj.2 ha.1 ha.2, ecSetNote hj ha, r1, ← er]
          grind
        · simp [FX12_note, fX12_note_0, fX12_note_41, fX12_note_42, fX12_note_54, fX12_note_63, fX12_note_75, fX12_note_76, fX12_note_84, fX12_note_110, fX12_note_117, h.isS, emIn, emHolds, bnd_ok, hp, hj', ha', hv, m2, hm]
          simp (disch := omega) only [wq]
          simp [hr, gm_pm]
          grind
        · refine rl.keep0 h kc km rfl ?_ ?_ ?_ ?_ ?_ ?_ ?_ ?_ ?_ ?_ ?_ ?_ ?_ ?_ <;> first | exact fun e => absurd e (by decide) | intro _
          intro i i0 i1
          obtain ⟨b1, b2⟩ := h.hH i i0 i1
          simp only [gm_pm]
          simp
          refine ⟨fun hi => ⟨(b1 hi).1, fun k k0 k1 => ?_⟩, fun hi => ?_⟩
          · have := (b1 hi).2 k k0 k1
            grind
          · obtain ⟨d1, d2, d3, d4⟩ := b2 hi
            refine ⟨d1, fun k k0 k1 => ?_, d3, d4⟩
            have := d2 k k0 k1
            grind
      · refine Step.thr h (o := 2) (v := 0) (x := 0) (k := 3) (by decide) ?_ ?_ rfl
        · simp only [FX11_note, fX11_note_0, fX11_note_22, fX11_note_48, fX11_note_59, fX11_note_79, fX11_note_112, fX11_note_114, h.soc, ecIsJudge, ecIsCategory, ecWithin, bnd_ok, if_pos hp, if_neg hp1, if_pos hj, if_pos ha, if_pos hv, m1, if_neg hm]
          simp
        · simp only [FX12_note, fX12_note_0, fX12_note_41, fX12_note_42, fX12_note_54, fX12_note_63, fX12_note_75, fX12_note_76, fX12_note_84, fX12_note_110, fX12_note_117, h.isS, emIn, emHolds, bnd_ok, if_pos hp, if_pos hj', if_pos ha', if_pos hv, m2, if_neg hm]
          simp
    · refine Step.thr h (o := 1) (v := 0) (x := 0) (k := 2) (by decide) ?_ ?_ rfl
      · simp only [FX11_note, fX11_note_0, fX11_note_22, fX11_note_48, fX11_note_59, fX11_note_79, fX11_note_112, fX11_note_114, h.soc, ecIsJudge, ecIsCategory, ecWithin, bnd_ok, if_pos hp]
        grind
      · simp only [FX12_note, fX12_note_0, fX12_note_41, fX12_note_42, fX12_note_54, fX12_note_63, fX12_note_75, fX12_note_76, fX12_note_84, fX12_note_110, fX12_note_117, h.isS, emIn, emHolds, bnd_ok, if_pos hp]
        grind
  · refine Step.thr h (o := 3) (v := 0) (x := 0) (k := 1) (by decide) ?_ ?_ rfl
    · simp [FX11_note, fX11_note_0, fX11_note_22, fX11_note_48, fX11_note_59, fX11_note_79, fX11_note_112, fX11_note_114, h.soc, bnd_ok, hp]
    · simp only [FX12_note, fX12_note_0, fX12_note_41, fX12_note_42, fX12_note_54, fX12_note_63, fX12_note_75, fX12_note_76, fX12_note_84, fX12_note_110, fX12_note_117, h.isS, emIn, emHolds, bnd_ok, if_neg hp]
      grind
