/-! Rows that read and write the heap. -/
theorem va_P1 {D : va_G} {cl : List vw_C} {q : Nat × va_E} {H : Heap} (h : va_at D cl q H) : va_P D cl [q] H := by
  intro k p hk
  match k, hk with
  | 0, hk => cases hk; exact h
  | k + 1, hk => simp at hk
theorem ent_obj {w : Wd} {α : Al} {t : St} {q : Nat} {n : Int} (hq : q ≤ 12) : ent w α t q n = .inr (q, (List.range (nfl q)).map (fvl α t q n)) := by
  unfold ent
  rw [Nat.ble_eq.mpr hq]
theorem ent_arr {w : Wd} {α : Al} {t : St} {q : Nat} {n : Int} (hq : Nat.ble q 12 = false) : ent w α t q n = .inl (w.2.1 (aty q).1, avl α t q n) := by
  unfold ent
  rw [hq]
theorem avl_i {α : Al} {t : St} {q : Nat} {n : Int} {l : Nat} (h : aty q = (0, l)) : avl α t q n = (l, .inl (fun i : Nat => i32 (gm t q n i))) := by simp only [avl, h]
theorem avl_z {α : Al} {t : St} {q : Nat} {n : Int} {l : Nat} (h : aty q = (1, l)) : avl α t q n = (l, .inl (fun i : Nat => i32 (gm t q n i))) := by simp only [avl, h]
theorem avl_l {α : Al} {t : St} {q : Nat} {n : Int} {l : Nat} (h : aty q = (2, l)) : avl α t q n = (l, .inr (.inl (fun i : Nat => Int64.ofInt (gm t q n i)))) := by simp only [avl, h]
theorem avl_r {α : Al} {t : St} {q : Nat} {n : Int} {e l : Nat} (h : aty q = (e, l)) (he : 3 ≤ e ∧ e ≤ 7) : avl α t q n = (l, .inr (.inr (.inr (.inr (fun i : Nat => ro α (elk e) (gm t q n i)))))) := by
  have : e = 3 ∨ e = 4 ∨ e = 5 ∨ e = 6 ∨ e = 7 := by omega
  rcases this with rfl | rfl | rfl | rfl | rfl <;> simp only [avl, h]
theorem toNat_int {i : Int} (h : 0 ≤ i) : ((i.toNat : Nat) : Int) = i := Int.toNat_of_nonneg h
theorem fvl_set {α : Al} {t : St} {q : Nat} {n : Int} {j : Nat} {v : Int} {u : Value} (hj : j < nfl q) (hu : fvl α (pm t q n j v) q n j = u) :
    ((List.range (nfl q)).map (fvl α t q n)).set j u = (List.range (nfl q)).map (fvl α (pm t q n j v) q n) := by
  apply List.ext_getElem
  · simp
  · intro i h1 h2
    simp only [List.length_set, List.length_map, List.length_range] at h1
    rw [List.getElem_set]
    split
    · next e => subst e; simp [hu]
    · next e =>
      have h9 : gm (pm t q n j v) q n i = gm t q n i := by rw [gm_pm, if_neg (fun z => e (by omega))]
      simp [fvl, h9]
section ROWS3
variable {x : Cx} {w : Wd} {md : MD} {z : Bg} {r : Rt} {pc : Nat} {L S : List PV} {t : St} {K : Co} {N : Nx}
theorem get_row {H : Heap} {locs : List Loc} {cells slots : Nat} {ls : Array Slot} {sk : List Value} {i q j : Nat} {a : Nat} {fs : List Value} {v : Value} (hc : CX x w md z r) (hq : q ≤ 12) (hj : j < nfl q) (hl : FLK (my md).cls i q j) (ha : va_at w.1 vwCl (a, .inr (q, fs)) H) (hv : fs[j]? = some v)
    (hdg : decode (mby md) pc = .ok (.getfield i, 3)) (kk : Wx x H locs cells slots (F0 (xm x) (pc + 3) ls (v :: sk))) : Wx x H locs cells slots (F0 (xm x) pc ls (.ref a :: sk)) := by
  obtain ⟨hx, hb, hml, hown, hkw, -⟩ := hc
  rcases hl with hl | hl
  · exact va_get (ws := [(a, .inr (q, fs))]) hx hb (fun w' h => hkw.2.1.at h _) (cl_words hq) hown hkw.1 (va_P1 ha) 0 rfl (cl_at hq) j hj (hkw.2.1.at hl _) (fun _ h => h) hv hdg kk
  · exact va_getN (ws := [(a, .inr (q, fs))]) hx hb (fun w' h => hkw.2.1.at h _) (cl_words hq) hown hkw.1 (va_P1 ha) 0 rfl (cl_at hq) j hj (hkw.2.1.at hl _) (fun _ h => h) hv hdg kk
theorem get_ok {i q j : Nat} {u : PV} (hc : CX x w md z r) (hq : q ≤ 12) (hj : j < nfl q) (hl : FLK (my md).cls i q j) (hdg : decode (mby md) pc = .ok (.getfield i, 3)) (hn : Nxt x w z r (mnl md) (pc + 3) N)
    {k : Int → PV} (hk : ∀ (α : Al) (n : Int), lv t.2 q n → SW t → cR w α t.2 (k n) (fvl α t q n j)) (h : (pO q S fun n S => N L (k n :: S) t) = some r) : WA x w z r (mnl md) pc L S t := by
  replace h := pO_some h
  obtain ⟨a, n, S1, ha, rfl, h⟩ := h
  obtain ⟨hm, hw⟩ := hn _ _ _ h
  refine ⟨hm, fun α H locs cells slots ls sk hp hl' hs => ?_⟩
  obtain ⟨sk1, rfl, hlv, hs⟩ := hs.obj ha
  have hat := hp.1.1 q n hlv
  rw [ent_obj hq] at hat
  exact get_row hc hq hj hl hat (by simp [hj]) hdg (hw α H locs cells slots ls _ hp hl' ⟨hk α n hlv hp.1.2.2.2.1, hs⟩)
theorem put_row {H : Heap} {locs : List Loc} {cells slots : Nat} {ls : Array Slot} {sk : List Value} {i q j : Nat} {a : Nat} {fs : List Value} {v : Value} {ty : FieldType} (hc : CX x w md z r) (hq : q ≤ 12) (hj : j < nfl q) (hl : FLK (my md).cls i q j) (ha : va_at w.1 vwCl (a, .inr (q, fs)) H)
    (hfin : (cT q j).2.2.2 = false) (hd : parseFieldDescriptor (cT q j).2.2.1 = some ty) (hn : narrow ty v = v) (hfit : fits ty v = true) (hfs : j < fs.length) (hdg : decode (mby md) pc = .ok (.putfield i, 3))
    (kk : ∀ (H1 : Heap) (k : Nat), va_at w.1 vwCl (a, .inr (q, fs.set j v)) H1 → H1.size = H.size → (∀ q' : Nat, q' ≠ a → H1[q']? = H[q']?) → Wx x H1 (locs ++ [⟨a, k⟩]) cells slots (F0 (xm x) (pc + 3) ls sk)) : Wx x H locs cells slots (F0 (xm x) pc ls (v :: .ref a :: sk)) := by
  obtain ⟨hx, hb, hml, hown, hkw, -⟩ := hc
  have hts : ∀ w' ∈ TW, w'.before x.2.1.2.1 (xS x) = true := fun w' h => hkw.2.1.at h _
  have hap := va_apart (own := (my md).cls) hts (cl_words hq) (cTy q) (cl_ty hq) (cl_nm hq) hkw.1 (cl_at hq)
  obtain ⟨r9, h1, cell, q1, q2, q3, q4⟩ := ha
  have hr : r9 = (cNm q, cT q, nfl q) := Option.some.inj (h1.symm.trans (cl_at hq))
  subst hr
  obtain ⟨hS, hfc, kC, hkC, hkind⟩ := hkw.1.1 q _ (cl_at hq)
  obtain ⟨cf, kf, fi, f, hi, hsl⟩ := hS j hj
  have hlay := hts _ (cl_words hq _ (u_in_lay hj))
  unfold u_lay at hlay
  rw [if_neg (by rw [hfin]; decide)] at hlay
  have hst := (u_facts hfc hkC (u_lays hts (cl_words hq) hj) hi).1
  have h6 := u_store hfc hkC hkind hlay hi hd hn hfit
  have fin : ∀ H' : Heap, H'[a]? = some (cell.setSlot f.slot v) → H'.size = H.size → (∀ q', q' ≠ a → H'[q']? = H[q']?) → Wx x H' (locs ++ [⟨a, f.slot⟩]) cells slots (F0 (xm x) (pc + 3) ls sk) := fun H' e1 e2 e3 => by
    rw [hsl] at e1
    exact kk H' _ ⟨_, cl_at hq, t_OB.to (V := updV (vp_V fs) j v) ⟨_, e1, q2, q3, t_set q4 hap hj v⟩ (fun j9 _ => vp_updV_set hfs v j9)⟩ e2 e3
  rcases hl with hl | hl
  · exact W.putK hx hb (f := f) ⟨hown, hkw.2.1.at hl _, ⟨_, _, _, hi⟩, hst⟩ (by rw [q2]; exact h6) q1 q3 (by rw [hsl]; exact k2_hasslot (q4 j hj)) rfl rfl hdg fin
  · exact va_WputK hx hb hown (hkw.2.1.at hl _) hi hst (by rw [q2]; exact h6) q1 q3 (by rw [hsl]; exact k2_hasslot (q4 j hj)) rfl rfl hdg fin
theorem PT.put {t' : St} {α : Al} {H H' : Heap} {locs : List Loc} {cells slots : Nat} {q : Nat} {n : Int} {k : Nat} (hp : PT x w z t α H locs cells slots) (hl : lv t.2 q n) (hk : q ≠ 61) (hN : t'.2 = t.2) (hg : ∀ k' n', ¬ (k' = q ∧ n' = n) → ∀ j, gm t' k' n' j = gm t k' n' j)
    (hw : SW t') (he : va_at w.1 vwCl (α q n, ent w α t' q n) H') (hz : H'.size = H.size) (ho : ∀ q', q' ≠ α q n → H'[q']? = H[q']?) : PT x w z t' α H' (locs ++ [⟨α q n, k⟩]) cells slots := by
  obtain ⟨h1, h2, h3, h4, h5⟩ := hp
  exact ⟨h1.put hl hk hN hg hw he ho, by rw [hN]; exact h2, h3.put hz ho (h1.2.2.1 q n hl), by rw [hN]; exact h4, by rw [hN]; exact h5⟩
/-- putfield of a number -/
theorem putI_ok {i q j : Nat} {ty : FieldType} (hc : CX x w md z r) (hq : q ≤ 12) (hj : j < nfl q) (hl : FLK (my md).cls i q j) (hfin : (cT q j).2.2.2 = false) (hd : parseFieldDescriptor (cT q j).2.2.1 = some ty)
    (hf : (ftb q j).1 = 0 ∨ (ftb q j).1 = 5) {v : Int} (hty : narrow ty (.int (i32 v)) = .int (i32 v) ∧ fits ty (.int (i32 v)) = true) (hdg : decode (mby md) pc = .ok (.putfield i, 3)) (hn : Nxt x w z r (mnl md) (pc + 3) N) {q9 : Nat}
    (h : (pO q S fun n S => N L S (pm t q n j v)) = some r) : WA x w z r (mnl md) pc L ((0, q9, v) :: S) t := by
  replace h := pO_some h
  obtain ⟨a, n, S1, ha, rfl, h⟩ := h
  obtain ⟨hm, hw⟩ := hn _ _ _ h
  refine ⟨hm, fun α H locs cells slots ls sk hp hl' hs => ?_⟩
  obtain ⟨sk1, rfl, hv, hs⟩ := hs.int
  obtain ⟨sk2, rfl, hlv, hs⟩ := hs.obj ha
  have hat := hp.1.1 q n hlv
  rw [ent_obj hq] at hat
  have hu : fvl α (pm t q n j v) q n j = .int (i32 v) := by
    have h9 : gm (pm t q n j v) q n j = v := by rw [gm_pm, if_pos ⟨rfl, rfl, rfl⟩]
    rcases hf with e | e <;> simp only [fvl, e, h9]
  refine put_row hc hq hj hl hat hfin hd hty.1 hty.2 (by simp [hj]) hdg fun H1 k e1 e2 e3 => ?_
  rw [fvl_set hj hu, ← ent_obj (w := w) hq] at e1
  exact hw α H1 _ cells slots ls sk2 (hp.put (t' := pm t q n j v) hlv (by omega) rfl (fun k' n' e j' => gm_pm_ne t q n j v k' n' e j') (hp.1.2.2.2.1.pmI hv (by intro i9 e; have e' : i9 = j := (by omega); subst e'; rcases hf with e | e <;> omega) (aty_obj hq)) e1 e2 e3) hl' hs
/-- putfield of a reference -/
theorem putR_ok {i q j q2 : Nat} {ty9 : String} (hc : CX x w md z r) (hq : q ≤ 12) (hj : j < nfl q) (hl : FLK (my md).cls i q j) (hfin : (cT q j).2.2.2 = false) (hd : parseFieldDescriptor (cT q j).2.2.1 = some (.object ty9))
    (hf : ftb q j = (1, q2)) (hdg : decode (mby md) pc = .ok (.putfield i, 3)) (hn : Nxt x w z r (mnl md) (pc + 3) N)
    (h : (pR S fun q' v S => tst (Nat.beq q' q2) (pO q S fun n S => N L S (pm t q n j v))) = some r) : WA x w z r (mnl md) pc L S t := by
  replace h := pR_some h
  obtain ⟨a, q', v, S1, ha, rfl, h⟩ := h
  replace h := tst_some h
  obtain ⟨e, h⟩ := h
  replace e := Nat.eq_of_beq_eq_true e
  subst e
  replace h := pO_some h
  obtain ⟨a1, n, S2, ha1, rfl, h⟩ := h
  obtain ⟨hm, hw⟩ := hn _ _ _ h
  refine ⟨hm, fun α H locs cells slots ls sk hp hl' hs => ?_⟩
  obtain ⟨sk1, rfl, g1, g2, hs⟩ := hs.ref ha
  obtain ⟨sk2, rfl, hlv, hs⟩ := hs.obj ha1
  have hat := hp.1.1 q n hlv
  rw [ent_obj hq] at hat
  have hu : fvl α (pm t q n j v) q n j = rf α q' v := by
    have h9 : gm (pm t q n j v) q n j = v := by rw [gm_pm, if_pos ⟨rfl, rfl, rfl⟩]
    simp only [fvl, hf, h9]
  have hty : narrow (.object ty9) (rf α q' v) = rf α q' v ∧ fits (.object ty9) (rf α q' v) = true := by
    by_cases h0 : v < 0
    · rw [rf_neg h0]; exact ⟨rfl, rfl⟩
    · rw [rf_pos (by omega)]; exact ⟨rfl, rfl⟩
  refine put_row hc hq hj hl hat hfin hd hty.1 hty.2 (by simp [hj]) hdg fun H1 k e1 e2 e3 => ?_
  rw [fvl_set hj hu, ← ent_obj (w := w) hq] at e1
  exact hw α H1 _ cells slots ls sk2 (hp.put (t' := pm t q n j v) hlv (by omega) rfl (fun k' n' e j' => gm_pm_ne t q n j v k' n' e j') (hp.1.2.2.2.1.pmF (by rw [hf]) (by rw [hf]; exact ⟨g1, g2⟩) (aty_obj hq)) e1 e2 e3) hl' hs
/-! rows of the world -/
theorem iald_ok {q : Nat} {l : Nat} (hc : CX x w md z r) (hq : Nat.ble q 12 = false) (hy : aty q = (0, l)) (hl9 : (l : Int) < 2147483648) (hdg : decode (mby md) pc = .ok (.iaload, 1)) (hn : Nxt x w z r (mnl md) (pc + 1) N)
    (h : (pI S fun i S => ald5 q l L S t i N) = some r) : WA x w z r (mnl md) pc L S t := by
  obtain ⟨hx, hb, hml, hown, hkw, -⟩ := hc
  replace h := pI_some h
  obtain ⟨q9, i, S1, rfl, h⟩ := h
  unfold ald5 at h
  split at h
  · next a b S2 =>
    split at h
    · next hi =>
      obtain ⟨hm, hw⟩ := hn _ _ _ h
      refine ⟨hm, fun α H locs cells slots ls sk hp hl' hs => ?_⟩
      replace hs := hs.int
      obtain ⟨sk1, rfl, hv, hs⟩ := hs
      replace hs := hs.cons
      obtain ⟨v, sk2, rfl, hv2, hs⟩ := hs
      have hv2 : v = .ref w.2.2.2 := hv2
      subst hv2
      obtain ⟨h1, h2, h3, h4, ⟨L9, h5, h6⟩, h7⟩ := hp.1
      obtain ⟨scr, g1, g2, g3, g4, g5⟩ := h6
      have hlt : i.toNat < L9 := by omega
      have hin : vp_in (i32 i) L9 := i32_in hi.1 (by omega) hv
      have hr9 : rg (gm t 61 0 i) := h4.1 61 0 i ⟨fun j9 _ => ftb_arr rfl j9, by decide⟩
      refine W.iald (v := .int (i32 (gm t 61 0 i))) hx hb g1 g2 g3 (by rw [g4]; exact hin) ?_ rfl rfl hdg (hw α H locs cells slots ls _ hp hl' ⟨⟨hr9, rfl⟩, hs⟩)
      have g6 := g5 _ hlt
      simp only [toNat_int hi.1] at g6
      rw [i32_clamp hv]
      exact g6
    · cases h
  · next hne =>
    replace h := pO_some h
    obtain ⟨a, n, S2, ha, rfl, h⟩ := h
    split at h
    · next hi =>
      obtain ⟨hm, hw⟩ := hn _ _ _ h
      refine ⟨hm, fun α H locs cells slots ls sk hp hl' hs => ?_⟩
      obtain ⟨sk1, rfl, hv, hs⟩ := hs.int
      obtain ⟨sk2, rfl, hlv, hs⟩ := hs.obj ha
      have hat := hp.1.1 q n hlv
      rw [ent_arr hq, hy, avl_i hy] at hat
      have hr9 : rg (gm t q n i) := hp.1.2.2.2.1.1 q n i ⟨fun j9 _ => ftb_arr hq j9, by rw [hy]; simp⟩
      refine va_iald (ws := [(α q n, .inl (w.2.1 0, l, .inl (fun i : Nat => i32 (gm t q n i))))]) hx hb hkw.1 (va_P1 hat) 0 0 rfl rfl (i32_in hi.1 hi.2 hv) hdg ?_
      rw [i32_clamp hv, toNat_int hi.1]
      exact hw α H locs cells slots ls _ hp hl' ⟨⟨hr9, rfl⟩, hs⟩
    · cases h
theorem bald_ok {q : Nat} {l : Nat} (hc : CX x w md z r) (hq : Nat.ble q 12 = false) (hy : aty q = (1, l)) (hdg : decode (mby md) pc = .ok (.baload, 1)) (hn : Nxt x w z r (mnl md) (pc + 1) N)
    (h : (pI S fun i S => pO q S fun n S => if 0 ≤ i ∧ i < l then N L ((0, 0, gm t q n i) :: S) t else none) = some r) : WA x w z r (mnl md) pc L S t := by
  obtain ⟨hx, hb, hml, hown, hkw, -⟩ := hc
  replace h := pI_some h
  obtain ⟨q9, i, S1, rfl, h⟩ := h
  replace h := pO_some h
  obtain ⟨a, n, S2, ha, rfl, h⟩ := h
  split at h
  · next hi =>
    obtain ⟨hm, hw⟩ := hn _ _ _ h
    refine ⟨hm, fun α H locs cells slots ls sk hp hl' hs => ?_⟩
    obtain ⟨sk1, rfl, hv, hs⟩ := hs.int
    obtain ⟨sk2, rfl, hlv, hs⟩ := hs.obj ha
    have hat := hp.1.1 q n hlv
    rw [ent_arr hq, hy, avl_z hy] at hat
    have hr9 : rg (gm t q n i) := hp.1.2.2.2.1.1 q n i ⟨fun j9 _ => ftb_arr hq j9, by rw [hy]; simp⟩
    refine va_zald (ws := [(α q n, .inl (w.2.1 1, l, .inl (fun i : Nat => i32 (gm t q n i))))]) hx hb hkw.1 (va_P1 hat) 0 1 rfl rfl (i32_in hi.1 hi.2 hv) hdg ?_
    rw [i32_clamp hv, toNat_int hi.1]
    exact hw α H locs cells slots ls _ hp hl' ⟨⟨hr9, rfl⟩, hs⟩
  · cases h
theorem lald_ok (hc : CX x w md z r) (hdg : decode (mby md) pc = .ok (.laload, 1)) (hn : Nxt x w z r (mnl md) (pc + 1) N)
    (h : (pI S fun i S => pO 60 S fun n S => if 0 ≤ i ∧ i < 1 then N L ((1, 0, gm t 60 n i) :: S) t else none) = some r) : WA x w z r (mnl md) pc L S t := by
  obtain ⟨hx, hb, hml, hown, hkw, -⟩ := hc
  replace h := pI_some h
  obtain ⟨q9, i, S1, rfl, h⟩ := h
  replace h := pO_some h
  obtain ⟨a, n, S2, ha, rfl, h⟩ := h
  split at h
  · next hi =>
    obtain ⟨hm, hw⟩ := hn _ _ _ h
    refine ⟨hm, fun α H locs cells slots ls sk hp hl' hs => ?_⟩
    obtain ⟨sk1, rfl, hv, hs⟩ := hs.int
    obtain ⟨sk2, rfl, hlv, hs⟩ := hs.obj ha
    have hat := hp.1.1 60 n hlv
    rw [ent_arr rfl, avl_l (q := 60) (l := 1) rfl] at hat
    have hr9 : rg (gm t 60 n i) := hp.1.2.2.2.1.1 60 n i ⟨fun j9 _ => ftb_arr rfl j9, by decide⟩
    refine va_lald (ws := [(α 60 n, .inl (w.2.1 2, 1, .inr (.inl (fun i : Nat => Int64.ofInt (gm t 60 n i)))))]) hx hb hkw.1 (va_P1 hat) 0 2 rfl rfl (i32_in hi.1 hi.2 hv) hdg ?_
    rw [i32_clamp hv, toNat_int hi.1]
    exact hw α H locs cells slots ls _ hp hl' ⟨⟨hr9, rfl⟩, hs⟩
  · cases h
/-- which class's objects a row of references is for -/
def ecl (e : Nat) : String := match e with
  | 3 => RX6 | 4 => RX0 | 5 => RX10 | 6 => RX8 | _ => RX2
theorem tyl_at (w : Wd) {e : Nat} (he : 3 ≤ e ∧ e ≤ 7) : (tyl w)[e]? = some (w.2.1 e, .object (ecl e)) := by
  have : e = 3 ∨ e = 4 ∨ e = 5 ∨ e = 6 ∨ e = 7 := by omega
  rcases this with rfl | rfl | rfl | rfl | rfl <;> rfl
theorem ecl_cl {e : Nat} (he : 3 ≤ e ∧ e ≤ 7) : elk e ≤ 12 ∧ ecl e = cNm (elk e) := by
  have : e = 3 ∨ e = 4 ∨ e = 5 ∨ e = 6 ∨ e = 7 := by omega
  rcases this with rfl | rfl | rfl | rfl | rfl <;> exact ⟨by decide, rfl⟩
theorem aald_ok {q e : Nat} {l : Nat} (hc : CX x w md z r) (hq : Nat.ble q 12 = false) (hy : aty q = (e, l)) (he : 3 ≤ e ∧ e ≤ 7) (hdg : decode (mby md) pc = .ok (.aaload, 1)) (hn : Nxt x w z r (mnl md) (pc + 1) N)
    (h : (pI S fun i S => pO q S fun n S => if 0 ≤ i ∧ i < l then N L ((2, elk e, gm t q n i) :: S) t else none) = some r) : WA x w z r (mnl md) pc L S t := by
  obtain ⟨hx, hb, hml, hown, hkw, -⟩ := hc
  replace h := pI_some h
  obtain ⟨q9, i, S1, rfl, h⟩ := h
  replace h := pO_some h
  obtain ⟨a, n, S2, ha, rfl, h⟩ := h
  split at h
  · next hi =>
    obtain ⟨hm, hw⟩ := hn _ _ _ h
    refine ⟨hm, fun α H locs cells slots ls sk hp hl' hs => ?_⟩
    obtain ⟨sk1, rfl, hv, hs⟩ := hs.int
    obtain ⟨sk2, rfl, hlv, hs⟩ := hs.obj ha
    have hat := hp.1.1 q n hlv
    rw [ent_arr hq, hy, avl_r hy he] at hat
    have hb9 := hp.1.2.2.2.1.2.2.1 q n i.toNat (by rw [hy]; exact he.1) (by rw [hy]; exact he.2) hlv (by rw [hy]; show i.toNat < l; omega)
    rw [toNat_int hi.1, hy] at hb9
    refine va_aldq (ws := [(α q n, .inl (w.2.1 e, l, .inr (.inr (.inr (.inr (fun i : Nat => ro α (elk e) (gm t q n i)))))))]) hx hb hkw.1 (va_P1 hat) 0 e rfl (tyl_at w he) (i32_in hi.1 hi.2 hv) hdg ?_
    rw [i32_clamp hv, toNat_int hi.1]
    exact hw α H locs cells slots ls _ hp hl' ⟨⟨hb9.1, hb9.2, rfl⟩, hs⟩
  · cases h
theorem alen_ok {q e : Nat} {l : Nat} (hc : CX x w md z r) (hq : Nat.ble q 12 = false) (hy : aty q = (e, l)) (he : e ≤ 7) (hl9 : (l : Int) < 2147483648) (hdg : decode (mby md) pc = .ok (.arraylength, 1)) (hn : Nxt x w z r (mnl md) (pc + 1) N)
    (h : aln q l L S t N = some r) : WA x w z r (mnl md) pc L S t := by
  obtain ⟨hx, hb, hml, hown, hkw, -⟩ := hc
  unfold aln at h
  split at h
  · next a b S2 =>
    obtain ⟨hm, hw⟩ := hn _ _ _ h
    refine ⟨hm, fun α H locs cells slots ls sk hp hl' hs => ?_⟩
    replace hs := hs.cons
    obtain ⟨v, sk2, rfl, hv2, hs⟩ := hs
    have hv2 : v = .ref w.2.2.2 := hv2
    subst hv2
    obtain ⟨h1, h2, h3, h4, ⟨L9, h5, h6⟩, h7⟩ := hp.1
    obtain ⟨scr, g1, g2, g3, g4, g5⟩ := h6
    have hr9 : rg (gm t 61 1 0) := h4.1 61 1 0 ⟨fun j9 _ => ftb_arr rfl j9, by decide⟩
    refine W.alen (n := i32 (gm t 61 1 0)) hx hb g1 g2 (by rw [g4, h5]; show Int32.ofNat L9 = Int32.ofInt L9; rw [Int32.ofInt_eq_ofNat]) rfl rfl hdg (hw α H locs cells slots ls _ hp hl' ⟨⟨hr9, rfl⟩, hs⟩)
  · next hne =>
    replace h := pO_some h
    obtain ⟨a, n, S2, ha, rfl, h⟩ := h
    obtain ⟨hm, hw⟩ := hn _ _ _ h
    refine ⟨hm, fun α H locs cells slots ls sk hp hl' hs => ?_⟩
    obtain ⟨sk2, rfl, hlv, hs⟩ := hs.obj ha
    have hat := hp.1.1 q n hlv
    rw [ent_arr hq, hy] at hat
    have hx1 : (avl α t q n).1 = l := by simp only [avl, hy]
    obtain ⟨ty, hty⟩ : ∃ ty, (tyl w)[e]? = some (w.2.1 e, ty) := by
      have : e = 0 ∨ e = 1 ∨ e = 2 ∨ e = 3 ∨ e = 4 ∨ e = 5 ∨ e = 6 ∨ e = 7 := by omega
      rcases this with rfl | rfl | rfl | rfl | rfl | rfl | rfl | rfl <;> exact ⟨_, rfl⟩
    exact va_alen (ws := [(α q n, .inl (w.2.1 e, avl α t q n))]) hx hb hkw.1 (va_P1 hat) 0 e rfl hty (v := i32 l) (by rw [hx1]; exact Int32.ofInt_eq_ofNat.symm) hdg (hw α H locs cells slots ls _ hp hl' ⟨⟨⟨by omega, by omega⟩, rfl⟩, hs⟩)
/-- a number is put into a row -/
theorem iast_ok {q : Nat} {l : Nat} (hc : CX x w md z r) (hq : Nat.ble q 12 = false) (h61 : q ≠ 61) (hy : aty q = (0, l)) (hdg : decode (mby md) pc = .ok (.iastore, 1)) (hn : Nxt x w z r (mnl md) (pc + 1) N)
    (h : (pI S fun v S => pI S fun i S => pO q S fun n S => if 0 ≤ i ∧ i < l then N L S (pm t q n i v) else none) = some r) : WA x w z r (mnl md) pc L S t := by
  obtain ⟨hx, hb, hml, hown, hkw, -⟩ := hc
  replace h := pI_some h
  obtain ⟨q9, v, S1, rfl, h⟩ := h
  replace h := pI_some h
  obtain ⟨q8, i, S2, rfl, h⟩ := h
  replace h := pO_some h
  obtain ⟨a, n, S3, ha, rfl, h⟩ := h
  split at h
  · next hi =>
    obtain ⟨hm, hw⟩ := hn _ _ _ h
    refine ⟨hm, fun α H locs cells slots ls sk hp hl' hs => ?_⟩
    replace hs := hs.int
    obtain ⟨sk1, rfl, hv, hs⟩ := hs
    replace hs := hs.int
    obtain ⟨sk2, rfl, hv2, hs⟩ := hs
    replace hs := hs.obj ha
    obtain ⟨sk3, rfl, hlv, hs⟩ := hs
    have hat := hp.1.1 q n hlv
    rw [ent_arr hq, hy, avl_i hy] at hat
    have hin : vp_in (i32 i) l := i32_in hi.1 hi.2 hv2
    refine W.iast hx hb hat ((hkw.1.2 0 _ rfl).1 l (fun j : Nat => .int (i32 (gm t q n j)))) (fun q => by cases q) (by show ¬ (_ ∨ (arrV _ _ _).slots.size ≤ _); rw [arrV_size]; exact hin) rfl rfl hdg fun H1 e z9 oq => ?_
    have hnew : va_at w.1 vwCl (α q n, ent w α (pm t q n i v) q n) H1 := by
      rw [ent_arr hq, hy, avl_i hy]
      show H1[α q n]? = some (vp_cell _ _)
      rw [e, vp_cell_i, vp_cell_i, arrV_store, i32_clamp hv2]
      congr 2
      funext j
      show (if j = i.toNat then _ else _) = _
      by_cases hj : j = i.toNat
      · rw [if_pos hj, gm_pm, if_pos ⟨rfl, rfl, by rw [hj]; exact toNat_int hi.1⟩]
      · rw [if_neg hj, gm_pm, if_neg (fun z => hj (by omega))]
    exact hw α H1 _ cells slots ls sk3 (hp.put (t' := pm t q n i v) hlv h61 rfl (fun k' n' e j' => gm_pm_ne t q n i v k' n' e j') (hp.1.2.2.2.1.pmI hv (fun i9 _ => ftb_arr hq i9) (by rw [hy]; simp)) hnew z9 oq) hl' hs
  · cases h
theorem bast_ok {q : Nat} {l : Nat} (hc : CX x w md z r) (hq : Nat.ble q 12 = false) (h61 : q ≠ 61) (hy : aty q = (1, l)) (hdg : decode (mby md) pc = .ok (.bastore, 1)) (hn : Nxt x w z r (mnl md) (pc + 1) N)
    (h : (pI S fun v S => pI S fun i S => pO q S fun n S => if (0 ≤ i ∧ i < l) ∧ (v = 0 ∨ v = 1) then N L S (pm t q n i v) else none) = some r) : WA x w z r (mnl md) pc L S t := by
  obtain ⟨hx, hb, hml, hown, hkw, -⟩ := hc
  replace h := pI_some h
  obtain ⟨q9, v, S1, rfl, h⟩ := h
  replace h := pI_some h
  obtain ⟨q8, i, S2, rfl, h⟩ := h
  replace h := pO_some h
  obtain ⟨a, n, S3, ha, rfl, h⟩ := h
  split at h
  · next hi =>
    obtain ⟨hi, h01⟩ := hi
    obtain ⟨hm, hw⟩ := hn _ _ _ h
    refine ⟨hm, fun α H locs cells slots ls sk hp hl' hs => ?_⟩
    replace hs := hs.int
    obtain ⟨sk1, rfl, hv, hs⟩ := hs
    replace hs := hs.int
    obtain ⟨sk2, rfl, hv2, hs⟩ := hs
    replace hs := hs.obj ha
    obtain ⟨sk3, rfl, hlv, hs⟩ := hs
    have hat := hp.1.1 q n hlv
    rw [ent_arr hq, hy, avl_z hy] at hat
    have hin : vp_in (i32 i) l := i32_in hi.1 hi.2 hv2
    have hnr : narrow .boolean (.int (i32 v)) = .int (i32 v) := by rcases h01 with rfl | rfl <;> decide +kernel
    refine W.zast hx hb hat ((hkw.1.2 1 _ rfl).1 l (fun j : Nat => .int (i32 (gm t q n j)))) (fun q => by cases q) (by show ¬ (_ ∨ (arrV _ _ _).slots.size ≤ _); rw [arrV_size]; exact hin) rfl rfl hdg fun H1 e z9 oq => ?_
    rw [hnr] at e
    have hnew : va_at w.1 vwCl (α q n, ent w α (pm t q n i v) q n) H1 := by
      rw [ent_arr hq, hy, avl_z hy]
      show H1[α q n]? = some (vp_cell _ _)
      rw [e, vp_cell_i, vp_cell_i, arrV_store, i32_clamp hv2]
      congr 2
      funext j
      show (if j = i.toNat then _ else _) = _
      by_cases hj : j = i.toNat
      · rw [if_pos hj, gm_pm, if_pos ⟨rfl, rfl, by rw [hj]; exact toNat_int hi.1⟩]
      · rw [if_neg hj, gm_pm, if_neg (fun z => hj (by omega))]
    exact hw α H1 _ cells slots ls sk3 (hp.put (t' := pm t q n i v) hlv h61 rfl (fun k' n' e j' => gm_pm_ne t q n i v k' n' e j') (hp.1.2.2.2.1.pmI hv (fun i9 _ => ftb_arr hq i9) (by rw [hy]; simp)) hnew z9 oq) hl' hs
  · cases h
theorem last_ok (hc : CX x w md z r) (hdg : decode (mby md) pc = .ok (.lastore, 1)) (hn : Nxt x w z r (mnl md) (pc + 1) N)
    (h : (pL S fun v S => pI S fun i S => pO 60 S fun n S => if 0 ≤ i ∧ i < 1 then N L S (pm t 60 n i v) else none) = some r) : WA x w z r (mnl md) pc L S t := by
  obtain ⟨hx, hb, hml, hown, hkw, -⟩ := hc
  replace h := pL_some h
  obtain ⟨q9, v, S1, rfl, h⟩ := h
  replace h := pI_some h
  obtain ⟨q8, i, S2, rfl, h⟩ := h
  replace h := pO_some h
  obtain ⟨a, n, S3, ha, rfl, h⟩ := h
  split at h
  · next hi =>
    obtain ⟨hm, hw⟩ := hn _ _ _ h
    refine ⟨hm, fun α H locs cells slots ls sk hp hl' hs => ?_⟩
    replace hs := hs.long
    obtain ⟨sk1, rfl, hv, hs⟩ := hs
    replace hs := hs.int
    obtain ⟨sk2, rfl, hv2, hs⟩ := hs
    replace hs := hs.obj ha
    obtain ⟨sk3, rfl, hlv, hs⟩ := hs
    have hat := hp.1.1 60 n hlv
    rw [ent_arr rfl, avl_l (q := 60) (l := 1) rfl] at hat
    have hin : vp_in (i32 i) 1 := i32_in hi.1 hi.2 hv2
    refine W.last hx hb hat ((hkw.1.2 2 _ rfl).1 1 (fun j : Nat => .long (Int64.ofInt (gm t 60 n j)))) (fun q => by cases q) (by show ¬ (_ ∨ (arrV _ _ _).slots.size ≤ _); rw [arrV_size]; exact hin) rfl rfl hdg fun H1 e z9 oq => ?_
    have hnew : va_at w.1 vwCl (α 60 n, ent w α (pm t 60 n i v) 60 n) H1 := by
      rw [ent_arr rfl, avl_l (q := 60) (l := 1) rfl]
      show H1[α 60 n]? = some (vp_cell _ _)
      rw [e, vp_cell_l, vp_cell_l, arrV_store, i32_clamp hv2]
      congr 2
      funext j
      show (if j = i.toNat then _ else _) = _
      by_cases hj : j = i.toNat
      · rw [if_pos hj, gm_pm, if_pos ⟨rfl, rfl, by rw [hj]; exact toNat_int hi.1⟩]
      · rw [if_neg hj, gm_pm, if_neg (fun z => hj (by omega))]
    exact hw α H1 _ cells slots ls sk3 (hp.put (t' := pm t 60 n i v) hlv (by omega) rfl (fun k' n' e j' => gm_pm_ne t 60 n i v k' n' e j') (hp.1.2.2.2.1.pmI hv (fun i9 _ => ftb_arr rfl i9) (by decide)) hnew z9 oq) hl' hs
  · cases h
/-- a reference is put into a row -/
theorem aast_ok {q e : Nat} {l : Nat} (hc : CX x w md z r) (hq : Nat.ble q 12 = false) (h61 : q ≠ 61) (hy : aty q = (e, l)) (he : 3 ≤ e ∧ e ≤ 7) (hdg : decode (mby md) pc = .ok (.aastore, 1)) (hn : Nxt x w z r (mnl md) (pc + 1) N)
    (h : (pR S fun q' v S => tst (Nat.beq q' (elk e)) (pI S fun i S => pO q S fun n S => if 0 ≤ i ∧ i < l then N L S (pm t q n i v) else none)) = some r) : WA x w z r (mnl md) pc L S t := by
  obtain ⟨hx, hb, hml, hown, hkw, -⟩ := hc
  replace h := pR_some h
  obtain ⟨a9, q', v, S1, ha9, rfl, h⟩ := h
  replace h := tst_some h
  obtain ⟨eq, h⟩ := h
  replace eq := Nat.eq_of_beq_eq_true eq
  subst eq
  replace h := pI_some h
  obtain ⟨q8, i, S2, rfl, h⟩ := h
  replace h := pO_some h
  obtain ⟨a, n, S3, ha, rfl, h⟩ := h
  split at h
  · next hi =>
    obtain ⟨hm, hw⟩ := hn _ _ _ h
    refine ⟨hm, fun α H locs cells slots ls sk hp hl' hs => ?_⟩
    replace hs := hs.ref ha9
    obtain ⟨sk1, rfl, g1, g2, hs⟩ := hs
    replace hs := hs.int
    obtain ⟨sk2, rfl, hv2, hs⟩ := hs
    replace hs := hs.obj ha
    obtain ⟨sk3, rfl, hlv, hs⟩ := hs
    have hat := hp.1.1 q n hlv
    rw [ent_arr hq, hy, avl_r hy he] at hat
    have hin : vp_in (i32 i) l := i32_in hi.1 hi.2 hv2
    have hty := hkw.1.2 e _ (tyl_at w he)
    have fin : ∀ H1 : Heap, H1[α q n]? = some ((vp_cell (w.2.1 e) (l, .inr (.inr (.inr (.inr (fun i : Nat => ro α (elk e) (gm t q n i))))))).setSlot (i32 i).toNatClampNeg (rf α (elk e) v)) → Array.size H1 = Array.size H → (∀ q', q' ≠ α q n → H1[q']? = H[q']?) → Wx x H1 (locs ++ [⟨α q n, (i32 i).toNatClampNeg⟩]) cells slots (F0 (xm x) (pc + 1) ls sk3) := by
      intro H1 e9 z9 oq
      have hnew : va_at w.1 vwCl (α q n, ent w α (pm t q n i v) q n) H1 := by
        rw [ent_arr hq, hy, avl_r hy he]
        show H1[α q n]? = some (vp_cell _ _)
        rw [e9, vp_cell_q, vp_cell_q, arrV_store, i32_clamp hv2]
        congr 2
        funext j
        show (if j = i.toNat then _ else _) = _
        by_cases hj : j = i.toNat
        · rw [if_pos hj, gm_pm, if_pos ⟨rfl, rfl, by rw [hj]; exact toNat_int hi.1⟩]; rfl
        · rw [if_neg hj, gm_pm, if_neg (fun z => hj (by omega))]
      exact hw α H1 _ cells slots ls sk3 (hp.put (t' := pm t q n i v) hlv h61 rfl (fun k' n' e j' => gm_pm_ne t q n i v k' n' e j') (hp.1.2.2.2.1.pmA (by rw [hy]; exact he) (by rw [hy]; exact ⟨g1, g2⟩) (fun i9 => ftb_arr hq i9)) hnew z9 oq) hl' hs
    by_cases h0 : v < 0
    · rw [rf_neg h0] at fin ⊢
      exact va_WaastN (C := ecl e) hx hb hat (hty.1 l (fun j : Nat => va_rf (ro α (elk e) (gm t q n j)))) (fun h => by cases h) (by show ¬ (_ ∨ (arrV _ _ _).slots.size ≤ _); rw [arrV_size]; exact hin) rfl rfl hdg fin
    · rw [rf_pos (by omega)] at fin ⊢
      obtain ⟨hk12, hcn⟩ := ecl_cl he
      have hav := hp.1.1 (elk e) v ⟨by omega, g2⟩
      rw [ent_obj hk12] at hav
      obtain ⟨r', hr', cellV, v1, v2, v3, -⟩ := hav
      have hcls := (hkw.1.1 (elk e) _ (cl_at hk12)).2
      obtain ⟨kA, comp, k1, k2, k3, -⟩ := hty.2
      rw [hcn] at k3
      have hcomp : comp = w.1.1 (elk e) := Option.some.inj (k3.symm.trans hcls.1)
      subst hcomp
      obtain ⟨kC, hkC, -⟩ := hcls.2
      exact W.aast hx hb hat (fun q h => by cases h) (fun h => by cases h) k1 k2 rfl hkC ⟨fun q => hin (Or.inl q), by show _ < (arrV _ _ _).slots.size; rw [arrV_size]; exact Nat.not_le.mp fun q => hin (Or.inr q)⟩ v1 (fun q h => by rw [v3] at h; cases h) (by rw [v2]; exact hkC) (by rw [v2]; exact va_assign hcls) rfl rfl hdg fin
  · cases h
end ROWS3
