/-! What the law's entry gives: the classes, the rows, the words that stay. -/
theorem sT_rg {L : Nat} (hL : L ≤ 3584) (xs : Nat → Int32) (k : Nat) (n j : Int) : rg (gm (sT L xs) k n j) := by
  show rg (sM L xs k n j)
  unfold sM
  split <;> (repeat' split) <;> first | exact rg_toInt _ | exact ⟨by omega, by omega⟩
theorem ftb_12 {j : Nat} (h : (ftb 12 j).1 = 1) : False := by
  by_cases e : j < 60
  · have h9 := List.all_eq_true.mp (show (List.range 60).all (fun j => !Nat.beq (ftb 12 j).1 1) = true by decide +kernel) j (List.mem_range.mpr e)
    rw [h] at h9
    exact absurd h9 (by decide)
  · have hz : (ftb 12 j).1 = 9 := by
      unfold ftb
      simp only
      unfold List.getD
      rw [List.getElem?_eq_none (by simp; omega)]
      rfl
    rw [hz] at h
    cases h
theorem ftb_is {k j : Nat} (h : (ftb k j).1 = 1) : k = 2 := by
  match k, h with
  | 0, h => exact (ftb_n1 0 (by decide +kernel) j h).elim
  | 1, h => exact (ftb_n1 1 (by decide +kernel) j h).elim
  | 2, _ => rfl
  | 3, h => exact (ftb_n1 3 (by decide +kernel) j h).elim
  | 4, h => exact (ftb_n1 4 (by decide +kernel) j h).elim
  | 5, h => exact (ftb_n1 5 (by decide +kernel) j h).elim
  | 6, h => exact (ftb_n1 6 (by decide +kernel) j h).elim
  | 7, h => exact (ftb_n1 7 (by decide +kernel) j h).elim
  | 8, h => exact (ftb_n1 8 (by decide +kernel) j h).elim
  | 9, h => exact (ftb_n1 9 (by decide +kernel) j h).elim
  | 10, h => exact (ftb_n1 10 (by decide +kernel) j h).elim
  | 11, h => exact (ftb_n1 11 (by decide +kernel) j h).elim
  | 12, h => exact (ftb_12 h).elim
  | k + 13, h =>
    have e : ftb (k + 13) j = (9, 0) := rfl
    rw [e] at h
    cases h
theorem sT_SW {L : Nat} (hL : L ≤ 3584) (xs : Nat → Int32) : SW (sT L xs) := by
  refine ⟨fun k n j _ => sT_rg hL xs k n j, fun k n j h hl => ?_, fun k n i h3 h7 hl hi => ?_, fun k => Int.le_refl 0⟩
  · have hk := ftb_is h
    subst hk
    have h9 : n < 0 := hl.2
    exact absurd hl.1 (by omega)
  · have hk : k = 13 ∨ k = 14 ∨ k = 15 ∨ k = 22 ∨ k = 26 ∨ k = 27 ∨ k = 28 := by
      unfold aty at h3 h7
      split at h3 <;> simp_all
    rcases hk with rfl | rfl | rfl | rfl | rfl | rfl | rfl
    · exact ⟨Int.le_refl (-1), by show (-1 : Int) < 0; decide⟩
    · have eg : gm (sT L xs) 14 n i = if (i : Int) = 0 then 0 else if (i : Int) = 1 then 1 else -1 := rfl
      rw [eg, show cnt (sT L xs).2 (elk (aty 14).1) = 2 from rfl]
      split
      · omega
      · split <;> omega
    · have h9 : n < 0 := hl.2
      exact absurd hl.1 (by omega)
    · exact ⟨Int.le_refl (-1), by show (-1 : Int) < 0; decide⟩
    · exact ⟨Int.le_refl (-1), by show (-1 : Int) < 0; decide⟩
    · exact ⟨Int.le_refl (-1), by show (-1 : Int) < 0; decide⟩
    · exact ⟨Int.le_refl (-1), by show (-1 : Int) < 0; decide⟩
theorem cl_ins {q : Nat} (hq : q ≤ 12) : Cond.instantiable (cNm q) (nfl q) ∈ TW := by13 (P := fun q => Cond.instantiable (cNm q) (nfl q) ∈ TW) (show Cond.instantiable (cNm 0) (nfl 0) ∈ TW from wat_mem (i := 122) (by decide +kernel)) (show Cond.instantiable (cNm 1) (nfl 1) ∈ TW from wat_mem (i := 167) (by decide +kernel)) (show Cond.instantiable (cNm 2) (nfl 2) ∈ TW from wat_mem (i := 936) (by decide +kernel)) (show Cond.instantiable (cNm 3) (nfl 3) ∈ TW from wat_mem (i := 128) (by decide +kernel)) (show Cond.instantiable (cNm 4) (nfl 4) ∈ TW from wat_mem (i := 150) (by decide +kernel)) (show Cond.instantiable (cNm 5) (nfl 5) ∈ TW from wat_mem (i := 377) (by decide +kernel)) (show Cond.instantiable (cNm 6) (nfl 6) ∈ TW from wat_mem (i := 352) (by decide +kernel)) (show Cond.instantiable (cNm 7) (nfl 7) ∈ TW from wat_mem (i := 358) (by decide +kernel)) (show Cond.instantiable (cNm 8) (nfl 8) ∈ TW from wat_mem (i := 626) (by decide +kernel)) (show Cond.instantiable (cNm 9) (nfl 9) ∈ TW from wat_mem (i := 104) (by decide +kernel)) (show Cond.instantiable (cNm 10) (nfl 10) ∈ TW from wat_mem (i := 740) (by decide +kernel)) (show Cond.instantiable (cNm 11) (nfl 11) ∈ TW from wat_mem (i := 92) (by decide +kernel)) (show Cond.instantiable (cNm 12) (nfl 12) ∈ TW from wat_mem (i := 1324) (by decide +kernel)) hq
theorem ar_p {s : State} {A : Array Value} {ty : FieldType} (h : (Cond.arrayClass ty).before A s = true) : ∃ c : ClassId, ArrOfT s c ty ∧ s.vm.findClass ("[" ++ ty.toString) = some c := by
  obtain ⟨c, k, comp, e1, e2, e3⟩ := Cond.arrayClass_spec h
  exact ⟨c, fun n z => ⟨fun k h => (by cases h), k, e2, comp, e3⟩, e1⟩
theorem ar_o {s : State} {C : String} (h : va_AO C s) : ∃ c : ClassId, ArrOfT s c (.object C) ∧ va_RA s c (.object C) := by
  obtain ⟨comp, c, k, h1, h2, h3, h4, h5⟩ := Cond.arrayOver_spec h
  exact ⟨c, fun n z => ⟨fun k h => (by cases h), k, h3, comp, h4⟩, k, comp, h3, h4, h1, h5⟩
theorem so_of {s : State} {A : Array Value} (hts : ∀ w ∈ lw_tbl, w.before A s = true) : SOk s := by
  intro own k tx hm
  have h1 : (Cond.stringRef own k tx).before A s = true := hts _ hm
  have hcur : ∃ cur, s.vm.findClass own = some cur := by
    have h2 := h1
    simp only [Cond.before, Cond.holds, Cond.value] at h2
    cases hc : s.vm.findClass own with
    | none => simp [hc] at h2
    | some cur => exact ⟨cur, rfl⟩
  obtain ⟨cur, hcur⟩ := hcur
  obtain ⟨-, -, -, a, -, -, -, -, -, hev⟩ := Cond.stringRef_spec hcur h1
  exact ⟨a, vk_R.of h1 hev⟩
theorem nc_of {s : State} {A : Array Value} (hq : ∀ c ∈ flatC (Jvm.Cond.and given_1 narrow_1), c.before A s = true) : NCk s := by
  intro a b h1 h2 h3 h4 h5
  have ha : a = 1 ∨ a = 2 ∨ a = 3 := by omega
  have hb : b = 1 ∨ b = 2 ∨ b = 3 := by omega
  rcases ha with rfl | rfl | rfl <;> rcases hb with rfl | rfl | rfl
  · exact absurd rfl h5
  · exact va_Nc.of (hq (Cond.not (.castable "java/lang/IllegalArgumentException" "java/lang/IllegalStateException")) (by decide +kernel))
  · exact va_Nc.of (hq (Cond.not (.castable "java/lang/IllegalArgumentException" "java/lang/IndexOutOfBoundsException")) (by decide +kernel))
  · exact va_Nc.of (hq (Cond.not (.castable "java/lang/IllegalStateException" "java/lang/IllegalArgumentException")) (by decide +kernel))
  · exact absurd rfl h5
  · exact va_Nc.of (hq (Cond.not (.castable "java/lang/IllegalStateException" "java/lang/IndexOutOfBoundsException")) (by decide +kernel))
  · exact va_Nc.of (hq (Cond.not (.castable "java/lang/IndexOutOfBoundsException" "java/lang/IllegalArgumentException")) (by decide +kernel))
  · exact va_Nc.of (hq (Cond.not (.castable "java/lang/IndexOutOfBoundsException" "java/lang/IllegalStateException")) (by decide +kernel))
  · exact absurd rfl h5
theorem zq_of {s : State} {A : Array Value} (hts : ∀ w ∈ lw_tbl, w.before A s = true) (hq : ∀ c ∈ flatC (Jvm.Cond.and given_1 narrow_1), c.before A s = true) (w : Wd) (hw : w.2.2.1 = s.heap.size) : ZQ w s s.heap := by
  have hA : ∀ a : Nat, a < s.heap.size → ¬ wS w a := fun a ha h => by
    have h : w.2.2.1 ≤ a := h
    omega
  exact ⟨vx_Zqof (hts _ (List.mem_of_getElem? (i := 295) (show lw_tbl[295]? = some (Cond.laysStatic Bundle.tN "UNASSIGNED_STACK" Bundle.steD) by decide +kernel))) (hts _ (List.mem_of_getElem? (i := 77) (show lw_tbl[77]? = some (Cond.initialized Bundle.tN) by decide +kernel))) (hq (Cond.isRef (.static Bundle.tN "UNASSIGNED_STACK" Bundle.steD)) (by decide +kernel)) hA,
    vx_Zqof (hts _ (List.mem_of_getElem? (i := 297) (show lw_tbl[297]? = some (Cond.laysStatic Bundle.tN "SUPPRESSED_SENTINEL" Bundle.listD) by decide +kernel))) (hts _ (List.mem_of_getElem? (i := 77) (show lw_tbl[77]? = some (Cond.initialized Bundle.tN) by decide +kernel))) (hq (Cond.isRef (.static Bundle.tN "SUPPRESSED_SENTINEL" Bundle.listD)) (by decide +kernel)) hA⟩
theorem tw_of {s : State} {A : Array Value} (hts : ∀ w ∈ lw_tbl, w.before A s = true) : TWk s := fun w hw A' => sw_warm (List.mem_filter.mp hw).2 (State.WarmedH.refl s) (hts w (List.mem_filter.mp hw).1)
theorem ao_RX6 {s : State} {A : Array Value} (hts : ∀ w ∈ lw_tbl, w.before A s = true) : va_AO RX6 s := va_AO.of (hts (Cond.arrayOver (.object RX6)) (List.mem_of_getElem? (i := 100) (show lw_tbl[100]? = some (Cond.arrayOver (.object RX6)) by decide +kernel)))
theorem ao_RX0 {s : State} {A : Array Value} (hts : ∀ w ∈ lw_tbl, w.before A s = true) : va_AO RX0 s := va_AO.of (hts (Cond.arrayOver (.object RX0)) (List.mem_of_getElem? (i := 102) (show lw_tbl[102]? = some (Cond.arrayOver (.object RX0)) by decide +kernel)))
theorem ao_RX10 {s : State} {A : Array Value} (hts : ∀ w ∈ lw_tbl, w.before A s = true) : va_AO RX10 s := va_AO.of (hts (Cond.arrayOver (.object RX10)) (List.mem_of_getElem? (i := 401) (show lw_tbl[401]? = some (Cond.arrayOver (.object RX10)) by decide +kernel)))
theorem ao_RX8 {s : State} {A : Array Value} (hts : ∀ w ∈ lw_tbl, w.before A s = true) : va_AO RX8 s := va_AO.of (hts (Cond.arrayOver (.object RX8)) (List.mem_of_getElem? (i := 110) (show lw_tbl[110]? = some (Cond.arrayOver (.object RX8)) by decide +kernel)))
theorem ao_RX2 {s : State} {A : Array Value} (hts : ∀ w ∈ lw_tbl, w.before A s = true) : va_AO RX2 s := va_AO.of (hts (Cond.arrayOver (.object RX2)) (List.mem_of_getElem? (i := 173) (show lw_tbl[173]? = some (Cond.arrayOver (.object RX2)) by decide +kernel)))
theorem kw_of {s : State} {A : Array Value} (hts : ∀ w ∈ lw_tbl, w.before A s = true) (hq : ∀ c ∈ flatC (Jvm.Cond.and given_1 narrow_1), c.before A s = true) : ∃ (D : va_G) (cA : Nat → ClassId), ∀ x, KW (D, cA, x) s := by
  have htw := tw_of hts
  have htT : ∀ w ∈ TW, w.before A s = true := fun w h => htw.at h _
  have h1 : ∀ q : Nat, ∃ D : ClassId × (Nat → Nat), q ≤ 12 → u_Kn s (cNm q) (cT q) (nfl q) D.1 D.2 := by
    intro q
    by_cases hq : q ≤ 12
    · obtain ⟨c, i, h⟩ := u_known htT (cl_words hq) (htT _ (cl_ins hq))
      exact ⟨(c, i), fun _ => h⟩
    · obtain ⟨c, i, h⟩ := u_known htT (cl_words (Nat.zero_le 12)) (htT _ (cl_ins (Nat.zero_le 12)))
      exact ⟨(c, i), fun h => absurd h hq⟩
  obtain ⟨c0, a0, b0⟩ := ar_p (hts (Cond.arrayClass .int) (List.mem_of_getElem? (i := 148) (show lw_tbl[148]? = some (Cond.arrayClass .int) by decide +kernel)))
  obtain ⟨c1, a1, b1⟩ := ar_p (hts (Cond.arrayClass .boolean) (List.mem_of_getElem? (i := 121) (show lw_tbl[121]? = some (Cond.arrayClass .boolean) by decide +kernel)))
  obtain ⟨c2, a2, b2⟩ := ar_p (hts (Cond.arrayClass .long) (List.mem_of_getElem? (i := 1797) (show lw_tbl[1797]? = some (Cond.arrayClass .long) by decide +kernel)))
  obtain ⟨c3, a3, b3⟩ := ar_o (ao_RX6 hts)
  obtain ⟨c4, a4, b4⟩ := ar_o (ao_RX0 hts)
  obtain ⟨c5, a5, b5⟩ := ar_o (ao_RX10 hts)
  obtain ⟨c6, a6, b6⟩ := ar_o (ao_RX8 hts)
  obtain ⟨c7, a7, b7⟩ := ar_o (ao_RX2 hts)
  refine ⟨(fun q => (Classical.choose (h1 q)).1, fun q => (Classical.choose (h1 q)).2), fun t => [c0, c1, c2, c3, c4, c5, c6, c7].getD t c0, fun x => ⟨⟨fun c q hq => ?_, fun k q hk => ?_⟩, htw, so_of hts, ao_RX10 hts, nc_of hq⟩⟩
  · have hlt : c ≤ 12 := by
      have h9 := (List.getElem?_eq_some_iff.mp hq).1
      have h8 : vwCl.length = 13 := rfl
      omega
    have h9 := cl_at hlt
    rw [hq] at h9
    cases h9
    exact Classical.choose_spec (h1 c) hlt
  · match k, hk with
    | 0, hk => cases hk; exact ⟨a0, b0⟩
    | 1, hk => cases hk; exact ⟨a1, b1⟩
    | 2, hk => cases hk; exact ⟨a2, b2⟩
    | 3, hk => cases hk; exact ⟨a3, b3⟩
    | 4, hk => cases hk; exact ⟨a4, b4⟩
    | 5, hk => cases hk; exact ⟨a5, b5⟩
    | 6, hk => cases hk; exact ⟨a6, b6⟩
    | 7, hk => cases hk; exact ⟨a7, b7⟩
    | k + 8, hk => cases hk
