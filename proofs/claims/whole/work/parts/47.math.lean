/-! Math's own methods. -/
theorem smp_ok {md2 : MD} {f : Fn} {val : List Int → Int} (hm : MK md2 false) (hrt : mrt md2 = (0, 0)) (hf9 : ∀ xs t, f xs t = some (0, val xs, t))
    (row : ∀ {x : Cx} {w : Wd} {md : MD} {z : Bg} {r : Rt} {pc i : Nat} {ns : List Nat} {α : Al} {N9 : Cn} {xs : List Int} {vs rest : List Value} {H : Heap} {locs : List Loc} {cells slots : Nat} {ls : Array Slot}, CX x w md z r → IVK md i md2 false ns → decode (mby md) pc = .ok (.invokestatic i, 3) → ls.size = mnl md →
      (rest.map fun v => v.category).sum ≤ 8 → cells ≤ (xR x).cells → slots ≤ (xR x).slots → SR w α N9 (mkG (mps md2) xs 0) vs → (rg (val xs) → Wx x H locs cells slots (F0 (xm x) (pc + 3) ls (.int (i32 (val xs)) :: rest))) → Wx x H locs cells slots (F0 (xm x) pc ls (vs.reverse ++ rest))) : CallOK md2 f false := by
  refine ⟨fun xs t r h => ?_, fun x w md z r pc i n ns hs K N L S t hc hl he hb hd hk hn h => ?_⟩
  · rw [hf9] at h
    cases h
    exact fun _ => Int.le_refl _
  · obtain ⟨rfl, h1, h2⟩ := ivb_ok hb hm
    replace h := inv_some h
    obtain ⟨c, S', a, xs, o, y, s', rfl, hwt, hcl, ha, hsh, hf, hcase⟩ := h
    have ha : a = c.reverse := ha
    subst ha
    rw [hf9] at hf
    cases hf
    rcases hcase with ⟨-, h9⟩ | ⟨h9, -⟩ | ⟨h9, -⟩
    · rw [hrt] at h9
      obtain ⟨hm9, hw⟩ := hn _ _ _ h9
      refine ⟨hm9, fun α H locs cells slots ls sk hp hl9 hs9 => ?_⟩
      obtain ⟨s1, s2, rfl, g1, g2⟩ := hs9.split
      have g3 := shp_SR hsh h1.2.2.2.2.1 g1.rev []
      have hsz : ls.size = mnl md := by obtain ⟨-, l, h8, -⟩ := hl9; exact h8.1
      have hcat : (s2.map fun v => v.category).sum ≤ 8 := Nat.le_trans (wt_cat g2) hwt
      obtain ⟨p1, p2, p3, p4, p5⟩ := hp
      obtain ⟨-, -, -, -, -, -, ⟨-, -, hR3, hR4⟩, -⟩ := id hc
      have a1 := ceN_mono p2.1
      have a2 := ceN_mono hm9
      have b1 := slN_mono p2.1
      have b2 := slN_mono hm9
      have e := row (H := H) (locs := locs) (cells := cells) (slots := slots) (vs := s1.reverse) (rest := s2) (ns := ns) hc h1 hd hsz hcat (by omega) (by omega) g3 (fun hy => hw α H locs cells slots ls _ ⟨p1, p2, p3, p4, p5⟩ hl9 ⟨⟨hy, rfl⟩, g2⟩)
      rw [List.reverse_reverse] at e
      exact e
    · exact absurd rfl h9
    · exact absurd rfl h9
theorem nomath : lw_tbl.all (fun w => match w with
  | .methodLinkNest _ _ y _ => decide (y.cls ≠ "java/lang/Math")
  | _ => true) = true := by decide +kernel
theorem IVK.link {md : MD} {i : Nat} {md2 : MD} {ns : List Nat} (h : IVK md i md2 false ns) (hc : (my md2).cls = "java/lang/Math") : Cond.methodLink (my md).cls i (my md2) ∈ TW := by
  obtain ⟨-, -, -, -, -, -, -, -, h⟩ := h
  rcases h with h | ⟨-, h⟩
  · exact h
  · have h9 := List.all_eq_true.mp nomath _ (List.mem_filter.mp h).1
    exact absurd hc (of_decide_eq_true h9)
theorem mkJ9_min_7cf53 : MK mdJ9_min_7cf53 false := MKb_ok (h1 := 975) (h2 := 89) (h3 := 974) (h4 := 0) (by decide +kernel)
theorem mkJ9_max_7cf53 : MK mdJ9_max_7cf53 false := MKb_ok (h1 := 1071) (h2 := 89) (h3 := 1070) (h4 := 0) (by decide +kernel)
theorem mkJ9_abs_0f7a4 : MK mdJ9_abs_0f7a4 false := MKb_ok (h1 := 895) (h2 := 89) (h3 := 894) (h4 := 0) (by decide +kernel)
theorem cwJ9_min : cwd mdJ9_min_7cf53 = Cond.code Lib.Math.min.name Lib.Math.min.code 2 (some .int) := by decide +kernel
theorem cwJ9_max : cwd mdJ9_max_7cf53 = Cond.code Lib.Math.max.name Lib.Math.max.code 2 (some .int) := by decide +kernel
theorem cwJ9_abs : cwd mdJ9_abs_0f7a4 = Cond.code Lib.Math.abs.name Lib.Math.abs.code 1 (some .int) := by decide +kernel
theorem coJ9_min_7cf53 : CallOK mdJ9_min_7cf53 gJ9_min_7cf53 false := by
  refine smp_ok (val := fun xs => if xs.getD 1 0 < xs.getD 0 0 then xs.getD 1 0 else xs.getD 0 0) mkJ9_min_7cf53 rfl (fun xs t => ?_) ?_
  · show fJ9_min_7cf53_0 _ _ _ _ = _
    unfold fJ9_min_7cf53_0
    by_cases e : xs.getD 1 0 < xs.getD 0 0
    · rw [if_pos e, if_pos e]; rfl
    · rw [if_neg e, if_neg e]; rfl
  · intro x w md z r pc i ns α N9 xs vs rest H locs cells slots ls hc hv hd hsz hcat hce hsl hs kk
    have hs : SR w α N9 [(0, 0, xs.getD 0 0), (0, 0, xs.getD 1 0)] vs := hs
    obtain ⟨v1, rfl, r0, hs⟩ := hs.int
    obtain ⟨v2, rfl, r1, hs⟩ := hs.int
    rw [hs.nil]
    have hlk := hv.link rfl
    obtain ⟨hx, hby, hnl, hcl, ⟨-, hT, -⟩, -, ⟨hR1, hR2, -, -⟩, -⟩ := hc
    obtain ⟨-, ⟨hF1, hF2⟩, hcw, hini, -, -, hst, -, -⟩ := hv
    rw [cwJ9_min] at hcw
    have hF1 : 1 ≤ mfr md := hF1
    have hF2 : 21 ≤ mlo md := hF2
    refine va_mmin hx hby (hnl.trans hsz.symm) hcl (hT.at hlk _) (hT.at (hst rfl) _) (hT.at hini _) (hT.at hcw _) (Nat.le_trans hF1 hR1) (Nat.le_trans (Nat.add_le_add_right hcat 13) (Nat.le_trans hF2 hR2)) hce hsl hd ?_
    have e9 : (if i32 (xs.getD 1 0) < i32 (xs.getD 0 0) then i32 (xs.getD 1 0) else i32 (xs.getD 0 0)) = i32 (if xs.getD 1 0 < xs.getD 0 0 then xs.getD 1 0 else xs.getD 0 0) := by
      by_cases e : xs.getD 1 0 < xs.getD 0 0
      · rw [if_pos e, if_pos ((i32_lt (by assumption) (by assumption)).mpr e)]
      · rw [if_neg e, if_neg (fun q => e ((i32_lt (by assumption) (by assumption)).mp q))]
    rw [e9]
    refine kk ?_
    show rg (if xs.getD 1 0 < xs.getD 0 0 then xs.getD 1 0 else xs.getD 0 0)
    split <;> assumption
theorem coJ9_max_7cf53 : CallOK mdJ9_max_7cf53 gJ9_max_7cf53 false := by
  refine smp_ok (val := fun xs => if xs.getD 0 0 < xs.getD 1 0 then xs.getD 1 0 else xs.getD 0 0) mkJ9_max_7cf53 rfl (fun xs t => ?_) ?_
  · show fJ9_max_7cf53_0 _ _ _ _ = _
    unfold fJ9_max_7cf53_0
    by_cases e : xs.getD 0 0 < xs.getD 1 0
    · rw [if_pos e, if_pos e]; rfl
    · rw [if_neg e, if_neg e]; rfl
  · intro x w md z r pc i ns α N9 xs vs rest H locs cells slots ls hc hv hd hsz hcat hce hsl hs kk
    have hs : SR w α N9 [(0, 0, xs.getD 0 0), (0, 0, xs.getD 1 0)] vs := hs
    obtain ⟨v1, rfl, r0, hs⟩ := hs.int
    obtain ⟨v2, rfl, r1, hs⟩ := hs.int
    rw [hs.nil]
    have hlk := hv.link rfl
    obtain ⟨hx, hby, hnl, hcl, ⟨-, hT, -⟩, -, ⟨hR1, hR2, -, -⟩, -⟩ := hc
    obtain ⟨-, ⟨hF1, hF2⟩, hcw, hini, -, -, hst, -, -⟩ := hv
    rw [cwJ9_max] at hcw
    have hF1 : 1 ≤ mfr md := hF1
    have hF2 : 21 ≤ mlo md := hF2
    refine va_mmax hx hby (hnl.trans hsz.symm) hcl (hT.at hlk _) (hT.at (hst rfl) _) (hT.at hini _) (hT.at hcw _) (Nat.le_trans hF1 hR1) (Nat.le_trans (Nat.add_le_add_right hcat 13) (Nat.le_trans hF2 hR2)) hce hsl hd ?_
    have e9 : (if i32 (xs.getD 0 0) < i32 (xs.getD 1 0) then i32 (xs.getD 1 0) else i32 (xs.getD 0 0)) = i32 (if xs.getD 0 0 < xs.getD 1 0 then xs.getD 1 0 else xs.getD 0 0) := by
      by_cases e : xs.getD 0 0 < xs.getD 1 0
      · rw [if_pos e, if_pos ((i32_lt (by assumption) (by assumption)).mpr e)]
      · rw [if_neg e, if_neg (fun q => e ((i32_lt (by assumption) (by assumption)).mp q))]
    rw [e9]
    refine kk ?_
    show rg (if xs.getD 0 0 < xs.getD 1 0 then xs.getD 1 0 else xs.getD 0 0)
    split <;> assumption
theorem coJ9_abs_0f7a4 : CallOK mdJ9_abs_0f7a4 gJ9_abs_0f7a4 false := by
  refine smp_ok (val := fun xs => if xs.getD 0 0 < 0 then wr (-(xs.getD 0 0)) else xs.getD 0 0) mkJ9_abs_0f7a4 rfl (fun xs t => ?_) ?_
  · show fJ9_abs_0f7a4_0 _ _ _ = _
    unfold fJ9_abs_0f7a4_0
    by_cases e : xs.getD 0 0 < 0
    · rw [if_pos e, if_pos e]; rfl
    · rw [if_neg e, if_neg e]; rfl
  · intro x w md z r pc i ns α N9 xs vs rest H locs cells slots ls hc hv hd hsz hcat hce hsl hs kk
    have hs : SR w α N9 [(0, 0, xs.getD 0 0)] vs := hs
    obtain ⟨v1, rfl, r0, hs⟩ := hs.int
    rw [hs.nil]
    have hlk := hv.link rfl
    obtain ⟨hx, hby, hnl, hcl, ⟨-, hT, -⟩, -, ⟨hR1, hR2, -, -⟩, -⟩ := hc
    obtain ⟨-, ⟨hF1, hF2⟩, hcw, hini, -, -, hst, -, -⟩ := hv
    rw [cwJ9_abs] at hcw
    have hF1 : 1 ≤ mfr md := hF1
    have hF2 : 21 ≤ mlo md := hF2
    have hF3 : 21 ≤ (xR x).locals := Nat.le_trans hF2 hR2
    refine va_mabs hx hby (hnl.trans hsz.symm) hcl (hT.at hlk _) (hT.at (hst rfl) _) (hT.at hini _) (hT.at hcw _) (Nat.le_trans hF1 hR1) (Nat.le_trans (Nat.add_le_add_right hcat 13) hF3) hce hsl hd ?_
    have e9 : (if 0 ≤ i32 (xs.getD 0 0) then i32 (xs.getD 0 0) else 0 - i32 (xs.getD 0 0)) = i32 (if xs.getD 0 0 < 0 then wr (-(xs.getD 0 0)) else xs.getD 0 0) := by
      have e8 : (0 : Int32) ≤ i32 (xs.getD 0 0) ↔ 0 ≤ xs.getD 0 0 := by rw [← i32_0]; exact i32_le rg_0 r0
      by_cases e : xs.getD 0 0 < 0
      · rw [if_pos e, if_neg (fun q => by have := e8.mp q; omega)]
        rw [show -(xs.getD 0 0) = 0 - xs.getD 0 0 by omega, ← i32_sub, i32_0]
      · rw [if_neg e, if_pos (e8.mpr (by omega))]
    rw [e9]
    refine kk ?_
    show rg (if xs.getD 0 0 < 0 then wr (-(xs.getD 0 0)) else xs.getD 0 0)
    split
    · exact rg_wr _
    · exact r0
