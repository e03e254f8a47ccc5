theorem rg_sel {l : List Int} (h : ∀ v ∈ l, rg v) (j : Int) : rg (sel l 0 j) := by
  unfold sel List.getD
  cases e : l[j.toNat]? with
  | none => exact rg_0
  | some v => exact h v (List.mem_of_getElem? e)
theorem ftb_n1 (k : Nat) (hk : ((List.range 20).all (fun j => !Nat.beq (ftb k j).1 1) && Nat.ble (nfl k) 20) = true) (j : Nat) (hj : (ftb k j).1 = 1) : False := by
  obtain ⟨h1, h2⟩ := and2 hk
  by_cases e : j < 20
  · have h9 := List.all_eq_true.mp h1 j (List.mem_range.mpr e)
    rw [hj] at h9
    exact absurd h9 (by decide)
  · have hz : (ftb k j).1 = 9 := by
      unfold ftb
      split <;> first | rfl | (unfold List.getD; rw [List.getElem?_eq_none (by simp; omega)]; rfl) | (exact absurd h2 (by decide))
    rw [hz] at hj
    cases hj
theorem gm_n2_2 (xs : List Int) (t : St) (j : Int) : gm (alc 2 xs t) 2 (t.2 2) j = sel [-1] 0 j := by
  simp [alc, gm_inc, gm_po]
theorem gm_n6_6 (xs : List Int) (t : St) (j : Int) : gm (alc 6 xs t) 6 (t.2 6) j = sel [xs.getD 0 0, xs.getD 2 0, 0, 0, 0, xs.getD 1 0, 0, 0, 0, 0, 0, 0, -1, -1] 0 j := by
  simp [alc, gm_inc, gm_po]
theorem gm_n6_7 (xs : List Int) (t : St) (j : Int) : gm (alc 6 xs t) 7 (t.2 6) j = 0 := by
  simp [alc, gm_inc, gm_po]
theorem gm_n6_16 (xs : List Int) (t : St) (j : Int) : gm (alc 6 xs t) 16 (t.2 6) j = 0 := by
  simp [alc, gm_inc, gm_po]
theorem gm_n6_17 (xs : List Int) (t : St) (j : Int) : gm (alc 6 xs t) 17 (t.2 6) j = 0 := by
  simp [alc, gm_inc, gm_po]
theorem gm_n6_5 (xs : List Int) (t : St) (j : Int) : gm (alc 6 xs t) 5 (t.2 6) j = 0 := by
  simp [alc, gm_inc, gm_po]
theorem gm_n6_18 (xs : List Int) (t : St) (j : Int) : gm (alc 6 xs t) 18 (t.2 6) j = 0 := by
  simp [alc, gm_inc, gm_po]
theorem gm_n6_19 (xs : List Int) (t : St) (j : Int) : gm (alc 6 xs t) 19 (t.2 6) j = 0 := by
  simp [alc, gm_inc, gm_po]
theorem gm_n6_20 (xs : List Int) (t : St) (j : Int) : gm (alc 6 xs t) 20 (t.2 6) j = 0 := by
  simp [alc, gm_inc, gm_po]
theorem gm_n6_21 (xs : List Int) (t : St) (j : Int) : gm (alc 6 xs t) 21 (t.2 6) j = 0 := by
  simp [alc, gm_inc, gm_po]
theorem gm_n6_15 (xs : List Int) (t : St) (j : Int) : gm (alc 6 xs t) 15 (t.2 6) j = -1 := by
  simp [alc, gm_inc, gm_po]
theorem gm_n8_8 (xs : List Int) (t : St) (j : Int) : gm (alc 8 xs t) 8 (t.2 8) j = sel xs 0 j := by
  simp [alc, gm_inc, gm_po]
theorem gm_n10_10 (xs : List Int) (t : St) (j : Int) : gm (alc 10 xs t) 10 (t.2 10) j = sel xs 0 j := by
  simp [alc, gm_inc, gm_po]
theorem ala_o {q b k o : Nat} {n9 : Int} {α : Al} (h : off q k = some o) : ala q b n9 α k n9 = b + o := by
  unfold ala
  rw [h]
  show (if n9 = n9 then b + o else α k n9) = b + o
  rw [if_pos rfl]
theorem en_2_2 (w : Wd) (b : Nat) (xs : List Int) (t : St) {α : Al} (ha : ∀ k o, off 2 k = some o → α k (t.2 2) = b + o) : ent w α (alc 2 xs t) 2 (t.2 2) = .inr (2, (trq 2 w (b + 1) xs).1) := by
  rw [ent_obj (by decide)]
  have e : (List.range (nfl 2)).map (fvl α (alc 2 xs t) 2 (t.2 2)) = [rf α 6 (gm (alc 2 xs t) 2 (t.2 2) 0), Value.int (i32 (gm (alc 2 xs t) 2 (t.2 2) 1)), Value.int (i32 (gm (alc 2 xs t) 2 (t.2 2) 2)), Value.int (i32 (gm (alc 2 xs t) 2 (t.2 2) 3)), Value.int (i32 (gm (alc 2 xs t) 2 (t.2 2) 4)), Value.int (i32 (gm (alc 2 xs t) 2 (t.2 2) 5))] := rfl
  rw [e]
  simp only [gm_n2_2]
  rfl
theorem en_6_6 (w : Wd) (b : Nat) (xs : List Int) (t : St) {α : Al} (ha : ∀ k o, off 6 k = some o → α k (t.2 6) = b + o) : ent w α (alc 6 xs t) 6 (t.2 6) = .inr (6, (trq 6 w (b + 1) xs).1) := by
  rw [ent_obj (by decide)]
  have e : (List.range (nfl 6)).map (fvl α (alc 6 xs t) 6 (t.2 6)) = [Value.int (i32 (gm (alc 6 xs t) 6 (t.2 6) 0)), Value.int (i32 (gm (alc 6 xs t) 6 (t.2 6) 1)), Value.ref (α 7 (t.2 6)), Value.ref (α 5 (t.2 6)), Value.ref (α 15 (t.2 6)), Value.int (i32 (gm (alc 6 xs t) 6 (t.2 6) 5)), Value.int (i32 (gm (alc 6 xs t) 6 (t.2 6) 6)), Value.int (i32 (gm (alc 6 xs t) 6 (t.2 6) 7)), Value.int (i32 (gm (alc 6 xs t) 6 (t.2 6) 8)), Value.int (i32 (gm (alc 6 xs t) 6 (t.2 6) 9)), Value.int (i32 (gm (alc 6 xs t) 6 (t.2 6) 10)), Value.int (i32 (gm (alc 6 xs t) 6 (t.2 6) 11)), Value.int (i32 (gm (alc 6 xs t) 6 (t.2 6) 12)), Value.int (i32 (gm (alc 6 xs t) 6 (t.2 6) 13)), Value.int (i32 (gm (alc 6 xs t) 6 (t.2 6) 14)), Value.int (i32 (gm (alc 6 xs t) 6 (t.2 6) 15))] := rfl
  rw [e]
  simp only [gm_n6_6]
  rw [ha 5 4 rfl]
  rw [ha 7 1 rfl]
  rw [ha 15 9 rfl]
  rfl
theorem en_6_7 (w : Wd) (b : Nat) (xs : List Int) (t : St) {α : Al} (ha : ∀ k o, off 6 k = some o → α k (t.2 6) = b + o) : ent w α (alc 6 xs t) 7 (t.2 6) = .inr (7, (trX7_init w (b + 1 + 1) []).1) := by
  rw [ent_obj (by decide)]
  have e : (List.range (nfl 7)).map (fvl α (alc 6 xs t) 7 (t.2 6)) = [Value.ref (α 16 (t.2 6)), Value.ref (α 17 (t.2 6)), Value.int (i32 (gm (alc 6 xs t) 7 (t.2 6) 2)), Value.int (i32 (gm (alc 6 xs t) 7 (t.2 6) 3))] := rfl
  rw [e]
  simp only [gm_n6_7]
  rw [ha 16 2 rfl]
  rw [ha 17 3 rfl]
  rfl
theorem en_6_16 (w : Wd) (xs : List Int) (t : St) (α : Al) : ent w α (alc 6 xs t) 16 (t.2 6) = dar w 16 := by
  rw [ent_arr (by decide)]
  have e : avl α (alc 6 xs t) 16 (t.2 6) = (6, .inl (fun i : Nat => i32 (gm (alc 6 xs t) 16 (t.2 6) i))) := rfl
  rw [e]
  simp only [gm_n6_16, i32_0]
  rfl
theorem en_6_17 (w : Wd) (xs : List Int) (t : St) (α : Al) : ent w α (alc 6 xs t) 17 (t.2 6) = dar w 17 := by
  rw [ent_arr (by decide)]
  have e : avl α (alc 6 xs t) 17 (t.2 6) = (6, .inl (fun i : Nat => i32 (gm (alc 6 xs t) 17 (t.2 6) i))) := rfl
  rw [e]
  simp only [gm_n6_17, i32_0]
  rfl
theorem en_6_5 (w : Wd) (b : Nat) (xs : List Int) (t : St) {α : Al} (ha : ∀ k o, off 6 k = some o → α k (t.2 6) = b + o) : ent w α (alc 6 xs t) 5 (t.2 6) = .inr (5, (trX5_init w (b + 1 + 4) []).1) := by
  rw [ent_obj (by decide)]
  have e : (List.range (nfl 5)).map (fvl α (alc 6 xs t) 5 (t.2 6)) = [Value.ref (α 18 (t.2 6)), Value.ref (α 19 (t.2 6)), Value.ref (α 20 (t.2 6)), Value.ref (α 21 (t.2 6)), Value.int (i32 (gm (alc 6 xs t) 5 (t.2 6) 4))] := rfl
  rw [e]
  simp only [gm_n6_5]
  rw [ha 18 5 rfl]
  rw [ha 19 6 rfl]
  rw [ha 20 7 rfl]
  rw [ha 21 8 rfl]
  rfl
theorem en_6_18 (w : Wd) (xs : List Int) (t : St) (α : Al) : ent w α (alc 6 xs t) 18 (t.2 6) = dar w 18 := by
  rw [ent_arr (by decide)]
  have e : avl α (alc 6 xs t) 18 (t.2 6) = (20, .inl (fun i : Nat => i32 (gm (alc 6 xs t) 18 (t.2 6) i))) := rfl
  rw [e]
  simp only [gm_n6_18, i32_0]
  rfl
theorem en_6_19 (w : Wd) (xs : List Int) (t : St) (α : Al) : ent w α (alc 6 xs t) 19 (t.2 6) = dar w 19 := by
  rw [ent_arr (by decide)]
  have e : avl α (alc 6 xs t) 19 (t.2 6) = (20, .inl (fun i : Nat => i32 (gm (alc 6 xs t) 19 (t.2 6) i))) := rfl
  rw [e]
  simp only [gm_n6_19, i32_0]
  rfl
theorem en_6_20 (w : Wd) (xs : List Int) (t : St) (α : Al) : ent w α (alc 6 xs t) 20 (t.2 6) = dar w 20 := by
  rw [ent_arr (by decide)]
  have e : avl α (alc 6 xs t) 20 (t.2 6) = (20, .inl (fun i : Nat => i32 (gm (alc 6 xs t) 20 (t.2 6) i))) := rfl
  rw [e]
  simp only [gm_n6_20, i32_0]
  rfl
theorem en_6_21 (w : Wd) (xs : List Int) (t : St) (α : Al) : ent w α (alc 6 xs t) 21 (t.2 6) = dar w 21 := by
  rw [ent_arr (by decide)]
  have e : avl α (alc 6 xs t) 21 (t.2 6) = (20, .inl (fun i : Nat => i32 (gm (alc 6 xs t) 21 (t.2 6) i))) := rfl
  rw [e]
  simp only [gm_n6_21, i32_0]
  rfl
theorem en_6_15 (w : Wd) (xs : List Int) (t : St) (α : Al) : ent w α (alc 6 xs t) 15 (t.2 6) = dar w 15 := by
  rw [ent_arr (by decide)]
  have e : avl α (alc 6 xs t) 15 (t.2 6) = (3, .inr (.inr (.inr (.inr (fun i : Nat => ro α 10 (gm (alc 6 xs t) 15 (t.2 6) i)))))) := rfl
  rw [e]
  simp only [gm_n6_15]
  rfl
theorem en_8_8 (w : Wd) (b : Nat) (xs : List Int) (t : St) {α : Al} (ha : ∀ k o, off 8 k = some o → α k (t.2 8) = b + o) : ent w α (alc 8 xs t) 8 (t.2 8) = .inr (8, (trq 8 w (b + 1) xs).1) := by
  rw [ent_obj (by decide)]
  have e : (List.range (nfl 8)).map (fvl α (alc 8 xs t) 8 (t.2 8)) = [Value.int (i32 (gm (alc 8 xs t) 8 (t.2 8) 0)), Value.int (i32 (gm (alc 8 xs t) 8 (t.2 8) 1)), Value.int (i32 (gm (alc 8 xs t) 8 (t.2 8) 2)), Value.int (i32 (gm (alc 8 xs t) 8 (t.2 8) 3)), Value.int (i32 (gm (alc 8 xs t) 8 (t.2 8) 4)), Value.int (i32 (gm (alc 8 xs t) 8 (t.2 8) 5))] := rfl
  rw [e]
  simp only [gm_n8_8]
  rfl
theorem en_10_10 (w : Wd) (b : Nat) (xs : List Int) (t : St) {α : Al} (ha : ∀ k o, off 10 k = some o → α k (t.2 10) = b + o) : ent w α (alc 10 xs t) 10 (t.2 10) = .inr (10, (trq 10 w (b + 1) xs).1) := by
  rw [ent_obj (by decide)]
  have e : (List.range (nfl 10)).map (fvl α (alc 10 xs t) 10 (t.2 10)) = [Value.int (i32 (gm (alc 10 xs t) 10 (t.2 10) 0)), Value.int (i32 (gm (alc 10 xs t) 10 (t.2 10) 1)), Value.int (i32 (gm (alc 10 xs t) 10 (t.2 10) 2)), Value.int (i32 (gm (alc 10 xs t) 10 (t.2 10) 3))] := rfl
  rw [e]
  simp only [gm_n10_10]
  rfl
theorem SW_alc2 {t : St} (h : SW t) {xs : List Int} (hx : ∀ i, rg (xs.getD i 0)) : SW (alc 2 xs t) := by
  have hq : (2 : Nat) = 2 ∨ (2 : Nat) = 6 ∨ (2 : Nat) = 8 ∨ (2 : Nat) = 10 := by decide
  have hx9 := XT_alc (b := 0) hq xs t (fun _ _ => 0)
  obtain ⟨h1, h2, h3, h4⟩ := h
  have hnn : ∀ k, 0 ≤ cnt (alc 2 xs t).2 k := fun k => by
    have a := cnt_mono hx9.1 k
    have b : 0 ≤ cnt t.2 k := by unfold cnt; split <;> first | omega | exact h4 _
    omega
  have hm1 : rg (-1) := ⟨by decide, by decide⟩
  refine ⟨fun k n j hr => ?_, fun k n j hj hl => ?_, fun k n i h5 h6 hl hi => ?_, fun k => ?_⟩
  · by_cases e : cco k = (1, 2) ∧ n = t.2 2
    · obtain ⟨e1, rfl⟩ := e
      obtain ⟨o, ho⟩ := cco_off hq e1
      have hk : k = 2 := by unfold off at ho; simp only at ho; split at ho <;> simp_all
      rcases hk with rfl
      · rw [gm_n2_2]; exact rg_sel (by intro v hv; rcases List.mem_cons.mp hv with e | e; rw [e]; exact hm1; cases e) _
    · rw [gm_alc hq xs t e]; exact h1 k n j hr
  · by_cases e : cco k = (1, 2) ∧ n = t.2 2
    · obtain ⟨e1, rfl⟩ := e
      obtain ⟨o, ho⟩ := cco_off hq e1
      have hk : k = 2 := by unfold off at ho; simp only at ho; split at ho <;> simp_all
      have hn := hnn (ftb k j).2
      subst hk
      rw [gm_n2_2]
      have hj0 : j = 0 := by
        match j, hj with
        | 0, _ => rfl
        | 1, hj => cases hj
        | 2, hj => cases hj
        | 3, hj => cases hj
        | 4, hj => cases hj
        | 5, hj => cases hj
        | _ + 6, hj => cases hj
      subst hj0
      exact ⟨by decide, by show (-1 : Int) < _; omega⟩
    · rw [gm_alc hq xs t e]
      have hl9 : lv t.2 k n := by rcases lv_alc hq hl with h | h; exact h; exact absurd h e
      have a := h2 k n j hj hl9
      have b := cnt_mono hx9.1 (ftb k j).2
      omega
  · by_cases e : cco k = (1, 2) ∧ n = t.2 2
    · obtain ⟨e1, rfl⟩ := e
      obtain ⟨o, ho⟩ := cco_off hq e1
      have hk : k = 2 := by unfold off at ho; simp only at ho; split at ho <;> simp_all
      have hn := hnn (elk (aty k).1)
      rcases hk with rfl
      · exact absurd (And.intro h5 h6) (by decide)
    · rw [gm_alc hq xs t e]
      have hl9 : lv t.2 k n := by rcases lv_alc hq hl with h | h; exact h; exact absurd h e
      have a := h3 k n i h5 h6 hl9 hi
      have b := cnt_mono hx9.1 (elk (aty k).1)
      omega
  · have a := hx9.1 k
    have b := h4 k
    omega
theorem SW_alc6 {t : St} (h : SW t) {xs : List Int} (hx : ∀ i, rg (xs.getD i 0)) : SW (alc 6 xs t) := by
  have hq : (6 : Nat) = 2 ∨ (6 : Nat) = 6 ∨ (6 : Nat) = 8 ∨ (6 : Nat) = 10 := by decide
  have hx9 := XT_alc (b := 0) hq xs t (fun _ _ => 0)
  obtain ⟨h1, h2, h3, h4⟩ := h
  have hnn : ∀ k, 0 ≤ cnt (alc 6 xs t).2 k := fun k => by
    have a := cnt_mono hx9.1 k
    have b : 0 ≤ cnt t.2 k := by unfold cnt; split <;> first | omega | exact h4 _
    omega
  have hm1 : rg (-1) := ⟨by decide, by decide⟩
  refine ⟨fun k n j hr => ?_, fun k n j hj hl => ?_, fun k n i h5 h6 hl hi => ?_, fun k => ?_⟩
  · by_cases e : cco k = (1, 6) ∧ n = t.2 6
    · obtain ⟨e1, rfl⟩ := e
      obtain ⟨o, ho⟩ := cco_off hq e1
      have hk : k = 6 ∨ k = 7 ∨ k = 16 ∨ k = 17 ∨ k = 5 ∨ k = 18 ∨ k = 19 ∨ k = 20 ∨ k = 21 ∨ k = 15 := by unfold off at ho; simp only at ho; split at ho <;> simp_all
      rcases hk with rfl | rfl | rfl | rfl | rfl | rfl | rfl | rfl | rfl | rfl
      · rw [gm_n6_6]
        refine rg_sel (fun v hv => ?_) _
        simp only [List.mem_cons, List.not_mem_nil, or_false] at hv
        rcases hv with rfl | rfl | rfl | rfl | rfl | rfl | rfl | rfl | rfl | rfl | rfl | rfl | rfl | rfl <;> first | exact hx _ | exact rg_0 | exact hm1
      · rw [gm_n6_7]; exact rg_0
      · rw [gm_n6_16]; exact rg_0
      · rw [gm_n6_17]; exact rg_0
      · rw [gm_n6_5]; exact rg_0
      · rw [gm_n6_18]; exact rg_0
      · rw [gm_n6_19]; exact rg_0
      · rw [gm_n6_20]; exact rg_0
      · rw [gm_n6_21]; exact rg_0
      · rw [gm_n6_15]; exact hm1
    · rw [gm_alc hq xs t e]; exact h1 k n j hr
  · by_cases e : cco k = (1, 6) ∧ n = t.2 6
    · obtain ⟨e1, rfl⟩ := e
      obtain ⟨o, ho⟩ := cco_off hq e1
      have hk : k = 6 ∨ k = 7 ∨ k = 16 ∨ k = 17 ∨ k = 5 ∨ k = 18 ∨ k = 19 ∨ k = 20 ∨ k = 21 ∨ k = 15 := by unfold off at ho; simp only at ho; split at ho <;> simp_all
      have hn := hnn (ftb k j).2
      exfalso
      rcases hk with rfl | rfl | rfl | rfl | rfl | rfl | rfl | rfl | rfl | rfl
      · exact ftb_n1 6 (by decide) j hj
      · exact ftb_n1 7 (by decide) j hj
      · exact ftb_n1 16 (by decide) j hj
      · exact ftb_n1 17 (by decide) j hj
      · exact ftb_n1 5 (by decide) j hj
      · exact ftb_n1 18 (by decide) j hj
      · exact ftb_n1 19 (by decide) j hj
      · exact ftb_n1 20 (by decide) j hj
      · exact ftb_n1 21 (by decide) j hj
      · exact ftb_n1 15 (by decide) j hj
    · rw [gm_alc hq xs t e]
      have hl9 : lv t.2 k n := by rcases lv_alc hq hl with h | h; exact h; exact absurd h e
      have a := h2 k n j hj hl9
      have b := cnt_mono hx9.1 (ftb k j).2
      omega
  · by_cases e : cco k = (1, 6) ∧ n = t.2 6
    · obtain ⟨e1, rfl⟩ := e
      obtain ⟨o, ho⟩ := cco_off hq e1
      have hk : k = 6 ∨ k = 7 ∨ k = 16 ∨ k = 17 ∨ k = 5 ∨ k = 18 ∨ k = 19 ∨ k = 20 ∨ k = 21 ∨ k = 15 := by unfold off at ho; simp only at ho; split at ho <;> simp_all
      have hn := hnn (elk (aty k).1)
      rcases hk with rfl | rfl | rfl | rfl | rfl | rfl | rfl | rfl | rfl | rfl
      · exact absurd (And.intro h5 h6) (by decide)
      · exact absurd (And.intro h5 h6) (by decide)
      · exact absurd h5 (by decide)
      · exact absurd h5 (by decide)
      · exact absurd (And.intro h5 h6) (by decide)
      · exact absurd h5 (by decide)
      · exact absurd h5 (by decide)
      · exact absurd h5 (by decide)
      · exact absurd h5 (by decide)
      · rw [gm_n6_15]; exact ⟨by decide, by omega⟩
    · rw [gm_alc hq xs t e]
      have hl9 : lv t.2 k n := by rcases lv_alc hq hl with h | h; exact h; exact absurd h e
      have a := h3 k n i h5 h6 hl9 hi
      have b := cnt_mono hx9.1 (elk (aty k).1)
      omega
  · have a := hx9.1 k
    have b := h4 k
    omega
theorem SW_alc8 {t : St} (h : SW t) {xs : List Int} (hx : ∀ i, rg (xs.getD i 0)) : SW (alc 8 xs t) := by
  have hq : (8 : Nat) = 2 ∨ (8 : Nat) = 6 ∨ (8 : Nat) = 8 ∨ (8 : Nat) = 10 := by decide
  have hx9 := XT_alc (b := 0) hq xs t (fun _ _ => 0)
  obtain ⟨h1, h2, h3, h4⟩ := h
  have hnn : ∀ k, 0 ≤ cnt (alc 8 xs t).2 k := fun k => by
    have a := cnt_mono hx9.1 k
    have b : 0 ≤ cnt t.2 k := by unfold cnt; split <;> first | omega | exact h4 _
    omega
  have hm1 : rg (-1) := ⟨by decide, by decide⟩
  refine ⟨fun k n j hr => ?_, fun k n j hj hl => ?_, fun k n i h5 h6 hl hi => ?_, fun k => ?_⟩
  · by_cases e : cco k = (1, 8) ∧ n = t.2 8
    · obtain ⟨e1, rfl⟩ := e
      obtain ⟨o, ho⟩ := cco_off hq e1
      have hk : k = 8 := by unfold off at ho; simp only at ho; split at ho <;> simp_all
      rcases hk with rfl
      · rw [gm_n8_8]; exact hx _
    · rw [gm_alc hq xs t e]; exact h1 k n j hr
  · by_cases e : cco k = (1, 8) ∧ n = t.2 8
    · obtain ⟨e1, rfl⟩ := e
      obtain ⟨o, ho⟩ := cco_off hq e1
      have hk : k = 8 := by unfold off at ho; simp only at ho; split at ho <;> simp_all
      have hn := hnn (ftb k j).2
      exfalso
      rcases hk with rfl
      · exact ftb_n1 8 (by decide) j hj
    · rw [gm_alc hq xs t e]
      have hl9 : lv t.2 k n := by rcases lv_alc hq hl with h | h; exact h; exact absurd h e
      have a := h2 k n j hj hl9
      have b := cnt_mono hx9.1 (ftb k j).2
      omega
  · by_cases e : cco k = (1, 8) ∧ n = t.2 8
    · obtain ⟨e1, rfl⟩ := e
      obtain ⟨o, ho⟩ := cco_off hq e1
      have hk : k = 8 := by unfold off at ho; simp only at ho; split at ho <;> simp_all
      have hn := hnn (elk (aty k).1)
      rcases hk with rfl
      · exact absurd (And.intro h5 h6) (by decide)
    · rw [gm_alc hq xs t e]
      have hl9 : lv t.2 k n := by rcases lv_alc hq hl with h | h; exact h; exact absurd h e
      have a := h3 k n i h5 h6 hl9 hi
      have b := cnt_mono hx9.1 (elk (aty k).1)
      omega
  · have a := hx9.1 k
    have b := h4 k
    omega
theorem SW_alc10 {t : St} (h : SW t) {xs : List Int} (hx : ∀ i, rg (xs.getD i 0)) : SW (alc 10 xs t) := by
  have hq : (10 : Nat) = 2 ∨ (10 : Nat) = 6 ∨ (10 : Nat) = 8 ∨ (10 : Nat) = 10 := by decide
  have hx9 := XT_alc (b := 0) hq xs t (fun _ _ => 0)
  obtain ⟨h1, h2, h3, h4⟩ := h
  have hnn : ∀ k, 0 ≤ cnt (alc 10 xs t).2 k := fun k => by
    have a := cnt_mono hx9.1 k
    have b : 0 ≤ cnt t.2 k := by unfold cnt; split <;> first | omega | exact h4 _
    omega
  have hm1 : rg (-1) := ⟨by decide, by decide⟩
  refine ⟨fun k n j hr => ?_, fun k n j hj hl => ?_, fun k n i h5 h6 hl hi => ?_, fun k => ?_⟩
  · by_cases e : cco k = (1, 10) ∧ n = t.2 10
    · obtain ⟨e1, rfl⟩ := e
      obtain ⟨o, ho⟩ := cco_off hq e1
      have hk : k = 10 := by unfold off at ho; simp only at ho; split at ho <;> simp_all
      rcases hk with rfl
      · rw [gm_n10_10]; exact hx _
    · rw [gm_alc hq xs t e]; exact h1 k n j hr
  · by_cases e : cco k = (1, 10) ∧ n = t.2 10
    · obtain ⟨e1, rfl⟩ := e
      obtain ⟨o, ho⟩ := cco_off hq e1
      have hk : k = 10 := by unfold off at ho; simp only at ho; split at ho <;> simp_all
      have hn := hnn (ftb k j).2
      exfalso
      rcases hk with rfl
      · exact ftb_n1 10 (by decide) j hj
    · rw [gm_alc hq xs t e]
      have hl9 : lv t.2 k n := by rcases lv_alc hq hl with h | h; exact h; exact absurd h e
      have a := h2 k n j hj hl9
      have b := cnt_mono hx9.1 (ftb k j).2
      omega
  · by_cases e : cco k = (1, 10) ∧ n = t.2 10
    · obtain ⟨e1, rfl⟩ := e
      obtain ⟨o, ho⟩ := cco_off hq e1
      have hk : k = 10 := by unfold off at ho; simp only at ho; split at ho <;> simp_all
      have hn := hnn (elk (aty k).1)
      rcases hk with rfl
      · exact absurd (And.intro h5 h6) (by decide)
    · rw [gm_alc hq xs t e]
      have hl9 : lv t.2 k n := by rcases lv_alc hq hl with h | h; exact h; exact absurd h e
      have a := h3 k n i h5 h6 hl9 hi
      have b := cnt_mono hx9.1 (elk (aty k).1)
      omega
  · have a := hx9.1 k
    have b := h4 k
    omega
