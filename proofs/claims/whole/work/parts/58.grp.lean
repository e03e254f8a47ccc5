/-! New groups of cells: which kinds they have, where they lie; what stays. -/
def off (q k : Nat) : Option Nat := match q with
  | 2 => (match k with | 2 => some 0 | _ => none)
  | 6 => (match k with | 6 => some 0 | 7 => some 1 | 16 => some 2 | 17 => some 3 | 5 => some 4 | 18 => some 5 | 19 => some 6 | 20 => some 7 | 21 => some 8 | 15 => some 9 | _ => none)
  | 8 => (match k with | 8 => some 0 | _ => none)
  | 10 => (match k with | 10 => some 0 | _ => none)
  | _ => none
def ala (q b : Nat) (n9 : Int) (α : Al) : Al := fun k n => match off q k with
  | some o => if n = n9 then b + o else α k n
  | none => α k n
def trq (q : Nat) : Wd → Nat → List Int → Tr := match q with
  | 2 => trX2_init
  | 6 => trX6_init
  | 8 => trX8_init
  | _ => trX10_init
theorem gm_inc (s : St) (q k : Nat) (n j : Int) : gm (inc s q) k n j = gm s k n j := rfl
theorem gm_po (s : St) (k0 : Nat) (n0 : Int) (f : Int → Int) (k : Nat) (n j : Int) : gm (po s k0 n0 f) k n j = if k = k0 ∧ n = n0 then f j else gm s k n j := rfl
theorem gm_po_ne {t : St} {q k k0 : Nat} {n : Int} (h : ¬ (cco k = (1, q) ∧ n = t.2 q)) (h0 : cco k0 = (1, q)) (s : St) (f : Int → Int) (j : Int) : gm (po s k0 (t.2 q) f) k n j = gm s k n j := by
  rw [gm_po, if_neg]
  intro e
  obtain ⟨e1, e2⟩ := e
  exact h ⟨by rw [e1]; exact h0, e2⟩
theorem gm_alc {q k : Nat} (hq : q = 2 ∨ q = 6 ∨ q = 8 ∨ q = 10) (xs : List Int) (t : St) {n : Int} (h : ¬ (cco k = (1, q) ∧ n = t.2 q)) (j : Int) : gm (alc q xs t) k n j = gm t k n j := by
  rcases hq with rfl | rfl | rfl | rfl
  · simp only [alc, gm_inc]
    rw [gm_po_ne h rfl]
  · simp only [alc, gm_inc]
    rw [gm_po_ne h rfl, gm_po_ne h rfl, gm_po_ne h rfl, gm_po_ne h rfl, gm_po_ne h rfl, gm_po_ne h rfl, gm_po_ne h rfl, gm_po_ne h rfl, gm_po_ne h rfl, gm_po_ne h rfl]
  · simp only [alc, gm_inc]
    rw [gm_po_ne h rfl]
  · simp only [alc, gm_inc]
    rw [gm_po_ne h rfl]
theorem alc_cnt {q : Nat} (hq : q = 2 ∨ q = 6 ∨ q = 8 ∨ q = 10) {xs : List Int} {t : St} : (alc q xs t).2 = fun k' => if k' = q then t.2 q + 1 else t.2 k' := by
  rcases hq with rfl | rfl | rfl | rfl <;> rfl
theorem cnt_of {N : Cn} {k q : Nat} (h : cco k = (1, q)) : cnt N k = N q := by
  unfold cnt
  rw [h]
  rfl
theorem cnt_alc {q k : Nat} (hq : q = 2 ∨ q = 6 ∨ q = 8 ∨ q = 10) {xs : List Int} {t : St} : cnt (alc q xs t).2 k = if cco k = (1, q) then t.2 q + 1 else cnt t.2 k := by
  rw [alc_cnt hq]
  by_cases e : cco k = (1, q)
  · rw [if_pos e, cnt_of e, if_pos rfl]
  · rw [if_neg e]
    unfold cnt
    split
    · rfl
    · next h =>
      have h1 : (cco k).1 = 1 := by
        unfold cco at h ⊢
        split at h <;> first | rfl | exact absurd rfl h
      have h2 : (cco k).2 ≠ q := fun e9 => e (Prod.ext h1 e9)
      show (if (cco k).2 = q then t.2 q + 1 else t.2 (cco k).2) = _
      rw [if_neg h2]
theorem lv_alc {q k : Nat} (hq : q = 2 ∨ q = 6 ∨ q = 8 ∨ q = 10) {xs : List Int} {t : St} {n : Int} (h : lv (alc q xs t).2 k n) : lv t.2 k n ∨ (cco k = (1, q) ∧ n = t.2 q) := by
  obtain ⟨h1, h2⟩ := h
  rw [cnt_alc hq] at h2
  by_cases e : cco k = (1, q)
  · rw [if_pos e] at h2
    by_cases e2 : n = t.2 q
    · exact Or.inr ⟨e, e2⟩
    · refine Or.inl ⟨h1, ?_⟩
      rw [cnt_of e]
      omega
  · rw [if_neg e] at h2
    exact Or.inl ⟨h1, h2⟩
theorem off_cco {q k o : Nat} (h : off q k = some o) : cco k = (1, q) := by
  unfold off at h
  split at h
  · split at h
    · rfl
    · cases h
  · split at h <;> first | rfl | cases h
  · split at h
    · rfl
    · cases h
  · split at h
    · rfl
    · cases h
  · cases h
theorem cco_off {q k : Nat} (hq : q = 2 ∨ q = 6 ∨ q = 8 ∨ q = 10) (h : cco k = (1, q)) : ∃ o, off q k = some o := by
  rcases hq with rfl | rfl | rfl | rfl <;> (unfold cco at h; split at h <;> first | exact ⟨_, rfl⟩ | cases h)
theorem XT_alc {q b : Nat} (hq : q = 2 ∨ q = 6 ∨ q = 8 ∨ q = 10) (xs : List Int) (t : St) (α : Al) : XT α (ala q b (t.2 q) α) t.2 (alc q xs t).2 := by
  refine ⟨fun k => ?_, fun k n hl => ?_⟩
  · rw [alc_cnt hq]
    show t.2 k ≤ if k = q then t.2 q + 1 else t.2 k
    split
    · next e => rw [e]; omega
    · exact Int.le_refl _
  · unfold ala
    split
    · next o ho =>
      have h2 := hl.2
      rw [cnt_of (off_cco ho)] at h2
      rw [if_neg (by omega)]
    · rfl
theorem arrV_ext {c : ClassId} {n : Nat} {f g : Nat → Value} (h : ∀ i, i < n → f i = g i) : arrV c n f = arrV c n g := by
  unfold arrV
  congr 1
  apply Array.ext
  · simp
  · intro i h1 h2
    simp at h1
    simp [h i h1]
def frb : Bool := (List.range 13).all fun k => (List.range 60).all fun j => match (ftb k j).1 with
  | 2 => decide (cco (ftb k j).2 = cco k)
  | 3 => decide (cco k = (0, 2)) && decide (cco (ftb k j).2 = (0, 4))
  | 4 => decide (cco k = (0, 2)) && decide (cco (ftb k j).2 = (0, 4))
  | _ => true
theorem frb_t : frb = true := by decide +kernel
theorem frb_at {k j : Nat} (hk : k ≤ 12) (hj : j < 60) : (match (ftb k j).1 with
  | 2 => decide (cco (ftb k j).2 = cco k)
  | 3 => decide (cco k = (0, 2)) && decide (cco (ftb k j).2 = (0, 4))
  | 4 => decide (cco k = (0, 2)) && decide (cco (ftb k j).2 = (0, 4))
  | _ => true) = true := List.all_eq_true.mp (List.all_eq_true.mp frb_t k (List.mem_range.mpr (by omega))) j (List.mem_range.mpr hj)
theorem nfl_60 (k : Nat) : nfl k ≤ 60 := by
  unfold nfl
  split <;> decide
theorem cnt_2 {N : Cn} {k q : Nat} (h : cco k = cco q) : cnt N k = cnt N q := by
  unfold cnt
  rw [h]
theorem fvl_ext {α α' : Al} {t t' : St} {k : Nat} {n : Int} {j : Nat} (h4 : SW t) (hl : lv t.2 k n) (hg : ∀ j, gm t' k n j = gm t k n j) (hx : XT α α' t.2 t'.2) (hk : k ≤ 12) (hj : j < 60) : fvl α' t' k n j = fvl α t k n j := by
  have hb := frb_at hk hj
  unfold fvl
  rw [hg]
  split
  · rfl
  · rfl
  · next e => exact rf_ext hx (h4.2.1 k n j e hl).2
  · next e =>
    rw [e] at hb
    have hb := of_decide_eq_true hb
    rw [hx.2 _ n ⟨hl.1, by rw [cnt_2 hb]; exact hl.2⟩]
  · next e =>
    rw [e] at hb
    obtain ⟨b1, b2⟩ := and2 hb
    have b1 := of_decide_eq_true b1
    have b2 := of_decide_eq_true b2
    have c1 : cnt t.2 k = 2 := by unfold cnt; rw [b1]; rfl
    have c2 : cnt t.2 (ftb k j).2 = 4 := by unfold cnt; rw [b2]; rfl
    have h0 := hl.1
    have h1 := hl.2
    rw [hx.2 _ (2 * n) ⟨by omega, by omega⟩]
  · next e =>
    rw [e] at hb
    obtain ⟨b1, b2⟩ := and2 hb
    have b1 := of_decide_eq_true b1
    have b2 := of_decide_eq_true b2
    have c1 : cnt t.2 k = 2 := by unfold cnt; rw [b1]; rfl
    have c2 : cnt t.2 (ftb k j).2 = 4 := by unfold cnt; rw [b2]; rfl
    have h0 := hl.1
    have h1 := hl.2
    rw [hx.2 _ (2 * n + 1) ⟨by omega, by omega⟩]
  · rfl
theorem aty_le (k : Nat) : (aty k).1 ≤ 7 ∨ (aty k) = (9, 0) := by
  unfold aty
  split <;> first | exact Or.inl (by decide) | exact Or.inr rfl
theorem ro_ext {α α' : Al} {N N' : Cn} (h : XT α α' N N') {k : Nat} {x : Int} (hx : x < cnt N k) : ro α' k x = ro α k x := by
  unfold ro
  by_cases h0 : x < 0
  · rw [if_pos h0, if_pos h0]
  · rw [if_neg h0, if_neg h0, h.2 k x ⟨by omega, hx⟩]
theorem at_ext {w : Wd} {α α' : Al} {t t' : St} {k : Nat} {n : Int} {H : Heap} (h4 : SW t) (hl : lv t.2 k n) (hg : ∀ j, gm t' k n j = gm t k n j) (hx : XT α α' t.2 t'.2) (h : va_at w.1 vwCl (α k n, ent w α t k n) H) : va_at w.1 vwCl (α k n, ent w α' t' k n) H := by
  by_cases hk : k ≤ 12
  · rw [ent_obj hk] at h ⊢
    have e : (List.range (nfl k)).map (fvl α' t' k n) = (List.range (nfl k)).map (fvl α t k n) := by
      apply List.map_congr_left
      intro j hj
      have hj := List.mem_range.mp hj
      exact fvl_ext h4 hl hg hx hk (Nat.lt_of_lt_of_le hj (nfl_60 k))
    rw [e]
    exact h
  · have hk9 : Nat.ble k 12 = false := by
      cases e : Nat.ble k 12 with
      | false => rfl
      | true => exact absurd (Nat.le_of_ble_eq_true e) hk
    rw [ent_arr hk9] at h ⊢
    have e : vp_cell (w.2.1 (aty k).1) (avl α' t' k n) = vp_cell (w.2.1 (aty k).1) (avl α t k n) := by
      by_cases e3 : 3 ≤ (aty k).1 ∧ (aty k).1 ≤ 7
      · have a1 : ∀ (β : Al) (u : St), avl β u k n = ((aty k).2, .inr (.inr (.inr (.inr (fun i : Nat => ro β (elk (aty k).1) (gm u k n i)))))) := fun β u => avl_r rfl e3
        rw [a1, a1, vp_cell_q, vp_cell_q]
        apply arrV_ext
        intro i hi
        rw [hg]
        rw [ro_ext hx (h4.2.2.1 k n i e3.1 e3.2 hl hi).2]
      · have a2 : (aty k).1 = 0 ∨ (aty k).1 = 1 ∨ (aty k).1 = 2 ∨ aty k = (9, 0) := by
          rcases aty_le k with a | a
          · omega
          · exact Or.inr (Or.inr (Or.inr a))
        have a3 : aty k = ((aty k).1, (aty k).2) := rfl
        rcases a2 with a | a | a | a
        · rw [a] at a3; rw [avl_i a3, avl_i a3]; simp only [hg]
        · rw [a] at a3; rw [avl_z a3, avl_z a3]; simp only [hg]
        · rw [a] at a3; rw [avl_l a3, avl_l a3]; simp only [hg]
        · have a1 : ∀ (β : Al) (u : St), avl β u k n = (0, .inr (.inr (.inr (.inr (fun i : Nat => ro β (elk 9) (gm u k n i)))))) := fun β u => by unfold avl; rw [a]; rfl
          rw [a1, a1, vp_cell_q, vp_cell_q]
          apply arrV_ext
          intro i hi
          exact absurd hi (Nat.not_lt_zero i)
    have h : H[α k n]? = some (vp_cell (w.2.1 (aty k).1) (avl α t k n)) := h
    show H[α k n]? = some (vp_cell (w.2.1 (aty k).1) (avl α' t' k n))
    rw [e]
    exact h
