/-! What the machine's world is, of a state of the small machine. -/
abbrev Al := Nat → Int → Addr
/-- classes and slots; classes of rows; the first new cell; the script's cell -/
abbrev Wd := va_G × (Nat → ClassId) × Nat × Nat
abbrev Cn := Nat → Int
def cnt (N : Cn) (k : Nat) : Int := match (cco k).1 with
  | 0 => ((cco k).2 : Int)
  | _ => N (cco k).2
def ro (α : Al) (k : Nat) (x : Int) : Option Nat := if x < 0 then none else some (α k x)
def rf (α : Al) (k : Nat) (x : Int) : Value := va_rf (ro α k x)
theorem rf_neg {α : Al} {k : Nat} {x : Int} (h : x < 0) : rf α k x = .null := by simp [rf, ro, h, va_rf]
theorem rf_pos {α : Al} {k : Nat} {x : Int} (h : 0 ≤ x) : rf α k x = .ref (α k x) := by
  have h' : ¬ x < 0 := by omega
  simp [rf, ro, h', va_rf]
def fvl (α : Al) (t : St) (k : Nat) (n : Int) (j : Nat) : Value := match (ftb k j).1 with
  | 0 => .int (i32 (gm t k n j))
  | 5 => .int (i32 (gm t k n j))
  | 1 => rf α (ftb k j).2 (gm t k n j)
  | 2 => .ref (α (ftb k j).2 n)
  | 3 => .ref (α (ftb k j).2 (2 * n))
  | 4 => .ref (α (ftb k j).2 (2 * n + 1))
  | _ => .null
def avl (α : Al) (t : St) (k : Nat) (n : Int) : vp_A := ((aty k).2, match (aty k).1 with
  | 0 => .inl (fun i => i32 (gm t k n i))
  | 1 => .inl (fun i => i32 (gm t k n i))
  | 2 => .inr (.inl (fun i => Int64.ofInt (gm t k n i)))
  | e => .inr (.inr (.inr (.inr (fun i => ro α (elk e) (gm t k n i))))))
def ent (w : Wd) (α : Al) (t : St) (k : Nat) (n : Int) : va_E := match Nat.ble k 12 with
  | true => .inr (k, (List.range (nfl k)).map (fvl α t k n))
  | false => .inl (w.2.1 (aty k).1, avl α t k n)
theorem fvl_congr {α : Al} {t t' : St} {k : Nat} {n : Int} (h : ∀ j, gm t k n j = gm t' k n j) : fvl α t k n = fvl α t' k n := by
  funext j
  simp only [fvl, h]
theorem avl_congr {α : Al} {t t' : St} {k : Nat} {n : Int} (h : ∀ j, gm t k n j = gm t' k n j) : avl α t k n = avl α t' k n := by
  simp only [avl, h]
theorem ent_congr {w : Wd} {α : Al} {t t' : St} {k : Nat} {n : Int} (h : ∀ j, gm t k n j = gm t' k n j) : ent w α t k n = ent w α t' k n := by
  simp only [ent, fvl_congr h, avl_congr h]
/-- there is such an object -/
def lv (N : Cn) (k : Nat) (n : Int) : Prop := 0 ≤ n ∧ n < cnt N k
/-- a place for a number -/
def nrf (k : Nat) (j : Int) : Prop := (∀ i : Nat, (i : Int) = j → (ftb k i).1 ≠ 1) ∧ ¬ (3 ≤ (aty k).1 ∧ (aty k).1 ≤ 7)
/-- a state that keeps to the kinds: numbers within 32 bits, references to what there is -/
def SW (t : St) : Prop := (∀ k n j, nrf k j → rg (gm t k n j)) ∧ (∀ (k : Nat) (n : Int) (j : Nat), (ftb k j).1 = 1 → lv t.2 k n → -1 ≤ gm t k n j ∧ gm t k n j < cnt t.2 (ftb k j).2) ∧
  (∀ (k : Nat) (n : Int) (i : Nat), 3 ≤ (aty k).1 → (aty k).1 ≤ 7 → lv t.2 k n → i < (aty k).2 → -1 ≤ gm t k n i ∧ gm t k n i < cnt t.2 (elk (aty k).1)) ∧ ∀ k, 0 ≤ t.2 k
abbrev wS (w : Wd) : Nat → Prop := fun q => w.2.2.1 ≤ q
/-- the heap holds the state -/
def HR (w : Wd) (α : Al) (t : St) (U : State) (H : Heap) : Prop :=
  (∀ k n, lv t.2 k n → va_at w.1 vwCl (α k n, ent w α t k n) H) ∧ (∀ k n k' n', lv t.2 k n → lv t.2 k' n' → α k n = α k' n' → k = k' ∧ n = n') ∧
  (∀ k n, lv t.2 k n → wS w (α k n)) ∧ SW t ∧ (∃ L : Nat, gm t 61 1 0 = L ∧ va_X w.2.2.2 L (fun j => i32 (gm t 61 0 j)) U H) ∧ ¬ wS w w.2.2.2
theorem HR.moved {w : Wd} {α : Al} {t : St} {u U : State} {H : Heap} (hvm : u.vm.Alike U.vm) (h : HR w α t u H) : HR w α t U H := by
  obtain ⟨h1, h2, h3, h4, ⟨L, h5, h6⟩, h7⟩ := h
  exact ⟨h1, h2, h3, h4, ⟨L, h5, va_X.moved hvm h6⟩, h7⟩
theorem HR.lt {w : Wd} {α : Al} {t : St} {U : State} {H : Heap} (h : HR w α t U H) {k : Nat} {n : Int} (hl : lv t.2 k n) : α k n < H.size := (h.1 k n hl).lt
/-- a cell of the world is written: its entry is the new state's, the others are as they were -/
theorem HR.put {w : Wd} {α : Al} {t t' : St} {U : State} {H H' : Heap} (h : HR w α t U H) {k : Nat} {n : Int} (hl : lv t.2 k n) (hk : k ≠ 61) (hN : t'.2 = t.2) (hg : ∀ k' n', ¬ (k' = k ∧ n' = n) → ∀ j, gm t' k' n' j = gm t k' n' j)
    (hw : SW t') (he : va_at w.1 vwCl (α k n, ent w α t' k n) H') (ho : ∀ q, q ≠ α k n → H'[q]? = H[q]?) : HR w α t' U H' := by
  obtain ⟨h1, h2, h3, h4, ⟨L, h5, h6⟩, h7⟩ := h
  refine ⟨fun k' n' hl' => ?_, by rw [hN]; exact h2, by rw [hN]; exact h3, hw, ⟨L, ?_, ?_⟩, h7⟩
  · rw [hN] at hl'
    by_cases e : k' = k ∧ n' = n
    · rw [e.1, e.2]; exact he
    · rw [ent_congr (hg k' n' e)]
      exact (h1 k' n' hl').kept (ho _ (fun z => e (h2 k' n' k n hl' hl z)))
  · rw [hg 61 1 (fun e => hk e.1.symm)]; exact h5
  · have hx : (fun j : Nat => i32 (gm t' 61 0 j)) = (fun j : Nat => i32 (gm t 61 0 j)) := funext fun j => by rw [hg 61 0 (fun e => hk e.1.symm)]
    rw [hx]
    exact h6.kept (ho _ (fun z => h7 (by rw [z]; exact h3 k n hl)))
theorem gm_pm (t : St) (k : Nat) (n j v : Int) (k' : Nat) (n' j' : Int) : gm (pm t k n j v) k' n' j' = if k' = k ∧ n' = n ∧ j' = j then v else gm t k' n' j' := rfl
theorem gm_pm_ne (t : St) (k : Nat) (n j v : Int) (k' : Nat) (n' : Int) (h : ¬ (k' = k ∧ n' = n)) (j' : Int) : gm (pm t k n j v) k' n' j' = gm t k' n' j' := by
  rw [gm_pm, if_neg (fun e => h ⟨e.1, e.2.1⟩)]
/-- a store of a number keeps to the kinds where the place is no reference -/
theorem SW.pmI {t : St} (h : SW t) {k : Nat} {n j v : Int} (hv : rg v) (hf : ∀ i : Nat, (i : Int) = j → (ftb k i).1 ≠ 1) (ha : ¬ (3 ≤ (aty k).1 ∧ (aty k).1 ≤ 7)) : SW (pm t k n j v) := by
  obtain ⟨h1, h2, h3, h4⟩ := h
  refine ⟨fun k' n' j' hr => ?_, fun k' n' j' hj hl => ?_, fun k' n' i h5 h6 hl hi => ?_, h4⟩
  · rw [gm_pm]; split
    · exact hv
    · exact h1 _ _ _ hr
  · rw [gm_pm, if_neg (fun e => by obtain ⟨e1, -, e3⟩ := e; subst e1; exact hf j' e3 hj)]
    exact h2 k' n' j' hj hl
  · rw [gm_pm, if_neg (fun e => by obtain ⟨e1, -⟩ := e; subst e1; exact ha ⟨h5, h6⟩)]
    exact h3 k' n' i h5 h6 hl hi
theorem SW.pmF {t : St} (h : SW t) {k : Nat} {n v : Int} {j : Nat} (hv : (ftb k j).1 = 1) (hb : -1 ≤ v ∧ v < cnt t.2 (ftb k j).2) (ha : ¬ (3 ≤ (aty k).1 ∧ (aty k).1 ≤ 7)) : SW (pm t k n j v) := by
  obtain ⟨h1, h2, h3, h4⟩ := h
  refine ⟨fun k' n' j' hr => ?_, fun k' n' j' hj hl => ?_, fun k' n' i h5 h6 hl hi => ?_, h4⟩
  · rw [gm_pm, if_neg (fun e => by obtain ⟨e1, -, e3⟩ := e; subst e1; exact hr.1 j e3.symm hv)]
    exact h1 _ _ _ hr
  · rw [gm_pm]; split
    · next e => obtain ⟨e1, -, e3⟩ := e; subst e1; have e4 : j' = j := by omega
                subst e4; exact hb
    · exact h2 k' n' j' hj hl
  · rw [gm_pm, if_neg (fun e => by obtain ⟨e1, -⟩ := e; subst e1; exact ha ⟨h5, h6⟩)]
    exact h3 k' n' i h5 h6 hl hi
theorem SW.pmA {t : St} (h : SW t) {k : Nat} {n j v : Int} (hv : 3 ≤ (aty k).1 ∧ (aty k).1 ≤ 7) (hb : -1 ≤ v ∧ v < cnt t.2 (elk (aty k).1)) (hf : ∀ i : Nat, (ftb k i).1 ≠ 1) : SW (pm t k n j v) := by
  obtain ⟨h1, h2, h3, h4⟩ := h
  refine ⟨fun k' n' j' hr => ?_, fun k' n' j' hj hl => ?_, fun k' n' i h5 h6 hl hi => ?_, h4⟩
  · rw [gm_pm, if_neg (fun e => by obtain ⟨e1, -⟩ := e; subst e1; exact hr.2 hv)]
    exact h1 _ _ _ hr
  · rw [gm_pm, if_neg (fun e => by obtain ⟨e1, -⟩ := e; subst e1; exact hf _ hj)]
    exact h2 k' n' j' hj hl
  · rw [gm_pm]; split
    · next e => obtain ⟨e1, -⟩ := e; subst e1; exact hb
    · exact h3 k' n' i h5 h6 hl hi
/-! values, locals, the stack -/
def cR (w : Wd) (α : Al) (N : Cn) (t : PV) (v : Value) : Prop := match t with
  | (0, _, x) => rg x ∧ v = .int (i32 x)
  | (1, _, x) => rg x ∧ v = .long (Int64.ofInt x)
  | (2, k, x) => -1 ≤ x ∧ x < cnt N k ∧ v = rf α k x
  | (3, k, x) => 0 ≤ x ∧ x < cnt N k ∧ v = .ref (α k x)
  | (5, _, _) => v = .ref w.2.2.2
  | (8, _, _) => ∃ a, v = .ref a
  | _ => False
theorem va_rf_cat (o : Option Nat) : (va_rf o).category = 1 := by cases o <;> rfl
theorem cR.cat {w : Wd} {α : Al} {N : Cn} {t : PV} {v : Value} (h : cR w α N t v) (h1 : t.1 ≠ 1) : v.category = 1 := by
  obtain ⟨a, k, x⟩ := t
  match a, h, h1 with
  | 0, h, _ => rw [h.2]; rfl
  | 1, h, h1 => exact absurd rfl h1
  | 2, h, _ => rw [h.2.2]; exact va_rf_cat _
  | 3, h, _ => rw [h.2.2]; rfl
  | 5, h, _ => rw [show v = _ from h]; rfl
  | 8, h, _ => obtain ⟨q, h⟩ := h; rw [h]; rfl
def SR (w : Wd) (α : Al) (N : Cn) : List PV → List Value → Prop
  | [], [] => True
  | t :: S, v :: sk => cR w α N t v ∧ SR w α N S sk
  | _, _ => False
/-- the locals: those that are set are held, none is a long -/
def LR (w : Wd) (α : Al) (N : Cn) (nL : Nat) (L : List PV) (ls : Array Slot) : Prop :=
  L.length = nL ∧ ∃ l : List (Nat × Value), lv_has ls nL l ∧ (∀ q ∈ l, q.2.category = 1) ∧ ∀ i : Nat, (nth L i).1 ≠ 7 → ∃ v, (i, v) ∈ l ∧ cR w α N (nth L i) v
theorem nth_stv (L : List PV) (k : Nat) (v : PV) (hk : k < L.length) (i : Nat) : nth (stv L k v) i = if i = k then v else nth L i := by
  induction L generalizing k i with
  | nil => simp at hk
  | cons a l ih =>
    cases k with
    | zero => cases i <;> simp [stv, nth]
    | succ k => cases i with
      | zero => simp [stv, nth]
      | succ i => simp [stv, nth, ih k (by simpa using hk) i]
theorem len_stv (L : List PV) (k : Nat) (v : PV) : (stv L k v).length = L.length := by
  induction L generalizing k with
  | nil => rfl
  | cons a l ih => cases k <;> simp [stv, ih]
theorem nth_ge (L : List PV) (i : Nat) (h : L.length ≤ i) : nth L i = (7, 0, 0) := by
  induction L generalizing i with
  | nil => rfl
  | cons a l ih => cases i with
    | zero => simp at h
    | succ i => simp [nth]; exact ih i (by simpa using h)
theorem LR.get {w : Wd} {α : Al} {N : Cn} {nL : Nat} {L : List PV} {ls : Array Slot} (h : LR w α N nL L ls) {i : Nat} {t : PV} (hn : nth L i = t) (h7 : t.1 ≠ 7) : ∃ v, ls[i]? = some (.val v) ∧ cR w α N t v := by
  obtain ⟨-, l, h1, -, h2⟩ := h
  obtain ⟨v, hm, hv⟩ := h2 i (by rw [hn]; exact h7)
  exact ⟨v, h1.2.2 _ hm, by rw [← hn]; exact hv⟩
/-- where a store of a value of one slot leads -/
theorem LR.set {w : Wd} {α : Al} {N : Cn} {nL : Nat} {L : List PV} {ls : Array Slot} (h : LR w α N nL L ls) {i : Nat} (hi : i < nL) {t : PV} {v : Value} (hv : cR w α N t v) (h1 : t.1 ≠ 1) :
    ∃ l l' : List (Nat × Value), lv_has ls nL l ∧ (i, v) :: l.filter (fun q => !(q.1 == i) && !(q.1 + 1 == i && q.2.category == 2)) = l' ∧ (∀ q, (∃ v, q = (i, v)) ∨ q ∈ l → q ∈ l → q.2.category = 1) ∧ ∀ ls', lv_has ls' nL l' → LR w α N nL (stv L i t) ls' := by
  obtain ⟨hL, l, h2, h3, h4⟩ := h
  refine ⟨l, _, h2, rfl, fun q _ hq => h3 q hq, fun ls' h5 => ⟨by rw [len_stv]; exact hL, _, h5, ?_, ?_⟩⟩
  · intro q hq
    rcases List.mem_cons.mp hq with e | e
    · rw [e]; exact hv.cat h1
    · exact h3 q (List.mem_filter.mp e).1
  · intro j hj
    rw [nth_stv L i t (by omega)] at hj ⊢
    by_cases e : j = i
    · rw [if_pos e]; subst e
      exact ⟨v, List.mem_cons_self, hv⟩
    · rw [if_neg e] at hj ⊢
      obtain ⟨u, hm, hu⟩ := h4 j hj
      refine ⟨u, List.mem_cons_of_mem _ (List.mem_filter.mpr ⟨hm, ?_⟩), hu⟩
      have hc := h3 _ hm
      simp [e, hc]
/-- more objects, the old ones where they were -/
def XT (α α' : Al) (N N' : Cn) : Prop := (∀ k, N k ≤ N' k) ∧ ∀ k n, lv N k n → α' k n = α k n
theorem cnt_mono {N N' : Cn} (h : ∀ k, N k ≤ N' k) (k : Nat) : cnt N k ≤ cnt N' k := by
  unfold cnt; split
  · exact Int.le_refl _
  · exact h _
theorem lv_mono {N N' : Cn} (h : ∀ k, N k ≤ N' k) {k : Nat} {n : Int} (hl : lv N k n) : lv N' k n := ⟨hl.1, Int.lt_of_lt_of_le hl.2 (cnt_mono h k)⟩
theorem XT.same (α : Al) (N : Cn) : XT α α N N := ⟨fun _ => Int.le_refl _, fun _ _ _ => rfl⟩
theorem XT.trans {α α' α'' : Al} {N N' N'' : Cn} (h : XT α α' N N') (h' : XT α' α'' N' N'') : XT α α'' N N'' :=
  ⟨fun k => Int.le_trans (h.1 k) (h'.1 k), fun k n hl => (h'.2 k n (lv_mono h.1 hl)).trans (h.2 k n hl)⟩
theorem rf_ext {α α' : Al} {N N' : Cn} (h : XT α α' N N') {k : Nat} {x : Int} (hx : x < cnt N k) : rf α' k x = rf α k x := by
  unfold rf ro
  by_cases h0 : x < 0
  · simp [h0]
  · simp [h0, h.2 k x ⟨by omega, hx⟩]
theorem cR.ext {w : Wd} {α α' : Al} {N N' : Cn} (h : XT α α' N N') {t : PV} {v : Value} (hv : cR w α N t v) : cR w α' N' t v := by
  obtain ⟨a, k, x⟩ := t
  match a, hv with
  | 0, hv => exact hv
  | 1, hv => exact hv
  | 2, hv => exact ⟨hv.1, Int.lt_of_lt_of_le hv.2.1 (cnt_mono h.1 k), by rw [rf_ext h hv.2.1]; exact hv.2.2⟩
  | 3, hv => exact ⟨hv.1, Int.lt_of_lt_of_le hv.2.1 (cnt_mono h.1 k), by rw [h.2 k x ⟨hv.1, hv.2.1⟩]; exact hv.2.2⟩
  | 5, hv => exact hv
  | 8, hv => exact hv
theorem SR.ext {w : Wd} {α α' : Al} {N N' : Cn} (h : XT α α' N N') : ∀ {S : List PV} {sk : List Value}, SR w α N S sk → SR w α' N' S sk
  | [], [], _ => trivial
  | _ :: _, _ :: _, hs => ⟨hs.1.ext h, SR.ext h hs.2⟩
theorem LR.ext {w : Wd} {α α' : Al} {N N' : Cn} (h : XT α α' N N') {nL : Nat} {L : List PV} {ls : Array Slot} (hl : LR w α N nL L ls) : LR w α' N' nL L ls := by
  obtain ⟨h1, l, h2, h3, h4⟩ := hl
  exact ⟨h1, l, h2, h3, fun i hi => by obtain ⟨v, hm, hv⟩ := h4 i hi; exact ⟨v, hm, hv.ext h⟩⟩
/-- cells and slots that were made for what there is -/
def ceN (N : Cn) : Nat := (N 2 + 10 * N 6 + N 8 + N 10 + N 19).toNat
def slN (N : Cn) : Nat := (6 * N 2 + 120 * N 6 + 6 * N 8 + 4 * N 10 + 6 * N 19).toNat
theorem ceN_mono {N N' : Cn} (h : ∀ k, N k ≤ N' k) : ceN N ≤ ceN N' := by
  have a := h 2; have b := h 6; have c := h 8; have d := h 10; have e := h 19
  unfold ceN; omega
theorem slN_mono {N N' : Cn} (h : ∀ k, N k ≤ N' k) : slN N ≤ slN N' := by
  have a := h 2; have b := h 6; have c := h 8; have d := h 10; have e := h 19
  unfold slN; omega
