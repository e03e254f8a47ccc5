/-! What holds between the class's memory (of c) and the reference's (of m), before each call; t: how many calls there were. -/
/-- only places of T may differ: a kind, and one field of it or all -/
def tch (T : List (Nat × Option Int)) (k : Nat) (j : Int) : Prop := ∃ q ∈ T, q.1 = k ∧ (q.2 = none ∨ q.2 = some j)
def Kp (T : List (Nat × Option Int)) (s s' : St) : Prop := ∀ k n j, ¬ tch T k j → gm s' k n j = gm s k n j
theorem Kp.rf (T : List (Nat × Option Int)) (s : St) : Kp T s s := fun _ _ _ _ => rfl
theorem Kp.tr {T : List (Nat × Option Int)} {s s' s'' : St} (h : Kp T s s') (h' : Kp T s' s'') : Kp T s s'' := fun k n j hh => (h' k n j hh).trans (h k n j hh)
theorem Kp.wk {T T' : List (Nat × Option Int)} {s s' : St} (h : Kp T s s') (hs : ∀ q ∈ T, q ∈ T' ∨ (q.1, none) ∈ T') : Kp T' s s' := fun k n j hh => h k n j (fun ⟨q, hq, e1, e2⟩ => hh (by
  rcases hs q hq with h9 | h9
  · exact ⟨q, h9, e1, e2⟩
  · exact ⟨_, h9, e1, Or.inl rfl⟩))
theorem Kp.pm {T : List (Nat × Option Int)} {s s' : St} (h : Kp T s s') {k : Nat} {n j v : Int} (ht : (k, none) ∈ T ∨ (k, some j) ∈ T) : Kp T s (pm s' k n j v) := fun k' n' j' hh => by
  rw [gm_pm, if_neg]
  · exact h k' n' j' hh
  · rintro ⟨rfl, rfl, rfl⟩
    rcases ht with h9 | h9
    · exact hh ⟨_, h9, rfl, Or.inl rfl⟩
    · exact hh ⟨_, h9, rfl, Or.inr rfl⟩
def fre (T : List (Nat × Option Int)) (k : Nat) (j : Int) : Bool := T.all fun q => !(q.1 == k) || (match q.2 with
  | none => false
  | some i => !(i == j))
def frk (T : List (Nat × Option Int)) (k : Nat) : Bool := T.all fun q => !(q.1 == k)
theorem Kp.f {T : List (Nat × Option Int)} {s s' : St} (h : Kp T s s') {k : Nat} {j : Int} (hf : fre T k j = true) (n : Int) : gm s' k n j = gm s k n j := h k n j (fun ⟨q, hq, e1, e2⟩ => by
  have h9 := List.all_eq_true.mp hf q hq
  rcases e2 with e2 | e2 <;> simp [e1, e2] at h9)
theorem Kp.k {T : List (Nat × Option Int)} {s s' : St} (h : Kp T s s') {k : Nat} (hf : frk T k = true) (n j : Int) : gm s' k n j = gm s k n j := h k n j (fun ⟨q, hq, e1, e2⟩ => by
  have h9 := List.all_eq_true.mp hf q hq
  simp [e1] at h9)
/-- societies, leagues -/
def rlA (c m : St) : Prop := (gm c 11 0 3 = gm m 12 0 1 ∧ 0 ≤ gm m 12 0 1 ∧ gm m 12 0 1 ≤ 10 ∧ c.2 6 = gm m 12 0 1) ∧
  (∀ i : Int, 0 ≤ i → i < 10 → gm c 13 0 i = if i < gm m 12 0 1 then i else -1) ∧
  (∀ i : Int, 0 ≤ i → i < gm m 12 0 1 → gm c 6 i 0 = i ∧ gm c 6 i 1 = gm m 103 0 i ∧ (1 ≤ gm m 103 0 i ∧ gm m 103 0 i ≤ 200) ∧ gm c 6 i 5 = gm m 102 0 i ∧ (0 ≤ gm m 102 0 i ∧ gm m 102 0 i < 2)) ∧
  (gm c 14 0 0 = 0 ∧ gm c 14 0 1 = 1 ∧ gm c 0 0 0 = 0 ∧ gm c 0 1 0 = 1)
/-- money -/
def rlM (t : Int) (c m : St) : Prop := ∀ i : Int, 0 ≤ i → i < 10 → (i < gm m 12 0 1 → gm c 6 i 6 = gm m 104 0 i) ∧ (0 ≤ gm m 104 0 i ∧ gm m 104 0 i ≤ 1000 * t) ∧ (gm m 12 0 1 ≤ i → gm m 104 0 i = 0)
/-- feuds -/
def rlF (c m : St) : Prop := (∀ i : Int, 0 ≤ i → i < gm m 12 0 1 → (0 ≤ gm c 6 i 7 ∧ gm c 6 i 7 < 1024) ∧ ∀ j : Int, 0 ≤ j → j < 10 → bit (gm c 6 i 7) j = gm m 105 0 (10 * i + j)) ∧
  ∀ i j : Int, 0 ≤ i → i < 10 → 0 ≤ j → j < 10 → (gm m 12 0 1 ≤ i ∨ gm m 12 0 1 ≤ j) → gm m 105 0 (10 * i + j) = 0
/-- themes -/
def rlT (c m : St) : Prop := ∀ i : Int, 0 ≤ i → i < 10 → (0 ≤ gm m 106 0 i ∧ gm m 106 0 i < 4096) ∧ (gm m 12 0 1 ≤ i → gm m 106 0 i = 0) ∧ (i < gm m 12 0 1 → gm c 6 i 8 = gm m 106 0 i ∧ (gm m 106 0 i ≠ 0 → gm c 6 i 9 = gm m 107 0 i))
/-- songs -/
def rlS (t : Int) (c m : St) : Prop := ∀ i : Int, 0 ≤ i → i < 10 → (gm m 12 0 1 ≤ i → gm m 108 0 i = 0 ∧ gm m 109 0 i = 0 ∧ gm m 110 0 i = 0) ∧
  (i < gm m 12 0 1 → (gm c 7 i 2 = gm m 108 0 i ∧ 0 ≤ gm m 108 0 i ∧ gm m 108 0 i ≤ 6) ∧ (gm c 7 i 3 = gm m 110 0 i ∧ (gm m 110 0 i = 0 ∨ gm m 110 0 i = 1)) ∧ (0 ≤ gm m 109 0 i ∧ gm m 109 0 i < 64) ∧
    (∀ k : Int, 0 ≤ k → k < 10 → gm m 108 0 i ≤ k → bit (gm m 109 0 i) k = 0) ∧
    ∀ k : Int, 0 ≤ k → k < gm m 108 0 i → gm c 17 i k = bit (gm m 109 0 i) k ∧ gm c 16 i k = gm m 111 0 (6 * i + k) ∧ 0 ≤ gm m 111 0 (6 * i + k) ∧ gm m 111 0 (6 * i + k) ≤ 99 * t)
/-- floats -/
def rlW (c m : St) : Prop := (∀ i : Int, 0 ≤ i → i < 10 → (gm m 12 0 1 ≤ i → gm m 112 0 i = 0) ∧ (0 ≤ gm m 112 0 i ∧ gm m 112 0 i ≤ 3) ∧
    (i < gm m 12 0 1 → gm c 6 i 10 = gm m 112 0 i ∧ ∀ k : Int, 0 ≤ k → k < gm m 112 0 i → (0 ≤ gm c 15 i k ∧ gm c 15 i k < c.2 10) ∧ ∀ f : Int, 0 ≤ f → f < 4 → gm c 10 (gm c 15 i k) f = gm m 113 0 (12 * i + 4 * k + f) ∧ 1 ≤ gm m 113 0 (12 * i + 4 * k + f) ∧ gm m 113 0 (12 * i + 4 * k + f) ≤ 99)) ∧
  ∀ i k i' k' : Int, 0 ≤ i → i < 10 → 0 ≤ k → k < gm m 112 0 i → 0 ≤ i' → i' < 10 → 0 ≤ k' → k' < gm m 112 0 i' → gm c 15 i k = gm c 15 i' k' → i = i' ∧ k = k'
/-- streets -/
def jns (m : St) (st a b : Int) : Prop := (gm m 115 0 st = a ∧ gm m 116 0 st = b) ∨ (gm m 115 0 st = b ∧ gm m 116 0 st = a)
def rlD (c m : St) : Prop := (gm c 9 0 2 = gm m 12 0 14 ∧ 0 ≤ gm m 12 0 14 ∧ gm m 12 0 14 ≤ 16 ∧ c.2 8 = gm m 12 0 14) ∧ (∀ i : Int, 0 ≤ i → i < 16 → gm c 22 0 i = if i < gm m 12 0 14 then i else -1) ∧
  (∀ i : Int, 0 ≤ i → i < gm m 12 0 14 → (gm c 8 i 0 = gm m 115 0 i ∧ gm c 8 i 1 = gm m 116 0 i ∧ gm c 8 i 2 = gm m 117 0 i ∧ gm c 8 i 3 = gm m 118 0 i ∧ gm c 8 i 4 = gm m 119 0 i ∧ gm c 8 i 5 = gm m 120 0 i) ∧
    (1 ≤ gm m 117 0 i ∧ gm m 117 0 i ≤ 30) ∧ (3 ≤ gm m 118 0 i ∧ gm m 118 0 i ≤ 30) ∧ (2 ≤ gm m 119 0 i ∧ gm m 119 0 i ≤ 30) ∧ (1 ≤ gm m 120 0 i ∧ gm m 120 0 i ≤ 99) ∧ (0 ≤ gm m 115 0 i ∧ gm m 115 0 i < 12) ∧ (0 ≤ gm m 116 0 i ∧ gm m 116 0 i < 12)) ∧
  ∀ i i' a b : Int, 0 ≤ i → i < gm m 12 0 14 → 0 ≤ i' → i' < gm m 12 0 14 → jns m i a b → jns m i' a b → i = i'
/-- juries -/
def rlJ (c m : St) : Prop := ∀ k : Int, 0 ≤ k → k < 12 → gm c 23 0 k = gm m 123 0 k ∧ (gm m 123 0 k = 0 ∨ gm m 123 0 k = 1)
/-- routes -/
def rlR (c m : St) : Prop := ∀ l : Int, 0 ≤ l → l < 2 → (gm c 3 l 3 = gm m 121 0 l ∧ 0 ≤ gm m 121 0 l ∧ gm m 121 0 l ≤ 10) ∧ gm c 25 l 0 = 0 ∧
  (∀ k : Int, 0 ≤ k → k < gm m 121 0 l → gm c 24 l k = gm m 122 0 (10 * l + k) ∧ 0 ≤ gm m 122 0 (10 * l + k) ∧ gm m 122 0 (10 * l + k) < 12) ∧
  (∀ k : Int, 1 ≤ k → k < gm m 121 0 l → (0 ≤ gm c 26 l k ∧ gm c 26 l k < gm m 12 0 14) ∧ jns m (gm c 26 l k) (gm m 122 0 (10 * l + (k - 1))) (gm m 122 0 (10 * l + k)) ∧ gm c 25 l k = gm c 25 l (k - 1) + gm m 117 0 (gm c 26 l k)) ∧
  ∀ k k' : Int, 0 ≤ k → k < gm m 121 0 l → 0 ≤ k' → k' < gm m 121 0 l → gm m 122 0 (10 * l + k) = gm m 122 0 (10 * l + k') → k = k'
/-- who entered, the orders -/
def rlO (c m : St) : Prop := (∀ i : Int, 0 ≤ i → i < 10 → (gm m 12 0 1 ≤ i → gm m 124 0 i = 0) ∧ (gm m 124 0 i = 0 ∨ gm m 124 0 i = 1) ∧ (i < gm m 12 0 1 → gm c 6 i 15 = gm m 124 0 i ∧ gm c 6 i 11 = gm m 125 0 i) ∧ (gm m 12 0 1 ≤ i → gm m 125 0 i = 0) ∧ (0 ≤ gm m 125 0 i ∧ gm m 125 0 i ≤ 99)) ∧
  ∀ l : Int, 0 ≤ l → l < 2 → (gm c 4 (2 * l) 1 = gm m 126 0 l ∧ 0 ≤ gm m 126 0 l ∧ gm m 126 0 l ≤ 10) ∧ (0 < gm m 126 0 l → 2 ≤ gm m 121 0 l) ∧
    (∀ k : Int, 0 ≤ k → k < gm m 126 0 l → gm c 27 (2 * l) k = gm m 127 0 (10 * l + k) ∧ (0 ≤ gm m 127 0 (10 * l + k) ∧ gm m 127 0 (10 * l + k) < gm m 12 0 1) ∧ gm m 102 0 (gm m 127 0 (10 * l + k)) = l ∧ gm m 124 0 (gm m 127 0 (10 * l + k)) = 1) ∧
    (∀ k k' : Int, 0 ≤ k → k < gm m 126 0 l → 0 ≤ k' → k' < gm m 126 0 l → gm m 127 0 (10 * l + k) = gm m 127 0 (10 * l + k') → k = k') ∧
    ∀ i : Int, 0 ≤ i → i < gm m 12 0 1 → gm m 102 0 i = l → gm m 124 0 i = 1 → ∃ k : Int, 0 ≤ k ∧ k < gm m 126 0 l ∧ gm m 127 0 (10 * l + k) = i
/-- the draw, who came up, the rain, who was first -/
def rlC (c m : St) : Prop := (gm c 11 0 4 = gm m 12 0 51 ∧ 0 ≤ gm m 12 0 51 ∧ gm m 12 0 51 < 5) ∧ gm c 11 0 5 = gm m 12 0 28 ∧ (gm c 11 0 6 = gm m 12 0 42 ∧ (gm m 12 0 42 = 0 ∨ gm m 12 0 42 = 1)) ∧ gm c 0 0 5 = gm m 129 0 0 ∧ gm c 0 1 5 = gm m 129 0 1
/-- a part -/
def rlP (t : Int) (c m : St) (p q l : Int) : Prop := (gm c 2 p 0 = gm m 135 0 q ∧ (0 ≤ gm m 135 0 q ∧ gm m 135 0 q < gm m 12 0 1) ∧ gm m 102 0 (gm m 135 0 q) = l ∧ gm m 124 0 (gm m 135 0 q) = 1) ∧ gm c 2 p 1 = gm m 136 0 q ∧
  (gm c 2 p 2 = gm m 138 0 q ∧ -1 ≤ gm m 138 0 q ∧ gm m 138 0 q ≤ 1000) ∧ (gm c 2 p 3 = gm m 137 0 q ∧ 1 ≤ gm m 137 0 q ∧ gm m 137 0 q ≤ 99) ∧ (gm c 2 p 4 = gm m 139 0 q ∧ 0 ≤ gm m 139 0 q ∧ gm m 139 0 q ≤ 20 * t) ∧ (gm c 2 p 5 = gm m 140 0 q ∧ (gm m 140 0 q = 0 ∨ gm m 140 0 q = 1))
/-- lines -/
def rlL (t : Int) (c m : St) : Prop := (∀ l : Int, 0 ≤ l → l < 2 → ((gm m 130 0 l = 0 ∧ gm c 1 l 6 = 0 ∧ gm c 1 l 7 = 0 ∧ gm m 134 0 l = 0) ∨ (gm m 130 0 l = 1 ∧ gm c 1 l 6 = 1 ∧ gm c 1 l 7 = 0 ∧ 0 < gm m 134 0 l ∧ 0 < gm m 126 0 l) ∨ (gm m 130 0 l = 2 ∧ gm c 1 l 6 = 1 ∧ gm c 1 l 7 = 1 ∧ 0 < gm m 134 0 l ∧ 0 < gm m 126 0 l)) ∧
    (gm c 1 l 2 = gm m 134 0 l ∧ 0 ≤ gm m 134 0 l ∧ gm m 134 0 l ≤ 60) ∧
    (gm m 130 0 l ≠ 0 → (gm c 1 l 3 = gm m 131 0 l ∧ 0 ≤ gm m 131 0 l ∧ gm m 131 0 l ≤ 60 * t) ∧ (gm c 1 l 4 = gm m 132 0 l ∧ 1 ≤ gm m 132 0 l ∧ gm m 132 0 l ≤ 200) ∧ (gm c 1 l 5 = gm m 133 0 l ∧ 1 ≤ gm m 133 0 l ∧ gm m 133 0 l ≤ 200)) ∧
    (∀ k : Int, 0 ≤ k → k < gm m 134 0 l → 0 ≤ gm c 28 l k ∧ rlP t c m (gm c 28 l k) (60 * l + k) l) ∧
    (∀ k : Int, 0 ≤ k → k < 12 → (0 ≤ gm c 29 l k ∧ gm c 29 l k ≤ 2) ∧ (0 ≤ gm m 141 0 (12 * l + k) ∧ gm m 141 0 (12 * l + k) ≤ 2)) ∧
    (gm m 130 0 l = 1 → ∀ j : Int, 0 ≤ j → j < gm m 121 0 l → gm c 29 l (gm m 122 0 (10 * l + j)) = gm m 141 0 (12 * l + gm m 122 0 (10 * l + j))) ∧
    (gm m 130 0 l ≠ 0 → (∀ k : Int, 0 ≤ k → k + 1 < gm m 134 0 l → 0 ≤ gm m 138 0 (60 * l + (k + 1)) → 0 ≤ gm m 138 0 (60 * l + k)) ∧
      (∀ k k' j : Int, 0 ≤ k → k' < gm m 134 0 l → k ≤ j → j ≤ k' → gm m 135 0 (60 * l + k) = gm m 135 0 (60 * l + k') → gm m 135 0 (60 * l + j) = gm m 135 0 (60 * l + k)) ∧
      (∀ i : Int, 0 ≤ i → i < gm m 12 0 1 → gm m 102 0 i = l → gm m 124 0 i = 1 → ∃ k : Int, 0 ≤ k ∧ k < gm m 134 0 l ∧ gm m 135 0 (60 * l + k) = i) ∧
      (∀ k : Int, 0 ≤ k → k < gm m 134 0 l → 0 ≤ gm m 138 0 (60 * l + k) → gm m 143 0 (gm m 135 0 (60 * l + k)) ≠ -1))) ∧
  (∀ l k : Int, 0 ≤ l → l < 2 → 0 ≤ k → k < 60 → -1 ≤ gm c 28 l k ∧ gm c 28 l k < c.2 2) ∧
  ∀ l k l' k' : Int, 0 ≤ l → l < 2 → 0 ≤ k → k < 60 → 0 ≤ l' → l' < 2 → 0 ≤ k' → k' < 60 → 0 ≤ gm c 28 l k → gm c 28 l k = gm c 28 l' k' → l = l' ∧ k = k'
/-- notes and penalties -/
def rlH (c m : St) : Prop := ∀ i : Int, 0 ≤ i → i < 10 → (gm m 12 0 1 ≤ i → gm m 147 0 i = 0 ∧ ∀ j : Int, 0 ≤ j → j < 20 → gm m 146 0 (20 * i + j) = 0) ∧
  (i < gm m 12 0 1 → (gm c 5 i 4 = gm m 147 0 i ∧ 0 ≤ gm m 147 0 i ∧ gm m 147 0 i ≤ 20) ∧ (∀ j : Int, 0 ≤ j → j < 20 → gm c 18 i j = gm m 146 0 (20 * i + j) ∧ (gm m 146 0 (20 * i + j) = 0 ∨ 50 ≤ gm m 146 0 (20 * i + j) ∧ gm m 146 0 (20 * i + j) ≤ 100)) ∧
    (∀ k : Int, 0 ≤ k → k < gm m 147 0 i → gm c 19 i k = gm m 148 0 (20 * i + k) ∧ (gm c 20 i k = gm m 149 0 (20 * i + k) ∧ 0 ≤ gm m 149 0 (20 * i + k) ∧ gm m 149 0 (20 * i + k) ≤ 4000000) ∧ gm c 21 i k = gm m 150 0 (20 * i + k) ∧ (gm m 150 0 (20 * i + k) = 0 ∨ gm m 150 0 (20 * i + k) = 1)) ∧
    (gm m 147 0 i ≠ 0 → gm m 124 0 i = 1 ∧ gm m 130 0 (gm m 102 0 i) = 2))
/-- clocks and gaps -/
def rlK (t : Int) (c m : St) : Prop := ∀ i : Int, 0 ≤ i → i < 10 → (gm m 12 0 1 ≤ i → gm m 145 0 i = 0) ∧
  (i < gm m 12 0 1 → (gm c 6 i 12 = gm m 143 0 i ∧ -1 ≤ gm m 143 0 i ∧ gm m 143 0 i ≤ 60 * t) ∧ (gm c 6 i 13 = gm m 144 0 i ∧ -1 ≤ gm m 144 0 i ∧ gm m 144 0 i ≤ 60 * t) ∧ (gm c 6 i 14 = gm m 145 0 i ∧ 0 ≤ gm m 145 0 i ∧ gm m 145 0 i ≤ 3600 * t))
/-- how many objects there are -/
def rlN (t : Int) (c : St) : Prop := (0 ≤ c.2 2 ∧ c.2 2 ≤ 60 * t) ∧ (0 ≤ c.2 10 ∧ c.2 10 ≤ t) ∧ (0 ≤ c.2 19 ∧ c.2 19 ≤ t) ∧ ∀ k, 0 ≤ c.2 k
