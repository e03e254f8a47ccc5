/-! The first state: what the two constructors leave. -/
def sM (L : Nat) (xs : Nat → Int32) : Nat → Int → Int → Int := fun k n j => match k with
  | 0 => if j = 0 then (if n = 1 then 1 else 0) else if j = 5 then -1 else 0
  | 1 => if j = 4 then 1 else if j = 5 then 200 else 0
  | 11 => if j = 5 then -1 else 0
  | 12 => if j = 28 then -1 else 0
  | 13 => -1
  | 14 => if j = 0 then 0 else if j = 1 then 1 else -1
  | 22 => -1
  | 26 => -1
  | 27 => -1
  | 28 => -1
  | 61 => if n = 1 then (L : Int) else (xs j.toNat).toInt
  | 129 => if j = 0 then -1 else if j = 1 then -1 else 0
  | _ => 0
def sT (L : Nat) (xs : Nat → Int32) : St := (sM L xs, fun _ => 0)
theorem lt0_no {P : Prop} {i : Int} (h1 : 0 ≤ i) (h2 : i < 0) : P := absurd h2 (by omega)
theorem st_A (L : Nat) (xs : Nat → Int32) : rlA (sT L xs) (sT L xs) :=
  ⟨⟨rfl, Int.le_refl 0, (by show (0 : Int) ≤ 10; decide), rfl⟩, fun i h1 h2 => (by show (-1 : Int) = if i < (0 : Int) then i else -1; rw [if_neg (by omega)]), fun i h1 h2 => lt0_no h1 (show i < 0 from h2), ⟨rfl, rfl, rfl, rfl⟩⟩
theorem st_M (L : Nat) (xs : Nat → Int32) : rlM 0 (sT L xs) (sT L xs) := fun i h1 _ => ⟨fun h => lt0_no h1 (show i < 0 from h), ⟨Int.le_refl 0, (by show (0 : Int) ≤ 1000 * 0; decide)⟩, fun _ => rfl⟩
theorem st_F (L : Nat) (xs : Nat → Int32) : rlF (sT L xs) (sT L xs) := ⟨fun i h1 h2 => lt0_no h1 (show i < 0 from h2), fun _ _ _ _ _ _ _ => rfl⟩
theorem st_T (L : Nat) (xs : Nat → Int32) : rlT (sT L xs) (sT L xs) := fun i h1 _ => ⟨⟨Int.le_refl 0, (by show (0 : Int) < 4096; decide)⟩, fun _ => rfl, fun h => lt0_no h1 (show i < 0 from h)⟩
theorem st_S (L : Nat) (xs : Nat → Int32) : rlS 0 (sT L xs) (sT L xs) := fun i h1 _ => ⟨fun _ => ⟨rfl, rfl, rfl⟩, fun h => lt0_no h1 (show i < 0 from h)⟩
theorem st_W (L : Nat) (xs : Nat → Int32) : rlW (sT L xs) (sT L xs) := ⟨fun i h1 _ => ⟨fun _ => rfl, ⟨Int.le_refl 0, (by show (0 : Int) ≤ 3; decide)⟩, fun h => lt0_no h1 (show i < 0 from h)⟩, fun i k i' k' _ _ h3 h4 => lt0_no h3 (show k < 0 from h4)⟩
theorem st_D (L : Nat) (xs : Nat → Int32) : rlD (sT L xs) (sT L xs) :=
  ⟨⟨rfl, Int.le_refl 0, (by show (0 : Int) ≤ 16; decide), rfl⟩, fun i h1 h2 => (by show (-1 : Int) = if i < (0 : Int) then i else -1; rw [if_neg (by omega)]), fun i h1 h2 => lt0_no h1 (show i < 0 from h2), fun i i' a b h1 h2 => lt0_no h1 (show i < 0 from h2)⟩
theorem st_J (L : Nat) (xs : Nat → Int32) : rlJ (sT L xs) (sT L xs) := fun _ _ _ => ⟨rfl, Or.inl rfl⟩
theorem st_R (L : Nat) (xs : Nat → Int32) : rlR (sT L xs) (sT L xs) := fun l _ _ => ⟨⟨rfl, Int.le_refl 0, (by show (0 : Int) ≤ 10; decide)⟩, rfl, fun k h1 h2 => lt0_no h1 (show k < 0 from h2), fun k h1 h2 => lt0_no (by omega) (show k < 0 from h2), fun k k' h1 h2 => lt0_no h1 (show k < 0 from h2)⟩
theorem st_O (L : Nat) (xs : Nat → Int32) : rlO (sT L xs) (sT L xs) :=
  ⟨fun i h1 _ => ⟨fun _ => rfl, Or.inl rfl, fun h => lt0_no h1 (show i < 0 from h), fun _ => rfl, ⟨Int.le_refl 0, (by show (0 : Int) ≤ 99; decide)⟩⟩, fun l _ _ => ⟨⟨rfl, Int.le_refl 0, (by show (0 : Int) ≤ 10; decide)⟩, fun h => absurd (show (0 : Int) < 0 from h) (by decide), fun k h1 h2 => lt0_no h1 (show k < 0 from h2), fun k k' h1 h2 => lt0_no h1 (show k < 0 from h2), fun i h1 h2 => lt0_no h1 (show i < 0 from h2)⟩⟩
theorem st_C (L : Nat) (xs : Nat → Int32) : rlC (sT L xs) (sT L xs) := ⟨⟨rfl, Int.le_refl 0, (by show (0 : Int) < 5; decide)⟩, rfl, ⟨rfl, Or.inl rfl⟩, rfl, rfl⟩
theorem st_L (L : Nat) (xs : Nat → Int32) : rlL 0 (sT L xs) (sT L xs) :=
  ⟨fun l _ _ => ⟨Or.inl ⟨rfl, rfl, rfl, rfl⟩, ⟨rfl, Int.le_refl 0, (by show (0 : Int) ≤ 60; decide)⟩, fun h => absurd rfl h, fun k h1 h2 => lt0_no h1 (show k < 0 from h2), fun k _ _ => ⟨⟨Int.le_refl 0, (by show (0 : Int) ≤ 2; decide)⟩, ⟨Int.le_refl 0, (by show (0 : Int) ≤ 2; decide)⟩⟩, fun h => absurd (show (0 : Int) = 1 from h) (by decide), fun h => absurd rfl h⟩,
    fun _ _ _ _ _ _ => ⟨Int.le_refl (-1), (by show (-1 : Int) < 0; decide)⟩, fun _ _ _ _ _ _ _ _ _ _ _ _ h _ => absurd (show (0 : Int) ≤ -1 from h) (by decide)⟩
theorem st_H (L : Nat) (xs : Nat → Int32) : rlH (sT L xs) (sT L xs) := fun i h1 _ => ⟨fun _ => ⟨rfl, fun _ _ _ => rfl⟩, fun h => lt0_no h1 (show i < 0 from h)⟩
theorem st_K (L : Nat) (xs : Nat → Int32) : rlK 0 (sT L xs) (sT L xs) := fun i h1 _ => ⟨fun _ => rfl, fun h => lt0_no h1 (show i < 0 from h)⟩
theorem st_N (L : Nat) (xs : Nat → Int32) : rlN 0 (sT L xs) := ⟨⟨Int.le_refl 0, (by show (0 : Int) ≤ 60 * 0; decide)⟩, ⟨Int.le_refl 0, Int.le_refl 0⟩, ⟨Int.le_refl 0, Int.le_refl 0⟩, fun _ => Int.le_refl 0⟩
