abbrev PV := Nat × Nat × Int
abbrev St := (Nat → Int → Int → Int) × (Nat → Int)
abbrev Res := Option (Nat × Int × St)
abbrev Fn := List Int → St → Res
abbrev Sh := List (Nat × Nat)
/-- shape of the parameters, tag and kind of what comes back, name, code, locals, what it returns, room -/
abbrev MD := Sh × (Nat × Nat) × MethodName × ByteArray × (Nat × Option FieldType × Nat × Nat × List (Nat × Nat × Nat × Nat))
def gm (s : St) (k : Nat) (n j : Int) : Int := s.1 k n j
def pm (s : St) (k : Nat) (n j v : Int) : St := (fun k' n' j' => if k' = k ∧ n' = n ∧ j' = j then v else s.1 k' n' j', s.2)
/-- .. of what is never to throw -/
def bn0 (r : Res) (k : Int → St → Res) : Res := match r with
  | none => none
  | some (o, x, s) => if o = 0 then k x s else none
theorem wr_ex (z : Int) : ∃ w9 : Int, w9 = (z + 2147483648) % 4294967296 - 2147483648 := ⟨_, rfl⟩
noncomputable def wr (z : Int) : Int := Classical.choose (wr_ex z)
theorem wr_eq (z : Int) : wr z = (z + 2147483648) % 4294967296 - 2147483648 := Classical.choose_spec (wr_ex z)
def bnd (r : Res) (k : Int → St → Res) : Res := match r with
  | none => none
  | some (o, x, s) => if o = 0 then k x s else some (o, x, s)
/-! The numbers' own words are closed (by choose), so that no comparison of two texts opens them; .._eq opens them. -/
theorem idv_ex (x y : Int) : ∃ w9 : Int, w9 = wr (x.tdiv y) := ⟨_, rfl⟩
noncomputable def idv (x y : Int) : Int := Classical.choose (idv_ex x y)
theorem idv_eq (x y : Int) : idv x y = wr (x.tdiv y) := Classical.choose_spec (idv_ex x y)
theorem irm_ex (x y : Int) : ∃ w9 : Int, w9 = x.tmod y := ⟨_, rfl⟩
noncomputable def irm (x y : Int) : Int := Classical.choose (irm_ex x y)
theorem irm_eq (x y : Int) : irm x y = x.tmod y := Classical.choose_spec (irm_ex x y)
theorem icp_ex (x y : Int) : ∃ w9 : Int, w9 = if x < y then -1 else if x = y then 0 else 1 := ⟨_, rfl⟩
noncomputable def icp (x y : Int) : Int := Classical.choose (icp_ex x y)
theorem icp_eq (x y : Int) : icp x y = if x < y then -1 else if x = y then 0 else 1 := Classical.choose_spec (icp_ex x y)
theorem iand_ex (x y : Int) : ∃ w9 : Int, w9 = (Int32.ofInt x &&& Int32.ofInt y).toInt := ⟨_, rfl⟩
noncomputable def iand (x y : Int) : Int := Classical.choose (iand_ex x y)
theorem iand_eq (x y : Int) : iand x y = (Int32.ofInt x &&& Int32.ofInt y).toInt := Classical.choose_spec (iand_ex x y)
theorem ior_ex (x y : Int) : ∃ w9 : Int, w9 = (Int32.ofInt x ||| Int32.ofInt y).toInt := ⟨_, rfl⟩
noncomputable def ior (x y : Int) : Int := Classical.choose (ior_ex x y)
theorem ior_eq (x y : Int) : ior x y = (Int32.ofInt x ||| Int32.ofInt y).toInt := Classical.choose_spec (ior_ex x y)
theorem ixor_ex (x y : Int) : ∃ w9 : Int, w9 = (Int32.ofInt x ^^^ Int32.ofInt y).toInt := ⟨_, rfl⟩
noncomputable def ixor (x y : Int) : Int := Classical.choose (ixor_ex x y)
theorem ixor_eq (x y : Int) : ixor x y = (Int32.ofInt x ^^^ Int32.ofInt y).toInt := Classical.choose_spec (ixor_ex x y)
theorem ishl_ex (x y : Int) : ∃ w9 : Int, w9 = (Int32.ofInt x <<< (Int32.ofInt y &&& 31)).toInt := ⟨_, rfl⟩
noncomputable def ishl (x y : Int) : Int := Classical.choose (ishl_ex x y)
theorem ishl_eq (x y : Int) : ishl x y = (Int32.ofInt x <<< (Int32.ofInt y &&& 31)).toInt := Classical.choose_spec (ishl_ex x y)
theorem ishr_ex (x y : Int) : ∃ w9 : Int, w9 = (Int32.ofInt x >>> (Int32.ofInt y &&& 31)).toInt := ⟨_, rfl⟩
noncomputable def ishr (x y : Int) : Int := Classical.choose (ishr_ex x y)
theorem ishr_eq (x y : Int) : ishr x y = (Int32.ofInt x >>> (Int32.ofInt y &&& 31)).toInt := Classical.choose_spec (ishr_ex x y)
theorem iushr_ex (x y : Int) : ∃ w9 : Int, w9 = ((Int32.ofInt x).toUInt32 >>> ((Int32.ofInt y).toUInt32 &&& Int32.toUInt32 31)).toInt32.toInt := ⟨_, rfl⟩
noncomputable def iushr (x y : Int) : Int := Classical.choose (iushr_ex x y)
theorem iushr_eq (x y : Int) : iushr x y = ((Int32.ofInt x).toUInt32 >>> ((Int32.ofInt y).toUInt32 &&& Int32.toUInt32 31)).toInt32.toInt := Classical.choose_spec (iushr_ex x y)
abbrev Co := Nat → List PV → List PV → St → Res
abbrev Nx := List PV → List PV → St → Res
def bnh (r : Res) (k : Int → St → Res) (h : Nat → St → Res) : Res := match r with
  | none => none
  | some (o, x, s) => if o = 0 then k x s else h o s
/-- an exception more -/
def thw (s : St) : St := (s.1, fun k => if k = 19 then s.2 19 + 1 else s.2 k)
def po (s : St) (k : Nat) (n : Int) (f : Int → Int) : St := (fun k' n' j' => if k' = k ∧ n' = n then f j' else s.1 k' n' j', s.2)
def inc (s : St) (k : Nat) : St := (s.1, fun k' => if k' = k then s.2 k + 1 else s.2 k')
def sel (xs : List Int) (d : Int) : Int → Int := fun j => xs.getD j.toNat d
def alc (q : Nat) (xs : List Int) (s : St) : St := match q with
  | 2 => inc (po s 2 (s.2 2) (sel [-1] 0)) 2
  | 6 => inc (po (po (po (po (po (po (po (po (po (po s 6 (s.2 6) (sel [xs.getD 0 0, xs.getD 2 0, 0, 0, 0, xs.getD 1 0, 0, 0, 0, 0, 0, 0, -1, -1] 0)) 7 (s.2 6) (fun _ => 0)) 17 (s.2 6) (fun _ => 0)) 16 (s.2 6) (fun _ => 0)) 5 (s.2 6) (fun _ => 0)) 18 (s.2 6) (fun _ => 0)) 19 (s.2 6) (fun _ => 0)) 20 (s.2 6) (fun _ => 0)) 21 (s.2 6) (fun _ => 0)) 15 (s.2 6) (fun _ => -1)) 6
  | 8 => inc (po s 8 (s.2 8) (sel xs 0)) 8
  | 10 => inc (po s 10 (s.2 10) (sel xs 0)) 10
  | _ => s
abbrev Rw := Nat × Sh × Sh × (List Int → List Int → St → Res)
def nk : Co := fun _ _ _ _ => none
def nf : Fn := fun _ _ => none
def nmd : MD := ([], (9, 0), ⟨"", "", ""⟩, ⟨#[]⟩, (0, none, 0, 0, []))
def shp : Sh → List PV → Option (List Int)
  | [], [] => some []
  | (t, k) :: ty, (t', k', x) :: l => match Nat.beq t 7 with
    | true => shp ty l
    | false => match (Nat.beq t' t || (Nat.beq t 2 && Nat.beq t' 3)) && Nat.beq k' k with
      | true => (match shp ty l with
        | some xs => some (x :: xs)
        | none => none)
      | false => none
  | _, _ => none
def fam (rows : List Rw) (kb : Co) : Co := match rows with
  | [] => kb
  | (p, lt, st, f) :: r => fun t L S s => match Nat.beq t p with
    | true => (match shp lt L, shp st S with
      | some xs, some ys => f xs ys s
      | _, _ => none)
    | false => fam r kb t L S s
