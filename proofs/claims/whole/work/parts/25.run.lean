abbrev Hx := Int → Int → Int → Int → St → Res
noncomputable def nth : List PV → Nat → PV
  | [], _ => (fun (_ : Hx) => (7, 0, 0)) FL_law
  | v :: _, 0 => v
  | _ :: l, n + 1 => nth l n
noncomputable def stv : List PV → Nat → PV → List PV
  | [], _, _ => (fun (_ : Hx) => []) FL_law
  | _ :: l, 0, w => w :: l
  | v :: l, n + 1, w => v :: stv l n w
noncomputable def shpH : Sh → List PV → Option (List Int)
  | [], [] => (fun (_ : Hx) => some []) FL_law
  | (t, k) :: ty, (t', k', x) :: l => match Nat.beq t 7 with
    | true => shpH ty l
    | false => match (Nat.beq t' t || (Nat.beq t 2 && Nat.beq t' 3)) && Nat.beq k' k with
      | true => (match shpH ty l with
        | some xs => some (x :: xs)
        | none => none)
      | false => none
  | _, _ => none
noncomputable def cnd (c : ClassFile.Cond) (x y : Int) (a b : Res) : Res := (fun (_ : Hx) => match c with
  | .eq => if x = y then a else b
  | .ne => if x = y then b else a
  | .lt => if x < y then a else b
  | .ge => if x < y then b else a
  | .gt => if y < x then a else b
  | .le => if y < x then b else a) FL_law
noncomputable def pI (S : List PV) (k : Int → List PV → Res) : Res := (fun (_ : Hx) => match S with
  | (0, _, x) :: S' => k x S'
  | _ => none) FL_law
noncomputable def pE (S : List PV) (r : Res) : Res := (fun (_ : Hx) => match S with
  | [] => r
  | _ => none) FL_law
noncomputable def pL (S : List PV) (k : Int → List PV → Res) : Res := (fun (_ : Hx) => match S with
  | (1, _, x) :: S' => k x S'
  | _ => none) FL_law
noncomputable def pR (S : List PV) (k : Nat → Int → List PV → Res) : Res := (fun (_ : Hx) => match S with
  | (2, q, x) :: S' => k q x S'
  | (3, q, x) :: S' => k q x S'
  | _ => none) FL_law
noncomputable def pO (q : Nat) (S : List PV) (k : Int → List PV → Res) : Res := (fun (_ : Hx) => match S with
  | (2, q', x) :: S' => (match Nat.beq q' q with
    | true => if 0 ≤ x then k x S' else none
    | false => none)
  | (3, q', x) :: S' => (match Nat.beq q' q with
    | true => k x S'
    | false => none)
  | _ => none) FL_law
noncomputable def spl : Nat → List PV → List PV → Option (List PV × List PV)
  | 0, a, S => (fun (_ : Hx) => some (a, S)) FL_law
  | n + 1, a, v :: S => spl n (v :: a) S
  | _ + 1, _, [] => none
noncomputable def wt : List PV → Nat
  | [] => (fun (_ : Hx) => 0) FL_law
  | (1, _, _) :: l => wt l + 2
  | _ :: l => wt l + 1
noncomputable def gts (L : List PV) : List Nat → Option (List Int)
  | [] => (fun (_ : Hx) => some []) FL_law
  | i :: is => match nth L i with
    | (0, _, x) => (match gts L is with
      | some xs => some (x :: xs)
      | none => none)
    | _ => none
noncomputable def rcv (b : Bool) (a : List PV) (k : List PV → Res) : Res := (fun (_ : Hx) => match b with
  | false => k a
  | true => match a with
    | (2, q, x) :: l => if 0 ≤ x then k ((3, q, x) :: l) else none
    | (3, q, x) :: l => k ((3, q, x) :: l)
    | _ => none) FL_law
noncomputable def hdl (o : Nat) (L : List PV) (s : St) (K : Co) : List Nat → Res
  | [] => (fun (_ : Hx) => none) FL_law
  | [_] => none
  | e :: t :: r => if o = e then K t L [(8, 0, 0)] s else hdl o L s K r
noncomputable def swt (x : Int) (K : Nat → Res) (d : Nat) : List Int → List Nat → Res
  | i :: is, t :: ts => if x = i then K t else swt x K d is ts
  | _, _ => (fun (_ : Hx) => K d) FL_law
noncomputable def res (t : Nat × Nat) (x : Int) (S : List PV) : List PV := (fun (_ : Hx) => match t with
  | (9, _) => S
  | (t, q) => (t, q, x) :: S) FL_law
noncomputable def inv (b : Bool) (ns : List Nat) (f : Fn) (md : MD) (L S : List PV) (s : St) (K : Co) (N : Nx) : Res := (fun (_ : Hx) => match spl md.1.length [] S with
  | none => none
  | some (a, S') => match Nat.ble (wt S') 8 with
    | false => none
    | true => rcv b a fun a => match shpH md.1 a with
      | none => none
      | some xs => match ns with
        | [] => (match md.2.2.2.2.2.2.2.2 with
          | [] => bnd (f xs s) fun x s' => N L (res md.2.1 x S') s'
          | _ => bn0 (f xs s) fun x s' => N L (res md.2.1 x S') s')
        | h => bnh (f xs s) (fun x s' => N L (res md.2.1 x S') s') fun o s' => hdl o L s' K h) FL_law
noncomputable def g0 (l : List Nat) : Nat := match l with | a :: _ => a | _ => 0
noncomputable def g1 (l : List Nat) : Nat := match l with | _ :: a :: _ => a | _ => 0
noncomputable def g2 (l : List Nat) : Nat := match l with | _ :: _ :: a :: _ => a | _ => 0
noncomputable def i0 (l : List Int) : Int := match l with | a :: _ => a | _ => 0
noncomputable def ldv (L S : List PV) (k : Nat) (r : Bool) (s : St) (N : Nx) : Res := (fun (_ : Hx) => match nth L k, r with
  | (0, _, x), false => N L ((0, 0, x) :: S) s
  | (2, q, x), true => N L ((2, q, x) :: S) s
  | (3, q, x), true => N L ((3, q, x) :: S) s
  | (5, q, x), true => N L ((5, q, x) :: S) s
  | _, _ => none) FL_law
noncomputable def sti (L S : List PV) (k : Nat) (s : St) (N : Nx) : Res := (fun (_ : Hx) => pI S fun x S' => N (stv L k (0, 0, x)) S' s) FL_law
noncomputable def sta (L S : List PV) (k : Nat) (s : St) (N : Nx) : Res := (fun (_ : Hx) => match S with
  | (2, q, x) :: S' => N (stv L k (2, q, x)) S' s
  | (3, q, x) :: S' => N (stv L k (3, q, x)) S' s
  | (8, q, x) :: S' => N (stv L k (8, q, x)) S' s
  | _ => none) FL_law
noncomputable def tst (b : Bool) (r : Res) : Res := (fun (_ : Hx) => match b with
  | true => r
  | false => none) FL_law
noncomputable def iin (L S : List PV) (k : Nat) (n : Int) (s : St) (N : Nx) : Res := (fun (_ : Hx) => match nth L k with
  | (0, _, x) => N (stv L k (0, 0, wr (x + n))) S s
  | _ => none) FL_law
noncomputable def dp1 (L S : List PV) (s : St) (N : Nx) : Res := (fun (_ : Hx) => match S with
  | (0, q, x) :: S => N L ((0, q, x) :: (0, q, x) :: S) s
  | (2, q, x) :: S => N L ((2, q, x) :: (2, q, x) :: S) s
  | (3, q, x) :: S => N L ((3, q, x) :: (3, q, x) :: S) s
  | _ => none) FL_law
noncomputable def dp2 (L S : List PV) (s : St) (N : Nx) : Res := (fun (_ : Hx) => pI S fun x S => match S with
  | (3, q, y) :: S => N L ((0, 0, x) :: (3, q, y) :: (0, 0, x) :: (3, q, y) :: S) s
  | _ => none) FL_law
noncomputable def ald5 (q : Nat) (l : Int) (L S : List PV) (s : St) (i : Int) (N : Nx) : Res := (fun (_ : Hx) => match S with
  | (5, _, _) :: S => if 0 ≤ i ∧ i < gm s 61 1 0 then N L ((0, 0, gm s 61 0 i) :: S) s else none
  | S => pO q S fun n S => if 0 ≤ i ∧ i < l then N L ((0, 0, gm s q n i) :: S) s else none) FL_law
noncomputable def aln (q : Nat) (l : Int) (L S : List PV) (s : St) (N : Nx) : Res := (fun (_ : Hx) => match S with
  | (5, _, _) :: S => N L ((0, 0, gm s 61 1 0) :: S) s
  | S => pO q S fun _ S => N L ((0, 0, l) :: S) s) FL_law
noncomputable def alo (q : Nat) (l : List Nat) (L S : List PV) (s : St) (N : Nx) : Res := (fun (_ : Hx) => match Nat.ble (wt S) 7 with
  | true => (match gts L l with
    | some xs => N L ((3, q, s.2 q) :: S) (alc q xs s)
    | none => none)
  | false => none) FL_law
noncomputable def stp (i : Instr) (ns : List Nat) (is : List Int) (f : Fn) (md : MD) (L S : List PV) (s : St) (K : Co) (N : Nx) : Res := match i with
  | .iconst n => N L ((0, 0, n) :: S) s
  | .bipush n => N L ((0, 0, n) :: S) s
  | .sipush n => N L ((0, 0, n) :: S) s
  | .ldc _ => N L ((0, 0, i0 is) :: S) s
  | .ldc_w _ => N L ((0, 0, i0 is) :: S) s
  | .lconst n => N L ((1, 0, (n.val : Int)) :: S) s
  | .aconst_null => N L ((2, g0 ns, -1) :: S) s
  | .iload k => ldv L S k false s N
  | .iload_n k => ldv L S k.val false s N
  | .aload k => ldv L S k true s N
  | .aload_n k => ldv L S k.val true s N
  | .istore k => sti L S k s N
  | .istore_n k => sti L S k.val s N
  | .astore k => sta L S k s N
  | .astore_n k => sta L S k.val s N
  | .iinc k n => iin L S k n s N
  | .iadd => pI S fun y S => pI S fun x S => N L ((0, 0, wr (x + y)) :: S) s
  | .isub => pI S fun y S => pI S fun x S => N L ((0, 0, wr (x - y)) :: S) s
  | .imul => pI S fun y S => pI S fun x S => N L ((0, 0, wr (x * y)) :: S) s
  | .idiv => pI S fun y S => pI S fun x S => if y = 0 then none else N L ((0, 0, idv x y) :: S) s
  | .irem => pI S fun y S => pI S fun x S => if y = 0 then none else N L ((0, 0, irm x y) :: S) s
  | .ineg => pI S fun x S => N L ((0, 0, wr (-x)) :: S) s
  | .iand => pI S fun y S => pI S fun x S => N L ((0, 0, iand x y) :: S) s
  | .ior => pI S fun y S => pI S fun x S => N L ((0, 0, ior x y) :: S) s
  | .ixor => pI S fun y S => pI S fun x S => N L ((0, 0, ixor x y) :: S) s
  | .ishl => pI S fun y S => pI S fun x S => N L ((0, 0, ishl x y) :: S) s
  | .ishr => pI S fun y S => pI S fun x S => N L ((0, 0, ishr x y) :: S) s
  | .iushr => pI S fun y S => pI S fun x S => N L ((0, 0, iushr x y) :: S) s
  | .i2l => pI S fun x S => N L ((1, 0, x) :: S) s
  | .lcmp => pL S fun y S => pL S fun x S => N L ((0, 0, icp x y) :: S) s
  | .dup => dp1 L S s N
  | .dup2 => dp2 L S s N
  | .getfield _ => pO (g0 ns) S fun n S => (match g1 ns with
    | 0 => N L ((0, 0, gm s (g0 ns) n (i0 is)) :: S) s
    | 1 => N L ((2, g2 ns, gm s (g0 ns) n (i0 is)) :: S) s
    | 2 => N L ((3, g2 ns, n) :: S) s
    | 3 => N L ((3, g2 ns, 2 * n) :: S) s
    | 4 => N L ((3, g2 ns, 2 * n + 1) :: S) s
    | _ => none)
  | .putfield _ => (match g1 ns with
    | 0 => pI S fun v S => pO (g0 ns) S fun n S => N L S (pm s (g0 ns) n (i0 is) v)
    | 5 => pI S fun v S => pO (g0 ns) S fun n S => if v = 0 ∨ v = 1 then N L S (pm s (g0 ns) n (i0 is) v) else none
    | 1 => pR S fun q v S => tst (Nat.beq q (g2 ns)) (pO (g0 ns) S fun n S => N L S (pm s (g0 ns) n (i0 is) v))
    | _ => none)
  | .iaload => pI S fun i S => ald5 (g0 ns) (i0 is) L S s i N
  | .baload => pI S fun i S => pO (g0 ns) S fun n S => if 0 ≤ i ∧ i < i0 is then N L ((0, 0, gm s (g0 ns) n i) :: S) s else none
  | .aaload => pI S fun i S => pO (g0 ns) S fun n S => if 0 ≤ i ∧ i < i0 is then N L ((2, g1 ns, gm s (g0 ns) n i) :: S) s else none
  | .laload => pI S fun i S => pO 60 S fun n S => if 0 ≤ i ∧ i < 1 then N L ((1, 0, gm s 60 n i) :: S) s else none
  | .iastore => pI S fun v S => pI S fun i S => pO (g0 ns) S fun n S => if 0 ≤ i ∧ i < i0 is then N L S (pm s (g0 ns) n i v) else none
  | .bastore => pI S fun v S => pI S fun i S => pO (g0 ns) S fun n S => if (0 ≤ i ∧ i < i0 is) ∧ (v = 0 ∨ v = 1) then N L S (pm s (g0 ns) n i v) else none
  | .aastore => pR S fun q v S => tst (Nat.beq q (g1 ns)) (pI S fun i S => pO (g0 ns) S fun n S => if 0 ≤ i ∧ i < i0 is then N L S (pm s (g0 ns) n i v) else none)
  | .lastore => pL S fun v S => pI S fun i S => pO 60 S fun n S => if 0 ≤ i ∧ i < 1 then N L S (pm s 60 n i v) else none
  | .arraylength => aln (g0 ns) (i0 is) L S s N
  | .ifCond c _ => pI S fun x S => cnd c x 0 (K (g0 ns) L S s) (N L S s)
  | .if_icmp c _ => pI S fun y S => pI S fun x S => cnd c x y (K (g0 ns) L S s) (N L S s)
  | .ifnull _ => pR S fun _ x S => if x = -1 then K (g0 ns) L S s else N L S s
  | .ifnonnull _ => pR S fun _ x S => if x = -1 then N L S s else K (g0 ns) L S s
  | .if_acmp c _ => pR S fun q y S => pR S fun q' x S => tst (Nat.beq q' q) (match c with
    | .eq => if x = y then K (g0 ns) L S s else N L S s
    | .ne => if x = y then N L S s else K (g0 ns) L S s)
  | .goto _ => K (g0 ns) L S s
  | .tableswitch .. => pI S fun x S => swt x (fun t => K t L S s) (g0 ns) is ns.tail
  | .lookupswitch .. => pI S fun x S => swt x (fun t => K t L S s) (g0 ns) is ns.tail
  | .ireturn => pI S fun x S => pE S (match g0 ns with
    | 0 => some (0, x, s)
    | _ => if x = 0 ∨ x = 1 then some (0, x, s) else none)
  | .areturn => pR S fun q x S => tst (Nat.beq q (g0 ns)) (pE S (some (0, x, s)))
  | .return_ => pE S (some (0, 0, s))
  | .new _ => (match g0 ns with
    | 99 => pE S (some (g1 ns, 0, thw s))
    | q => alo q ns.tail L S s N)
  | .invokevirtual _ => inv true ns f md L S s K N
  | .invokespecial _ => inv true ns f md L S s K N
  | .invokestatic _ => inv false ns f md L S s K N
  | _ => none
/-- an instruction: what it is, how long, numbers to it, the method that it calls, and what it does; with the row that this is what the table of all instructions says -/
abbrev Op := List PV → List PV → St → Co → Nx → Res
abbrev E0 := Instr × Nat × (List Nat × List Int) × (Fn × MD) × Op
noncomputable def En := { e : E0 // ∀ (L S : List PV) (s : St) (K : Co) (N : Nx), e.2.2.2.2 L S s K N = stp e.1 e.2.2.1.1 e.2.2.1.2 e.2.2.2.1.1 e.2.2.2.1.2 L S s K N }
noncomputable def c_iconst (n : Int) : En := ⟨(.iconst n, 1, ([], []), (nf, nmd), fun L S s _ N => N L ((0, 0, n) :: S) s), fun _ _ _ _ _ => rfl⟩
noncomputable def c_bipush (n : Int) : En := ⟨(.bipush n, 2, ([], []), (nf, nmd), fun L S s _ N => N L ((0, 0, n) :: S) s), fun _ _ _ _ _ => rfl⟩
noncomputable def c_sipush (n : Int) : En := ⟨(.sipush n, 3, ([], []), (nf, nmd), fun L S s _ N => N L ((0, 0, n) :: S) s), fun _ _ _ _ _ => rfl⟩
noncomputable def c_ldc (i : Nat) (v : Int) : En := ⟨(.ldc i, 2, ([], [v]), (nf, nmd), fun L S s _ N => N L ((0, 0, v) :: S) s), fun _ _ _ _ _ => rfl⟩
noncomputable def c_ldcw (i : Nat) (v : Int) : En := ⟨(.ldc_w i, 3, ([], [v]), (nf, nmd), fun L S s _ N => N L ((0, 0, v) :: S) s), fun _ _ _ _ _ => rfl⟩
noncomputable def c_lconst0 : En := ⟨(.lconst 0, 1, ([], []), (nf, nmd), fun L S s _ N => N L ((1, 0, 0) :: S) s), fun _ _ _ _ _ => rfl⟩
noncomputable def c_lconst1 : En := ⟨(.lconst 1, 1, ([], []), (nf, nmd), fun L S s _ N => N L ((1, 0, 1) :: S) s), fun _ _ _ _ _ => rfl⟩
noncomputable def c_null (q : Nat) : En := ⟨(.aconst_null, 1, ([q], []), (nf, nmd), fun L S s _ N => N L ((2, q, -1) :: S) s), fun _ _ _ _ _ => rfl⟩
noncomputable def c_iload (k : Nat) : En := ⟨(.iload k, 2, ([], []), (nf, nmd), fun L S s _ N => ldv L S k false s N), fun _ _ _ _ _ => rfl⟩
noncomputable def c_iload_n (k : Fin 4) : En := ⟨(.iload_n k, 1, ([], []), (nf, nmd), fun L S s _ N => ldv L S k.val false s N), fun _ _ _ _ _ => rfl⟩
noncomputable def c_aload (k : Nat) : En := ⟨(.aload k, 2, ([], []), (nf, nmd), fun L S s _ N => ldv L S k true s N), fun _ _ _ _ _ => rfl⟩
noncomputable def c_aload_n (k : Fin 4) : En := ⟨(.aload_n k, 1, ([], []), (nf, nmd), fun L S s _ N => ldv L S k.val true s N), fun _ _ _ _ _ => rfl⟩
noncomputable def c_istore (k : Nat) : En := ⟨(.istore k, 2, ([], []), (nf, nmd), fun L S s _ N => sti L S k s N), fun _ _ _ _ _ => rfl⟩
noncomputable def c_istore_n (k : Fin 4) : En := ⟨(.istore_n k, 1, ([], []), (nf, nmd), fun L S s _ N => sti L S k.val s N), fun _ _ _ _ _ => rfl⟩
noncomputable def c_astore (k : Nat) : En := ⟨(.astore k, 2, ([], []), (nf, nmd), fun L S s _ N => sta L S k s N), fun _ _ _ _ _ => rfl⟩
noncomputable def c_astore_n (k : Fin 4) : En := ⟨(.astore_n k, 1, ([], []), (nf, nmd), fun L S s _ N => sta L S k.val s N), fun _ _ _ _ _ => rfl⟩
noncomputable def c_iinc (k : Nat) (n : Int) : En := ⟨(.iinc k n, 3, ([], []), (nf, nmd), fun L S s _ N => iin L S k n s N), fun _ _ _ _ _ => rfl⟩
noncomputable def c_iadd : En := ⟨(.iadd, 1, ([], []), (nf, nmd), fun L S s _ N => pI S fun y S => pI S fun x S => N L ((0, 0, wr (x + y)) :: S) s), fun _ _ _ _ _ => rfl⟩
noncomputable def c_isub : En := ⟨(.isub, 1, ([], []), (nf, nmd), fun L S s _ N => pI S fun y S => pI S fun x S => N L ((0, 0, wr (x - y)) :: S) s), fun _ _ _ _ _ => rfl⟩
noncomputable def c_imul : En := ⟨(.imul, 1, ([], []), (nf, nmd), fun L S s _ N => pI S fun y S => pI S fun x S => N L ((0, 0, wr (x * y)) :: S) s), fun _ _ _ _ _ => rfl⟩
noncomputable def c_idiv : En := ⟨(.idiv, 1, ([], []), (nf, nmd), fun L S s _ N => pI S fun y S => pI S fun x S => if y = 0 then none else N L ((0, 0, idv x y) :: S) s), fun _ _ _ _ _ => rfl⟩
noncomputable def c_irem : En := ⟨(.irem, 1, ([], []), (nf, nmd), fun L S s _ N => pI S fun y S => pI S fun x S => if y = 0 then none else N L ((0, 0, irm x y) :: S) s), fun _ _ _ _ _ => rfl⟩
noncomputable def c_ineg : En := ⟨(.ineg, 1, ([], []), (nf, nmd), fun L S s _ N => pI S fun x S => N L ((0, 0, wr (-x)) :: S) s), fun _ _ _ _ _ => rfl⟩
noncomputable def c_iand : En := ⟨(.iand, 1, ([], []), (nf, nmd), fun L S s _ N => pI S fun y S => pI S fun x S => N L ((0, 0, iand x y) :: S) s), fun _ _ _ _ _ => rfl⟩
noncomputable def c_ior : En := ⟨(.ior, 1, ([], []), (nf, nmd), fun L S s _ N => pI S fun y S => pI S fun x S => N L ((0, 0, ior x y) :: S) s), fun _ _ _ _ _ => rfl⟩
noncomputable def c_ixor : En := ⟨(.ixor, 1, ([], []), (nf, nmd), fun L S s _ N => pI S fun y S => pI S fun x S => N L ((0, 0, ixor x y) :: S) s), fun _ _ _ _ _ => rfl⟩
noncomputable def c_ishl : En := ⟨(.ishl, 1, ([], []), (nf, nmd), fun L S s _ N => pI S fun y S => pI S fun x S => N L ((0, 0, ishl x y) :: S) s), fun _ _ _ _ _ => rfl⟩
noncomputable def c_ishr : En := ⟨(.ishr, 1, ([], []), (nf, nmd), fun L S s _ N => pI S fun y S => pI S fun x S => N L ((0, 0, ishr x y) :: S) s), fun _ _ _ _ _ => rfl⟩
noncomputable def c_iushr : En := ⟨(.iushr, 1, ([], []), (nf, nmd), fun L S s _ N => pI S fun y S => pI S fun x S => N L ((0, 0, iushr x y) :: S) s), fun _ _ _ _ _ => rfl⟩
noncomputable def c_i2l : En := ⟨(.i2l, 1, ([], []), (nf, nmd), fun L S s _ N => pI S fun x S => N L ((1, 0, x) :: S) s), fun _ _ _ _ _ => rfl⟩
noncomputable def c_lcmp : En := ⟨(.lcmp, 1, ([], []), (nf, nmd), fun L S s _ N => pL S fun y S => pL S fun x S => N L ((0, 0, icp x y) :: S) s), fun _ _ _ _ _ => rfl⟩
noncomputable def c_dup : En := ⟨(.dup, 1, ([], []), (nf, nmd), fun L S s _ N => dp1 L S s N), fun _ _ _ _ _ => rfl⟩
noncomputable def c_dup2 : En := ⟨(.dup2, 1, ([], []), (nf, nmd), fun L S s _ N => dp2 L S s N), fun _ _ _ _ _ => rfl⟩
/-- getfield: a number; a reference that changes; one that doesn't (the object of the same number, or of twice the number, or of that and 1) -/
noncomputable def c_getI (i q : Nat) (j : Int) : En := ⟨(.getfield i, 3, ([q, 0, 0], [j]), (nf, nmd), fun L S s _ N => pO q S fun n S => N L ((0, 0, gm s q n j) :: S) s), fun _ _ _ _ _ => rfl⟩
noncomputable def c_getR (i q q2 : Nat) (j : Int) : En := ⟨(.getfield i, 3, ([q, 1, q2], [j]), (nf, nmd), fun L S s _ N => pO q S fun n S => N L ((2, q2, gm s q n j) :: S) s), fun _ _ _ _ _ => rfl⟩
noncomputable def c_getC (i q q2 : Nat) (j : Int) : En := ⟨(.getfield i, 3, ([q, 2, q2], [j]), (nf, nmd), fun L S s _ N => pO q S fun n S => N L ((3, q2, n) :: S) s), fun _ _ _ _ _ => rfl⟩
noncomputable def c_get2 (i q q2 : Nat) (j : Int) : En := ⟨(.getfield i, 3, ([q, 3, q2], [j]), (nf, nmd), fun L S s _ N => pO q S fun n S => N L ((3, q2, 2 * n) :: S) s), fun _ _ _ _ _ => rfl⟩
noncomputable def c_get3 (i q q2 : Nat) (j : Int) : En := ⟨(.getfield i, 3, ([q, 4, q2], [j]), (nf, nmd), fun L S s _ N => pO q S fun n S => N L ((3, q2, 2 * n + 1) :: S) s), fun _ _ _ _ _ => rfl⟩
noncomputable def c_putI (i q : Nat) (j : Int) : En := ⟨(.putfield i, 3, ([q, 0, 0], [j]), (nf, nmd), fun L S s _ N => pI S fun v S => pO q S fun n S => N L S (pm s q n j v)), fun _ _ _ _ _ => rfl⟩
noncomputable def c_putZ (i q : Nat) (j : Int) : En := ⟨(.putfield i, 3, ([q, 5, 0], [j]), (nf, nmd), fun L S s _ N => pI S fun v S => pO q S fun n S => if v = 0 ∨ v = 1 then N L S (pm s q n j v) else none), fun _ _ _ _ _ => rfl⟩
noncomputable def c_putR (i q q2 : Nat) (j : Int) : En := ⟨(.putfield i, 3, ([q, 1, q2], [j]), (nf, nmd), fun L S s _ N => pR S fun q' v S => tst (Nat.beq q' q2) (pO q S fun n S => N L S (pm s q n j v))), fun _ _ _ _ _ => rfl⟩
noncomputable def c_iald (q : Nat) (l : Int) : En := ⟨(.iaload, 1, ([q], [l]), (nf, nmd), fun L S s _ N => pI S fun i S => ald5 q l L S s i N), fun _ _ _ _ _ => rfl⟩
noncomputable def c_bald (q : Nat) (l : Int) : En := ⟨(.baload, 1, ([q], [l]), (nf, nmd), fun L S s _ N => pI S fun i S => pO q S fun n S => if 0 ≤ i ∧ i < l then N L ((0, 0, gm s q n i) :: S) s else none), fun _ _ _ _ _ => rfl⟩
noncomputable def c_aald (q e : Nat) (l : Int) : En := ⟨(.aaload, 1, ([q, e], [l]), (nf, nmd), fun L S s _ N => pI S fun i S => pO q S fun n S => if 0 ≤ i ∧ i < l then N L ((2, e, gm s q n i) :: S) s else none), fun _ _ _ _ _ => rfl⟩
noncomputable def c_lald : En := ⟨(.laload, 1, ([], []), (nf, nmd), fun L S s _ N => pI S fun i S => pO 60 S fun n S => if 0 ≤ i ∧ i < 1 then N L ((1, 0, gm s 60 n i) :: S) s else none), fun _ _ _ _ _ => rfl⟩
noncomputable def c_iast (q : Nat) (l : Int) : En := ⟨(.iastore, 1, ([q], [l]), (nf, nmd), fun L S s _ N => pI S fun v S => pI S fun i S => pO q S fun n S => if 0 ≤ i ∧ i < l then N L S (pm s q n i v) else none), fun _ _ _ _ _ => rfl⟩
noncomputable def c_bast (q : Nat) (l : Int) : En := ⟨(.bastore, 1, ([q], [l]), (nf, nmd), fun L S s _ N => pI S fun v S => pI S fun i S => pO q S fun n S => if (0 ≤ i ∧ i < l) ∧ (v = 0 ∨ v = 1) then N L S (pm s q n i v) else none), fun _ _ _ _ _ => rfl⟩
noncomputable def c_aast (q e : Nat) (l : Int) : En := ⟨(.aastore, 1, ([q, e], [l]), (nf, nmd), fun L S s _ N => pR S fun q' v S => tst (Nat.beq q' e) (pI S fun i S => pO q S fun n S => if 0 ≤ i ∧ i < l then N L S (pm s q n i v) else none)), fun _ _ _ _ _ => rfl⟩
noncomputable def c_last : En := ⟨(.lastore, 1, ([], []), (nf, nmd), fun L S s _ N => pL S fun v S => pI S fun i S => pO 60 S fun n S => if 0 ≤ i ∧ i < 1 then N L S (pm s 60 n i v) else none), fun _ _ _ _ _ => rfl⟩
noncomputable def c_alen (q : Nat) (l : Int) : En := ⟨(.arraylength, 1, ([q], [l]), (nf, nmd), fun L S s _ N => aln q l L S s N), fun _ _ _ _ _ => rfl⟩
noncomputable def c_if (c : ClassFile.Cond) (o : Int) (t : Nat) : En := ⟨(.ifCond c o, 3, ([t], []), (nf, nmd), fun L S s K N => pI S fun x S => cnd c x 0 (K t L S s) (N L S s)), fun _ _ _ _ _ => rfl⟩
noncomputable def c_icmp (c : ClassFile.Cond) (o : Int) (t : Nat) : En := ⟨(.if_icmp c o, 3, ([t], []), (nf, nmd), fun L S s K N => pI S fun y S => pI S fun x S => cnd c x y (K t L S s) (N L S s)), fun _ _ _ _ _ => rfl⟩
noncomputable def c_ifnull (o : Int) (t : Nat) : En := ⟨(.ifnull o, 3, ([t], []), (nf, nmd), fun L S s K N => pR S fun _ x S => if x = -1 then K t L S s else N L S s), fun _ _ _ _ _ => rfl⟩
noncomputable def c_ifnonnull (o : Int) (t : Nat) : En := ⟨(.ifnonnull o, 3, ([t], []), (nf, nmd), fun L S s K N => pR S fun _ x S => if x = -1 then N L S s else K t L S s), fun _ _ _ _ _ => rfl⟩
noncomputable def c_acmpeq (o : Int) (t : Nat) : En := ⟨(.if_acmp .eq o, 3, ([t], []), (nf, nmd), fun L S s K N => pR S fun q y S => pR S fun q' x S => tst (Nat.beq q' q) (if x = y then K t L S s else N L S s)), fun _ _ _ _ _ => rfl⟩
noncomputable def c_acmpne (o : Int) (t : Nat) : En := ⟨(.if_acmp .ne o, 3, ([t], []), (nf, nmd), fun L S s K N => pR S fun q y S => pR S fun q' x S => tst (Nat.beq q' q) (if x = y then N L S s else K t L S s)), fun _ _ _ _ _ => rfl⟩
noncomputable def c_goto (o : Int) (t : Nat) : En := ⟨(.goto o, 3, ([t], []), (nf, nmd), fun L S s K _ => K t L S s), fun _ _ _ _ _ => rfl⟩
noncomputable def c_tsw (i : Instr) (h : ∀ (ns : List Nat) (is : List Int) (L S : List PV) (s : St) (K : Co) (N : Nx), stp i ns is nf nmd L S s K N = pI S fun x S => swt x (fun t => K t L S s) (g0 ns) is ns.tail) (n : Nat) (d : Nat) (is : List Int) (ts : List Nat) : En := ⟨(i, n, (d :: ts, is), (nf, nmd), fun L S s K _ => pI S fun x S => swt x (fun t => K t L S s) d is ts), fun L S s K N => (h (d :: ts) is L S s K N).symm⟩
noncomputable def c_ireturn : En := ⟨(.ireturn, 1, ([], []), (nf, nmd), fun _ S s _ _ => pI S fun x S => pE S (some (0, x, s))), fun _ _ _ _ _ => rfl⟩
noncomputable def c_zreturn : En := ⟨(.ireturn, 1, ([1], []), (nf, nmd), fun _ S s _ _ => pI S fun x S => pE S (if x = 0 ∨ x = 1 then some (0, x, s) else none)), fun _ _ _ _ _ => rfl⟩
noncomputable def c_areturn (q : Nat) : En := ⟨(.areturn, 1, ([q], []), (nf, nmd), fun _ S s _ _ => pR S fun q' x S => tst (Nat.beq q' q) (pE S (some (0, x, s)))), fun _ _ _ _ _ => rfl⟩
noncomputable def c_return : En := ⟨(.return_, 1, ([], []), (nf, nmd), fun _ S s _ _ => pE S (some (0, 0, s))), fun _ _ _ _ _ => rfl⟩
noncomputable def c_throw (i n e : Nat) : En := ⟨(.new i, n, ([99, e], []), (nf, nmd), fun _ S s _ _ => pE S (some (e, 0, thw s))), fun _ _ _ _ _ => rfl⟩
noncomputable def c_alloc (i n : Nat) (q : Nat) (h : q = 2 ∨ q = 6 ∨ q = 8 ∨ q = 10) (l : List Nat) : En := ⟨(.new i, n, (q :: l, []), (nf, nmd), fun L S s _ N => alo q l L S s N), fun L S s K N => by rcases h with rfl | rfl | rfl | rfl <;> rfl⟩
noncomputable def c_invv (i : Nat) (ns : List Nat) (f : Fn) (md : MD) : En := ⟨(.invokevirtual i, 3, (ns, []), (f, md), fun L S s K N => inv true ns f md L S s K N), fun _ _ _ _ _ => rfl⟩
noncomputable def c_invs (i : Nat) (ns : List Nat) (f : Fn) (md : MD) : En := ⟨(.invokestatic i, 3, (ns, []), (f, md), fun L S s K N => inv false ns f md L S s K N), fun _ _ _ _ _ => rfl⟩
noncomputable def exb (K : Co) (ft : Nat) (l : List En) : Nx := @List.rec En (fun _ => Nx) (fun L S s => K ft L S s) (fun e _ ih L S s => (fun (_ : Hx) => e.1.2.2.2.2 L S s K ih) FL_law) l
noncomputable def famH (rows : List Rw) (kb : Co) : Co := match rows with
  | [] => (fun (_ : Hx) => kb) FL_law
  | (p, lt, st, f) :: r => fun t L S s => match Nat.beq t p with
    | true => (match shpH lt L, shpH st S with
      | some xs, some ys => f xs ys s
      | _, _ => none)
    | false => famH r kb t L S s
