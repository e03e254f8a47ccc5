/-! counts only grow -/
abbrev le9 (t : St) (r : Rt) : Prop := ∀ k, t.2 k ≤ r.2.2.2 k
def KM (r : Rt) (K : Co) : Prop := ∀ pc L S t, K pc L S t = some r → le9 t r
def NM (r : Rt) (N : Nx) : Prop := ∀ L S t, N L S t = some r → le9 t r
section MONO
variable {r : Rt} {t : St} {L S : List PV} {K : Co} {N : Nx} {P : Prop}
theorem pI_le {k : Int → List PV → Res} (h : pI S k = some r) (hk : ∀ y S', k y S' = some r → P) : P := by
  replace h := pI_some h
  obtain ⟨_, y, S', -, h⟩ := h
  exact hk y S' h
theorem pL_le {k : Int → List PV → Res} (h : pL S k = some r) (hk : ∀ y S', k y S' = some r → P) : P := by
  replace h := pL_some h
  obtain ⟨_, y, S', -, h⟩ := h
  exact hk y S' h
theorem pO_le {q : Nat} {k : Int → List PV → Res} (h : pO q S k = some r) (hk : ∀ y S', k y S' = some r → P) : P := by
  replace h := pO_some h
  obtain ⟨_, y, S', -, -, h⟩ := h
  exact hk y S' h
theorem pR_le {k : Nat → Int → List PV → Res} (h : pR S k = some r) (hk : ∀ q y S', k q y S' = some r → P) : P := by
  replace h := pR_some h
  obtain ⟨_, q, y, S', -, -, h⟩ := h
  exact hk q y S' h
theorem pE_le {k : Res} (h : pE S k = some r) (hk : k = some r → P) : P := hk (pE_some h).2
theorem tst_le {b : Bool} {k : Res} (h : tst b k = some r) (hk : k = some r → P) : P := hk (tst_some h).2
theorem if_le {c : Prop} [Decidable c] {a b : Res} (h : (if c then a else b) = some r) (h1 : a = some r → P) (h2 : b = some r → P) : P := by
  split at h
  · exact h1 h
  · exact h2 h
theorem cnd_le {c : ClassFile.Cond} {a b : Int} {A B : Res} (h : cnd c a b A B = some r) (h1 : A = some r → P) (h2 : B = some r → P) : P := by
  cases c <;> exact if_le h (by assumption) (by assumption)
theorem swt_le {y : Int} {K : Nat → Res} {d : Nat} (hk : ∀ g, K g = some r → P) : ∀ {is : List Int} {ts : List Nat}, swt y K d is ts = some r → P
  | [], [], h => hk d h
  | [], _ :: _, h => hk d h
  | _ :: _, [], h => hk d h
  | i :: is, t :: ts, h => by
    have h : (if y = i then K t else swt y K d is ts) = some r := h
    exact if_le h (hk t) (swt_le hk)
theorem hdl_le {o : Nat} (hk : KM r K) : ∀ {ns : List Nat}, hdl o L t K ns = some r → le9 t r
  | [], h => by cases h
  | [_], h => by cases h
  | e :: g :: ns, h => by
    have h : (if o = e then K g L [(8, 0, 0)] t else hdl o L t K ns) = some r := h
    exact if_le h (hk _ _ _ _) (hdl_le hk)
theorem ldv_le {k : Nat} {b : Bool} (hn : NM r N) (h : ldv L S k b t N = some r) : le9 t r := by
  unfold ldv at h
  split at h
  · exact hn _ _ _ h
  · exact hn _ _ _ h
  · exact hn _ _ _ h
  · exact hn _ _ _ h
  · cases h
theorem sta_le {k : Nat} (hn : NM r N) (h : sta L S k t N = some r) : le9 t r := by
  unfold sta at h
  split at h
  · exact hn _ _ _ h
  · exact hn _ _ _ h
  · exact hn _ _ _ h
  · cases h
theorem iin_le {k : Nat} {m : Int} (hn : NM r N) (h : iin L S k m t N = some r) : le9 t r := by
  unfold iin at h
  split at h
  · exact hn _ _ _ h
  · cases h
theorem dp1_le (hn : NM r N) (h : dp1 L S t N = some r) : le9 t r := by
  unfold dp1 at h
  split at h
  · exact hn _ _ _ h
  · exact hn _ _ _ h
  · exact hn _ _ _ h
  · cases h
theorem dp2_le (hn : NM r N) (h : dp2 L S t N = some r) : le9 t r := by
  unfold dp2 at h
  refine pI_le h fun y S' h => ?_
  split at h
  · exact hn _ _ _ h
  · cases h
theorem ald_le {q : Nat} {l i : Int} (hn : NM r N) (h : ald5 q l L S t i N = some r) : le9 t r := by
  unfold ald5 at h
  split at h
  · exact if_le h (hn _ _ _) (fun h => by cases h)
  · exact pO_le h fun _ _ h => if_le h (hn _ _ _) (fun h => by cases h)
theorem aln_le {q : Nat} {l : Int} (hn : NM r N) (h : aln q l L S t N = some r) : le9 t r := by
  unfold aln at h
  split at h
  · exact hn _ _ _ h
  · exact pO_le h fun _ _ h => hn _ _ _ h
theorem inc_le (s : St) (k : Nat) (h : le9 (inc s k) r) : le9 s r := fun k' => by
  have h := h k'
  have e : s.2 k' ≤ (inc s k).2 k' := by
    show _ ≤ if k' = k then s.2 k + 1 else s.2 k'
    split
    · next e => rw [e]; omega
    · exact Int.le_refl _
  exact Int.le_trans e h
theorem alc_le {q : Nat} {xs : List Int} (h : le9 (alc q xs t) r) : le9 t r := by
  unfold alc at h
  split at h
  · exact inc_le (po t 2 (t.2 2) (sel [-1] 0)) 2 h
  · exact inc_le _ 6 h
  · exact inc_le _ 8 h
  · exact inc_le _ 10 h
  · exact h
theorem alo_le {q : Nat} {l : List Nat} (hn : NM r N) (h : alo q l L S t N = some r) : le9 t r := by
  unfold alo at h
  split at h
  · split at h
    · exact alc_le (hn _ _ _ h)
    · cases h
  · cases h
theorem thw_le : le9 t (r.1, 0, thw t) := fun k => by
  show t.2 k ≤ if k = 19 then t.2 19 + 1 else t.2 k
  split
  · next e => rw [e]; omega
  · exact Int.le_refl _
theorem inv_le {b : Bool} {ns : List Nat} {f : Fn} {md2 : MD} (hI : ∀ xs t r, f xs t = some r → le9 t r) (hk : KM r K) (hn : NM r N) (h : inv b ns f md2 L S t K N = some r) : le9 t r := by
  replace h := inv_some h
  obtain ⟨c, S', a, xs, o, y, s', rfl, -, -, -, -, hf, hcase⟩ := h
  have h1 := hI _ _ _ hf
  rcases hcase with ⟨-, h⟩ | ⟨-, -, -, h⟩ | ⟨-, -, h⟩
  · exact fun k => Int.le_trans (h1 k) (hn _ _ _ h k)
  · rw [h]; exact h1
  · exact fun k => Int.le_trans (h1 k) (hdl_le hk h k)
theorem stp_le {i : Instr} {ns : List Nat} {is : List Int} {f : Fn} {md2 : MD} (hI : (∃ j, i = .invokevirtual j ∨ i = .invokestatic j) → ∀ xs t r, f xs t = some r → le9 t r) (hns : ∀ j, i ≠ .invokespecial j) (hk : KM r K) (hn : NM r N) (h : stp i ns is f md2 L S t K N = some r) : le9 t r := by
  cases i
  case invokespecial j => exact absurd rfl (hns j)
  case iload k => exact ldv_le hn h
  case iload_n k => exact ldv_le hn h
  case aload k => exact ldv_le hn h
  case aload_n k => exact ldv_le hn h
  case istore k => exact pI_le h fun _ _ h => hn _ _ _ h
  case istore_n k => exact pI_le h fun _ _ h => hn _ _ _ h
  case astore k => exact sta_le hn h
  case astore_n k => exact sta_le hn h
  case iinc k m => exact iin_le hn h
  case iadd => exact pI_le h fun _ _ h => pI_le h fun _ _ h => hn _ _ _ h
  case isub => exact pI_le h fun _ _ h => pI_le h fun _ _ h => hn _ _ _ h
  case imul => exact pI_le h fun _ _ h => pI_le h fun _ _ h => hn _ _ _ h
  case idiv => exact pI_le h fun _ _ h => pI_le h fun _ _ h => if_le h (fun h => by cases h) (hn _ _ _)
  case irem => exact pI_le h fun _ _ h => pI_le h fun _ _ h => if_le h (fun h => by cases h) (hn _ _ _)
  case ineg => exact pI_le h fun _ _ h => hn _ _ _ h
  case iand => exact pI_le h fun _ _ h => pI_le h fun _ _ h => hn _ _ _ h
  case ior => exact pI_le h fun _ _ h => pI_le h fun _ _ h => hn _ _ _ h
  case ixor => exact pI_le h fun _ _ h => pI_le h fun _ _ h => hn _ _ _ h
  case ishl => exact pI_le h fun _ _ h => pI_le h fun _ _ h => hn _ _ _ h
  case ishr => exact pI_le h fun _ _ h => pI_le h fun _ _ h => hn _ _ _ h
  case iushr => exact pI_le h fun _ _ h => pI_le h fun _ _ h => hn _ _ _ h
  case i2l => exact pI_le h fun _ _ h => hn _ _ _ h
  case lcmp => exact pL_le h fun _ _ h => pL_le h fun _ _ h => hn _ _ _ h
  case dup => exact dp1_le hn h
  case dup2 => exact dp2_le hn h
  case getfield j =>
    refine pO_le (q := g0 ns) h fun y S' h => ?_
    generalize g1 ns = g at h
    match g, h with
    | 0, h => exact hn _ _ _ h
    | 1, h => exact hn _ _ _ h
    | 2, h => exact hn _ _ _ h
    | 3, h => exact hn _ _ _ h
    | 4, h => exact hn _ _ _ h
    | _ + 5, h => cases h
  case putfield j =>
    have h : (match g1 ns with
      | 0 => pI S fun v S => pO (g0 ns) S fun n S => N L S (pm t (g0 ns) n (i0 is) v)
      | 5 => pI S fun v S => pO (g0 ns) S fun n S => if v = 0 ∨ v = 1 then N L S (pm t (g0 ns) n (i0 is) v) else none
      | 1 => pR S fun q' v S => tst (Nat.beq q' (g2 ns)) (pO (g0 ns) S fun n S => N L S (pm t (g0 ns) n (i0 is) v))
      | _ => none) = some r := h
    generalize g1 ns = g at h
    split at h
    · exact pI_le h fun _ _ h => pO_le h fun _ _ h => by have h9 := hn _ _ _ h; exact h9
    · exact pI_le h fun _ _ h => pO_le h fun _ _ h => if_le h (fun h => by have h9 := hn _ _ _ h; exact h9) (fun h => by cases h)
    · exact pR_le h fun _ _ _ h => tst_le h fun h => pO_le h fun _ _ h => by have h9 := hn _ _ _ h; exact h9
    · cases h
  case iaload => exact pI_le h fun _ _ h => ald_le hn h
  case baload => exact pI_le h fun _ _ h => pO_le h fun _ _ h => if_le h (hn _ _ _) (fun h => by cases h)
  case aaload => exact pI_le h fun _ _ h => pO_le h fun _ _ h => if_le h (hn _ _ _) (fun h => by cases h)
  case laload => exact pI_le h fun _ _ h => pO_le h fun _ _ h => if_le h (hn _ _ _) (fun h => by cases h)
  case iastore => exact pI_le h fun _ _ h => pI_le h fun _ _ h => pO_le h fun _ _ h => if_le h (hn _ _ _) (fun h => by cases h)
  case bastore => exact pI_le h fun _ _ h => pI_le h fun _ _ h => pO_le h fun _ _ h => if_le h (hn _ _ _) (fun h => by cases h)
  case aastore => exact pR_le h fun _ _ _ h => tst_le h fun h => pI_le h fun _ _ h => pO_le h fun _ _ h => if_le h (hn _ _ _) (fun h => by cases h)
  case lastore => exact pL_le h fun _ _ h => pI_le h fun _ _ h => pO_le h fun _ _ h => if_le h (hn _ _ _) (fun h => by cases h)
  case arraylength => exact aln_le hn h
  case ifCond c o => exact pI_le h fun _ _ h => cnd_le h (hk _ _ _ _) (hn _ _ _)
  case if_icmp c o => exact pI_le h fun _ _ h => pI_le h fun _ _ h => cnd_le h (hk _ _ _ _) (hn _ _ _)
  case ifnull o => exact pR_le h fun _ _ _ h => if_le h (hk _ _ _ _) (hn _ _ _)
  case ifnonnull o => exact pR_le h fun _ _ _ h => if_le h (hn _ _ _) (hk _ _ _ _)
  case if_acmp c o => cases c <;> exact pR_le h fun _ _ _ h => pR_le h fun _ _ _ h => tst_le h fun h => if_le h (by first | exact hk _ _ _ _ | exact hn _ _ _) (by first | exact hk _ _ _ _ | exact hn _ _ _)
  case goto o => exact hk _ _ _ _ h
  case tableswitch d lo hi offs => exact pI_le h fun _ _ h => swt_le (fun g h => hk _ _ _ _ h) h
  case lookupswitch d ps => exact pI_le h fun _ _ h => swt_le (fun g h => hk _ _ _ _ h) h
  case ireturn =>
    refine pI_le h fun y S' h => pE_le h fun h => ?_
    generalize g0 ns = g at h
    cases g with
    | zero =>
      have h : some ((0 : Nat), y, t) = some r := h
      cases h
      exact fun _ => Int.le_refl _
    | succ g =>
      have h : (if y = 0 ∨ y = 1 then some ((0 : Nat), y, t) else none) = some r := h
      exact if_le h (fun h => by cases h; exact fun _ => Int.le_refl _) (fun h => by cases h)
  case areturn => exact pR_le h fun _ _ _ h => tst_le h fun h => pE_le h fun h => by cases h; exact fun _ => Int.le_refl _
  case return_ => exact pE_le h fun h => by cases h; exact fun _ => Int.le_refl _
  case new j =>
    by_cases e : g0 ns = 99
    · have h : (match g0 ns with
        | 99 => pE S (some (g1 ns, 0, thw t))
        | q => alo q ns.tail L S t N) = some r := h
      rw [e] at h
      refine pE_le h fun h => ?_
      have h9 : r = (g1 ns, 0, thw t) := (Option.some.inj h).symm
      rw [h9]
      exact thw_le (r := (g1 ns, 0, t))
    · have h : (match g0 ns with
        | 99 => pE S (some (g1 ns, 0, thw t))
        | q => alo q ns.tail L S t N) = some r := h
      split at h
      · exact absurd (by assumption) e
      · exact alo_le hn h
  case invokevirtual j => exact inv_le (hI ⟨j, Or.inl rfl⟩) hk hn h
  case invokestatic j => exact inv_le (hI ⟨j, Or.inr rfl⟩) hk hn h
  all_goals first | exact hn _ _ _ h | (exact absurd h (by intro h; cases h))
end MONO
