/-! The first world. -/
def l11 : List (Nat × Nat) := [(13, 0), (14, 0), (9, 0), (22, 0), (23, 0), (0, 0), (3, 0), (24, 0), (25, 0), (26, 0), (4, 0), (27, 0), (4, 1), (27, 1), (1, 0), (28, 0), (29, 0), (0, 1), (3, 1), (24, 1), (25, 1), (26, 1), (4, 2), (27, 2), (4, 3), (27, 3), (1, 1), (28, 1), (29, 1)]
def l12 : List (Nat × Nat) := [(102, 0), (103, 0), (104, 0), (105, 0), (106, 0), (107, 0), (108, 0), (109, 0), (110, 0), (111, 0), (112, 0), (113, 0), (115, 0), (116, 0), (117, 0), (118, 0), (119, 0), (120, 0), (121, 0), (122, 0), (123, 0), (124, 0), (125, 0), (126, 0), (127, 0), (129, 0), (130, 0), (131, 0), (132, 0), (133, 0), (134, 0), (135, 0), (136, 0), (137, 0), (138, 0), (139, 0), (140, 0), (141, 0), (143, 0), (144, 0), (145, 0), (146, 0), (147, 0), (148, 0), (149, 0), (150, 0)]
def sLP : List (Nat × Nat) := (11, 0) :: (l11 ++ (12, 0) :: (l12 ++ [(60, 0)]))
def sof (k : Nat) (n : Nat) : Nat := sLP.idxOf (k, n)
def sAl (a : Nat) : Al := fun k n => a + sof k n.toNat
theorem sA_1_0 (a : Nat) {x : Int} (h : x = 0) : sAl a 1 x = a + 15 := by
  subst h
  exact congrArg (a + ·) (show sof 1 0 = 15 by decide +kernel)
theorem sA_1_1 (a : Nat) {x : Int} (h : x = 1) : sAl a 1 x = a + 27 := by
  subst h
  exact congrArg (a + ·) (show sof 1 1 = 27 by decide +kernel)
theorem sA_3_0 (a : Nat) {x : Int} (h : x = 0) : sAl a 3 x = a + 7 := by
  subst h
  exact congrArg (a + ·) (show sof 3 0 = 7 by decide +kernel)
theorem sA_3_1 (a : Nat) {x : Int} (h : x = 1) : sAl a 3 x = a + 19 := by
  subst h
  exact congrArg (a + ·) (show sof 3 1 = 19 by decide +kernel)
theorem sA_4_0 (a : Nat) {x : Int} (h : x = 0) : sAl a 4 x = a + 11 := by
  subst h
  exact congrArg (a + ·) (show sof 4 0 = 11 by decide +kernel)
theorem sA_4_1 (a : Nat) {x : Int} (h : x = 1) : sAl a 4 x = a + 13 := by
  subst h
  exact congrArg (a + ·) (show sof 4 1 = 13 by decide +kernel)
theorem sA_4_2 (a : Nat) {x : Int} (h : x = 2) : sAl a 4 x = a + 23 := by
  subst h
  exact congrArg (a + ·) (show sof 4 2 = 23 by decide +kernel)
theorem sA_4_3 (a : Nat) {x : Int} (h : x = 3) : sAl a 4 x = a + 25 := by
  subst h
  exact congrArg (a + ·) (show sof 4 3 = 25 by decide +kernel)
theorem sA_9_0 (a : Nat) {x : Int} (h : x = 0) : sAl a 9 x = a + 3 := by
  subst h
  exact congrArg (a + ·) (show sof 9 0 = 3 by decide +kernel)
theorem sA_13_0 (a : Nat) {x : Int} (h : x = 0) : sAl a 13 x = a + 1 := by
  subst h
  exact congrArg (a + ·) (show sof 13 0 = 1 by decide +kernel)
theorem sA_14_0 (a : Nat) {x : Int} (h : x = 0) : sAl a 14 x = a + 2 := by
  subst h
  exact congrArg (a + ·) (show sof 14 0 = 2 by decide +kernel)
theorem sA_22_0 (a : Nat) {x : Int} (h : x = 0) : sAl a 22 x = a + 4 := by
  subst h
  exact congrArg (a + ·) (show sof 22 0 = 4 by decide +kernel)
theorem sA_23_0 (a : Nat) {x : Int} (h : x = 0) : sAl a 23 x = a + 5 := by
  subst h
  exact congrArg (a + ·) (show sof 23 0 = 5 by decide +kernel)
theorem sA_24_0 (a : Nat) {x : Int} (h : x = 0) : sAl a 24 x = a + 8 := by
  subst h
  exact congrArg (a + ·) (show sof 24 0 = 8 by decide +kernel)
theorem sA_24_1 (a : Nat) {x : Int} (h : x = 1) : sAl a 24 x = a + 20 := by
  subst h
  exact congrArg (a + ·) (show sof 24 1 = 20 by decide +kernel)
theorem sA_25_0 (a : Nat) {x : Int} (h : x = 0) : sAl a 25 x = a + 9 := by
  subst h
  exact congrArg (a + ·) (show sof 25 0 = 9 by decide +kernel)
theorem sA_25_1 (a : Nat) {x : Int} (h : x = 1) : sAl a 25 x = a + 21 := by
  subst h
  exact congrArg (a + ·) (show sof 25 1 = 21 by decide +kernel)
theorem sA_26_0 (a : Nat) {x : Int} (h : x = 0) : sAl a 26 x = a + 10 := by
  subst h
  exact congrArg (a + ·) (show sof 26 0 = 10 by decide +kernel)
theorem sA_26_1 (a : Nat) {x : Int} (h : x = 1) : sAl a 26 x = a + 22 := by
  subst h
  exact congrArg (a + ·) (show sof 26 1 = 22 by decide +kernel)
theorem sA_27_0 (a : Nat) {x : Int} (h : x = 0) : sAl a 27 x = a + 12 := by
  subst h
  exact congrArg (a + ·) (show sof 27 0 = 12 by decide +kernel)
theorem sA_27_1 (a : Nat) {x : Int} (h : x = 1) : sAl a 27 x = a + 14 := by
  subst h
  exact congrArg (a + ·) (show sof 27 1 = 14 by decide +kernel)
theorem sA_27_2 (a : Nat) {x : Int} (h : x = 2) : sAl a 27 x = a + 24 := by
  subst h
  exact congrArg (a + ·) (show sof 27 2 = 24 by decide +kernel)
theorem sA_27_3 (a : Nat) {x : Int} (h : x = 3) : sAl a 27 x = a + 26 := by
  subst h
  exact congrArg (a + ·) (show sof 27 3 = 26 by decide +kernel)
theorem sA_28_0 (a : Nat) {x : Int} (h : x = 0) : sAl a 28 x = a + 16 := by
  subst h
  exact congrArg (a + ·) (show sof 28 0 = 16 by decide +kernel)
theorem sA_28_1 (a : Nat) {x : Int} (h : x = 1) : sAl a 28 x = a + 28 := by
  subst h
  exact congrArg (a + ·) (show sof 28 1 = 28 by decide +kernel)
theorem sA_29_0 (a : Nat) {x : Int} (h : x = 0) : sAl a 29 x = a + 17 := by
  subst h
  exact congrArg (a + ·) (show sof 29 0 = 17 by decide +kernel)
theorem sA_29_1 (a : Nat) {x : Int} (h : x = 1) : sAl a 29 x = a + 29 := by
  subst h
  exact congrArg (a + ·) (show sof 29 1 = 29 by decide +kernel)
theorem sA_102_0 (a : Nat) {x : Int} (h : x = 0) : sAl a 102 x = a + 31 := by
  subst h
  exact congrArg (a + ·) (show sof 102 0 = 31 by decide +kernel)
theorem sA_103_0 (a : Nat) {x : Int} (h : x = 0) : sAl a 103 x = a + 32 := by
  subst h
  exact congrArg (a + ·) (show sof 103 0 = 32 by decide +kernel)
theorem sA_104_0 (a : Nat) {x : Int} (h : x = 0) : sAl a 104 x = a + 33 := by
  subst h
  exact congrArg (a + ·) (show sof 104 0 = 33 by decide +kernel)
theorem sA_105_0 (a : Nat) {x : Int} (h : x = 0) : sAl a 105 x = a + 34 := by
  subst h
  exact congrArg (a + ·) (show sof 105 0 = 34 by decide +kernel)
theorem sA_106_0 (a : Nat) {x : Int} (h : x = 0) : sAl a 106 x = a + 35 := by
  subst h
  exact congrArg (a + ·) (show sof 106 0 = 35 by decide +kernel)
theorem sA_107_0 (a : Nat) {x : Int} (h : x = 0) : sAl a 107 x = a + 36 := by
  subst h
  exact congrArg (a + ·) (show sof 107 0 = 36 by decide +kernel)
theorem sA_108_0 (a : Nat) {x : Int} (h : x = 0) : sAl a 108 x = a + 37 := by
  subst h
  exact congrArg (a + ·) (show sof 108 0 = 37 by decide +kernel)
theorem sA_109_0 (a : Nat) {x : Int} (h : x = 0) : sAl a 109 x = a + 38 := by
  subst h
  exact congrArg (a + ·) (show sof 109 0 = 38 by decide +kernel)
theorem sA_110_0 (a : Nat) {x : Int} (h : x = 0) : sAl a 110 x = a + 39 := by
  subst h
  exact congrArg (a + ·) (show sof 110 0 = 39 by decide +kernel)
theorem sA_111_0 (a : Nat) {x : Int} (h : x = 0) : sAl a 111 x = a + 40 := by
  subst h
  exact congrArg (a + ·) (show sof 111 0 = 40 by decide +kernel)
theorem sA_112_0 (a : Nat) {x : Int} (h : x = 0) : sAl a 112 x = a + 41 := by
  subst h
  exact congrArg (a + ·) (show sof 112 0 = 41 by decide +kernel)
theorem sA_113_0 (a : Nat) {x : Int} (h : x = 0) : sAl a 113 x = a + 42 := by
  subst h
  exact congrArg (a + ·) (show sof 113 0 = 42 by decide +kernel)
theorem sA_115_0 (a : Nat) {x : Int} (h : x = 0) : sAl a 115 x = a + 43 := by
  subst h
  exact congrArg (a + ·) (show sof 115 0 = 43 by decide +kernel)
theorem sA_116_0 (a : Nat) {x : Int} (h : x = 0) : sAl a 116 x = a + 44 := by
  subst h
  exact congrArg (a + ·) (show sof 116 0 = 44 by decide +kernel)
theorem sA_117_0 (a : Nat) {x : Int} (h : x = 0) : sAl a 117 x = a + 45 := by
  subst h
  exact congrArg (a + ·) (show sof 117 0 = 45 by decide +kernel)
theorem sA_118_0 (a : Nat) {x : Int} (h : x = 0) : sAl a 118 x = a + 46 := by
  subst h
  exact congrArg (a + ·) (show sof 118 0 = 46 by decide +kernel)
theorem sA_119_0 (a : Nat) {x : Int} (h : x = 0) : sAl a 119 x = a + 47 := by
  subst h
  exact congrArg (a + ·) (show sof 119 0 = 47 by decide +kernel)
theorem sA_120_0 (a : Nat) {x : Int} (h : x = 0) : sAl a 120 x = a + 48 := by
  subst h
  exact congrArg (a + ·) (show sof 120 0 = 48 by decide +kernel)
theorem sA_121_0 (a : Nat) {x : Int} (h : x = 0) : sAl a 121 x = a + 49 := by
  subst h
  exact congrArg (a + ·) (show sof 121 0 = 49 by decide +kernel)
theorem sA_122_0 (a : Nat) {x : Int} (h : x = 0) : sAl a 122 x = a + 50 := by
  subst h
  exact congrArg (a + ·) (show sof 122 0 = 50 by decide +kernel)
theorem sA_123_0 (a : Nat) {x : Int} (h : x = 0) : sAl a 123 x = a + 51 := by
  subst h
  exact congrArg (a + ·) (show sof 123 0 = 51 by decide +kernel)
theorem sA_124_0 (a : Nat) {x : Int} (h : x = 0) : sAl a 124 x = a + 52 := by
  subst h
  exact congrArg (a + ·) (show sof 124 0 = 52 by decide +kernel)
theorem sA_125_0 (a : Nat) {x : Int} (h : x = 0) : sAl a 125 x = a + 53 := by
  subst h
  exact congrArg (a + ·) (show sof 125 0 = 53 by decide +kernel)
theorem sA_126_0 (a : Nat) {x : Int} (h : x = 0) : sAl a 126 x = a + 54 := by
  subst h
  exact congrArg (a + ·) (show sof 126 0 = 54 by decide +kernel)
theorem sA_127_0 (a : Nat) {x : Int} (h : x = 0) : sAl a 127 x = a + 55 := by
  subst h
  exact congrArg (a + ·) (show sof 127 0 = 55 by decide +kernel)
theorem sA_129_0 (a : Nat) {x : Int} (h : x = 0) : sAl a 129 x = a + 56 := by
  subst h
  exact congrArg (a + ·) (show sof 129 0 = 56 by decide +kernel)
theorem sA_130_0 (a : Nat) {x : Int} (h : x = 0) : sAl a 130 x = a + 57 := by
  subst h
  exact congrArg (a + ·) (show sof 130 0 = 57 by decide +kernel)
theorem sA_131_0 (a : Nat) {x : Int} (h : x = 0) : sAl a 131 x = a + 58 := by
  subst h
  exact congrArg (a + ·) (show sof 131 0 = 58 by decide +kernel)
theorem sA_132_0 (a : Nat) {x : Int} (h : x = 0) : sAl a 132 x = a + 59 := by
  subst h
  exact congrArg (a + ·) (show sof 132 0 = 59 by decide +kernel)
theorem sA_133_0 (a : Nat) {x : Int} (h : x = 0) : sAl a 133 x = a + 60 := by
  subst h
  exact congrArg (a + ·) (show sof 133 0 = 60 by decide +kernel)
theorem sA_134_0 (a : Nat) {x : Int} (h : x = 0) : sAl a 134 x = a + 61 := by
  subst h
  exact congrArg (a + ·) (show sof 134 0 = 61 by decide +kernel)
theorem sA_135_0 (a : Nat) {x : Int} (h : x = 0) : sAl a 135 x = a + 62 := by
  subst h
  exact congrArg (a + ·) (show sof 135 0 = 62 by decide +kernel)
theorem sA_136_0 (a : Nat) {x : Int} (h : x = 0) : sAl a 136 x = a + 63 := by
  subst h
  exact congrArg (a + ·) (show sof 136 0 = 63 by decide +kernel)
theorem sA_137_0 (a : Nat) {x : Int} (h : x = 0) : sAl a 137 x = a + 64 := by
  subst h
  exact congrArg (a + ·) (show sof 137 0 = 64 by decide +kernel)
theorem sA_138_0 (a : Nat) {x : Int} (h : x = 0) : sAl a 138 x = a + 65 := by
  subst h
  exact congrArg (a + ·) (show sof 138 0 = 65 by decide +kernel)
theorem sA_139_0 (a : Nat) {x : Int} (h : x = 0) : sAl a 139 x = a + 66 := by
  subst h
  exact congrArg (a + ·) (show sof 139 0 = 66 by decide +kernel)
theorem sA_140_0 (a : Nat) {x : Int} (h : x = 0) : sAl a 140 x = a + 67 := by
  subst h
  exact congrArg (a + ·) (show sof 140 0 = 67 by decide +kernel)
theorem sA_141_0 (a : Nat) {x : Int} (h : x = 0) : sAl a 141 x = a + 68 := by
  subst h
  exact congrArg (a + ·) (show sof 141 0 = 68 by decide +kernel)
theorem sA_143_0 (a : Nat) {x : Int} (h : x = 0) : sAl a 143 x = a + 69 := by
  subst h
  exact congrArg (a + ·) (show sof 143 0 = 69 by decide +kernel)
theorem sA_144_0 (a : Nat) {x : Int} (h : x = 0) : sAl a 144 x = a + 70 := by
  subst h
  exact congrArg (a + ·) (show sof 144 0 = 70 by decide +kernel)
theorem sA_145_0 (a : Nat) {x : Int} (h : x = 0) : sAl a 145 x = a + 71 := by
  subst h
  exact congrArg (a + ·) (show sof 145 0 = 71 by decide +kernel)
theorem sA_146_0 (a : Nat) {x : Int} (h : x = 0) : sAl a 146 x = a + 72 := by
  subst h
  exact congrArg (a + ·) (show sof 146 0 = 72 by decide +kernel)
theorem sA_147_0 (a : Nat) {x : Int} (h : x = 0) : sAl a 147 x = a + 73 := by
  subst h
  exact congrArg (a + ·) (show sof 147 0 = 73 by decide +kernel)
theorem sA_148_0 (a : Nat) {x : Int} (h : x = 0) : sAl a 148 x = a + 74 := by
  subst h
  exact congrArg (a + ·) (show sof 148 0 = 74 by decide +kernel)
theorem sA_149_0 (a : Nat) {x : Int} (h : x = 0) : sAl a 149 x = a + 75 := by
  subst h
  exact congrArg (a + ·) (show sof 149 0 = 75 by decide +kernel)
theorem sA_150_0 (a : Nat) {x : Int} (h : x = 0) : sAl a 150 x = a + 76 := by
  subst h
  exact congrArg (a + ·) (show sof 150 0 = 76 by decide +kernel)
theorem sd_0 {w : Wd} {α : Al} {t : St} {k : Nat} {n : Int} (hk : Nat.ble k 12 = false) (hz : ∀ j, gm t k n j = 0) (ht : (aty k).1 = 0 ∨ (aty k).1 = 1 ∨ (aty k).1 = 2) : ent w α t k n = dar w k := by
  rw [ent_arr hk]
  unfold avl dar
  simp only [hz, i32_0]
  rcases ht with e | e | e <;> rw [e] <;> rfl
theorem ro_1 (α : Al) (k : Nat) : ro α k (-1) = none := rfl
theorem sd_1 {w : Wd} {α : Al} {t : St} {k : Nat} {n : Int} (hk : Nat.ble k 12 = false) (hz : ∀ j, gm t k n j = -1) (ht : (aty k).1 = 3 ∨ (aty k).1 = 5 ∨ (aty k).1 = 6 ∨ (aty k).1 = 7) : ent w α t k n = dar w k := by
  rw [ent_arr hk]
  unfold avl dar
  simp only [hz]
  rcases ht with e | e | e | e <;> rw [e] <;> rfl
theorem se_11_0 (w : Wd) (a L : Nat) (xs : Nat → Int32) : ent w (sAl a) (sT L xs) 11 ((0 : Nat) : Int) = .inr (11, (trX11_init w (a + 1) []).1) := by
  rw [ent_obj (by decide)]
  have e : (List.range (nfl 11)).map (fvl (sAl a) (sT L xs) 11 ((0 : Nat) : Int)) = [Value.ref (sAl a 13 ((0 : Nat) : Int)), Value.ref (sAl a 14 ((0 : Nat) : Int)), Value.ref (sAl a 9 ((0 : Nat) : Int)), Value.int (i32 (0)), Value.int (i32 (0)), Value.int (i32 (-1)), Value.int (i32 (0))] := rfl
  rw [e, sA_13_0 a (x := ((0 : Nat) : Int)) rfl, sA_14_0 a (x := ((0 : Nat) : Int)) rfl, sA_9_0 a (x := ((0 : Nat) : Int)) rfl]
  try simp only [i32_0]
  rfl
theorem se_13_0 (w : Wd) (a L : Nat) (xs : Nat → Int32) : ent w (sAl a) (sT L xs) 13 ((0 : Nat) : Int) = dar w 13 := sd_1 rfl (fun _ => rfl) (Or.inl rfl)
theorem se_14_0 (w : Wd) (a L : Nat) (xs : Nat → Int32) : ent w (sAl a) (sT L xs) 14 ((0 : Nat) : Int) = .inl (w.2.1 4, 2, .inr (.inr (.inr (.inr (va_up (va_up (fun _ => none) 0 (some (a + 1 + 5))) 1 (some (a + 1 + 17))))))) := by
  rw [ent_arr (by decide)]
  have e : avl (sAl a) (sT L xs) 14 ((0 : Nat) : Int) = (2, .inr (.inr (.inr (.inr (fun i : Nat => ro (sAl a) 0 (gm (sT L xs) 14 ((0 : Nat) : Int) i)))))) := rfl
  rw [e]
  have h : (fun i : Nat => ro (sAl a) 0 (gm (sT L xs) 14 ((0 : Nat) : Int) i)) = va_up (va_up (fun _ => none) 0 (some (a + 1 + 5))) 1 (some (a + 1 + 17)) := by
    funext i
    have eg : gm (sT L xs) 14 ((0 : Nat) : Int) i = if (i : Int) = 0 then 0 else if (i : Int) = 1 then 1 else -1 := rfl
    rw [eg]
    unfold va_up
    by_cases h0 : i = 0
    · subst h0
      show ro (sAl a) 0 0 = some (a + 1 + 5)
      show some (sAl a 0 0) = _
      rw [show sAl a 0 0 = a + 6 from congrArg (a + ·) (show sof 0 0 = 6 by decide +kernel)]
    · by_cases h1 : i = 1
      · subst h1
        show some (sAl a 0 1) = some (a + 1 + 17)
        rw [show sAl a 0 1 = a + 18 from congrArg (a + ·) (show sof 0 1 = 18 by decide +kernel)]
      · rw [if_neg (show ¬ (i : Int) = 0 by omega), if_neg (show ¬ (i : Int) = 1 by omega), if_neg h1, if_neg h0]
        rfl
  rw [h]
  rfl
theorem se_9_0 (w : Wd) (a L : Nat) (xs : Nat → Int32) : ent w (sAl a) (sT L xs) 9 ((0 : Nat) : Int) = .inr (9, (trX9_init w (a + 1 + 3) []).1) := by
  rw [ent_obj (by decide)]
  have e : (List.range (nfl 9)).map (fvl (sAl a) (sT L xs) 9 ((0 : Nat) : Int)) = [Value.ref (sAl a 22 ((0 : Nat) : Int)), Value.ref (sAl a 23 ((0 : Nat) : Int)), Value.int (i32 (0))] := rfl
  rw [e, sA_22_0 a (x := ((0 : Nat) : Int)) rfl, sA_23_0 a (x := ((0 : Nat) : Int)) rfl]
  try simp only [i32_0]
  rfl
theorem se_22_0 (w : Wd) (a L : Nat) (xs : Nat → Int32) : ent w (sAl a) (sT L xs) 22 ((0 : Nat) : Int) = dar w 22 := sd_1 rfl (fun _ => rfl) (Or.inr (Or.inr (Or.inl rfl)))
theorem se_23_0 (w : Wd) (a L : Nat) (xs : Nat → Int32) : ent w (sAl a) (sT L xs) 23 ((0 : Nat) : Int) = dar w 23 := sd_0 rfl (fun _ => rfl) (Or.inr (Or.inl rfl))
theorem se_0_0 (w : Wd) (a L : Nat) (xs : Nat → Int32) : ent w (sAl a) (sT L xs) 0 ((0 : Nat) : Int) = .inr (0, (trX0_init w (a + 1 + 6) [0]).1) := by
  rw [ent_obj (by decide)]
  have e : (List.range (nfl 0)).map (fvl (sAl a) (sT L xs) 0 ((0 : Nat) : Int)) = [Value.int (i32 (0)), Value.ref (sAl a 3 ((0 : Nat) : Int)), Value.ref (sAl a 4 (2 * ((0 : Nat) : Int))), Value.ref (sAl a 4 (2 * ((0 : Nat) : Int) + 1)), Value.ref (sAl a 1 ((0 : Nat) : Int)), Value.int (i32 (-1))] := rfl
  rw [e, sA_3_0 a (x := ((0 : Nat) : Int)) rfl, sA_4_0 a (x := (2 * ((0 : Nat) : Int))) rfl, sA_4_1 a (x := (2 * ((0 : Nat) : Int) + 1)) rfl, sA_1_0 a (x := ((0 : Nat) : Int)) rfl]
  try simp only [i32_0]
  rfl
theorem se_3_0 (w : Wd) (a L : Nat) (xs : Nat → Int32) : ent w (sAl a) (sT L xs) 3 ((0 : Nat) : Int) = .inr (3, (trX3_init w (a + 1 + 7) []).1) := by
  rw [ent_obj (by decide)]
  have e : (List.range (nfl 3)).map (fvl (sAl a) (sT L xs) 3 ((0 : Nat) : Int)) = [Value.ref (sAl a 24 ((0 : Nat) : Int)), Value.ref (sAl a 25 ((0 : Nat) : Int)), Value.ref (sAl a 26 ((0 : Nat) : Int)), Value.int (i32 (0))] := rfl
  rw [e, sA_24_0 a (x := ((0 : Nat) : Int)) rfl, sA_25_0 a (x := ((0 : Nat) : Int)) rfl, sA_26_0 a (x := ((0 : Nat) : Int)) rfl]
  try simp only [i32_0]
  rfl
theorem se_24_0 (w : Wd) (a L : Nat) (xs : Nat → Int32) : ent w (sAl a) (sT L xs) 24 ((0 : Nat) : Int) = dar w 24 := sd_0 rfl (fun _ => rfl) (Or.inl rfl)
theorem se_25_0 (w : Wd) (a L : Nat) (xs : Nat → Int32) : ent w (sAl a) (sT L xs) 25 ((0 : Nat) : Int) = dar w 25 := sd_0 rfl (fun _ => rfl) (Or.inl rfl)
theorem se_26_0 (w : Wd) (a L : Nat) (xs : Nat → Int32) : ent w (sAl a) (sT L xs) 26 ((0 : Nat) : Int) = dar w 26 := sd_1 rfl (fun _ => rfl) (Or.inr (Or.inr (Or.inl rfl)))
theorem se_4_0 (w : Wd) (a L : Nat) (xs : Nat → Int32) : ent w (sAl a) (sT L xs) 4 ((0 : Nat) : Int) = .inr (4, (trX4_init w (a + 1 + 11) []).1) := by
  rw [ent_obj (by decide)]
  have e : (List.range (nfl 4)).map (fvl (sAl a) (sT L xs) 4 ((0 : Nat) : Int)) = [Value.ref (sAl a 27 ((0 : Nat) : Int)), Value.int (i32 (0))] := rfl
  rw [e, sA_27_0 a (x := ((0 : Nat) : Int)) rfl]
  try simp only [i32_0]
  rfl
theorem se_27_0 (w : Wd) (a L : Nat) (xs : Nat → Int32) : ent w (sAl a) (sT L xs) 27 ((0 : Nat) : Int) = dar w 27 := sd_1 rfl (fun _ => rfl) (Or.inl rfl)
theorem se_4_1 (w : Wd) (a L : Nat) (xs : Nat → Int32) : ent w (sAl a) (sT L xs) 4 ((1 : Nat) : Int) = .inr (4, (trX4_init w (a + 1 + 13) []).1) := by
  rw [ent_obj (by decide)]
  have e : (List.range (nfl 4)).map (fvl (sAl a) (sT L xs) 4 ((1 : Nat) : Int)) = [Value.ref (sAl a 27 ((1 : Nat) : Int)), Value.int (i32 (0))] := rfl
  rw [e, sA_27_1 a (x := ((1 : Nat) : Int)) rfl]
  try simp only [i32_0]
  rfl
theorem se_27_1 (w : Wd) (a L : Nat) (xs : Nat → Int32) : ent w (sAl a) (sT L xs) 27 ((1 : Nat) : Int) = dar w 27 := sd_1 rfl (fun _ => rfl) (Or.inl rfl)
theorem se_1_0 (w : Wd) (a L : Nat) (xs : Nat → Int32) : ent w (sAl a) (sT L xs) 1 ((0 : Nat) : Int) = .inr (1, (trX1_init w (a + 1 + 15) []).1) := by
  rw [ent_obj (by decide)]
  have e : (List.range (nfl 1)).map (fvl (sAl a) (sT L xs) 1 ((0 : Nat) : Int)) = [Value.ref (sAl a 28 ((0 : Nat) : Int)), Value.ref (sAl a 29 ((0 : Nat) : Int)), Value.int (i32 (0)), Value.int (i32 (0)), Value.int (i32 (1)), Value.int (i32 (200)), Value.int (i32 (0)), Value.int (i32 (0))] := rfl
  rw [e, sA_28_0 a (x := ((0 : Nat) : Int)) rfl, sA_29_0 a (x := ((0 : Nat) : Int)) rfl]
  try simp only [i32_0]
  rfl
theorem se_28_0 (w : Wd) (a L : Nat) (xs : Nat → Int32) : ent w (sAl a) (sT L xs) 28 ((0 : Nat) : Int) = dar w 28 := sd_1 rfl (fun _ => rfl) (Or.inr (Or.inr (Or.inr rfl)))
theorem se_29_0 (w : Wd) (a L : Nat) (xs : Nat → Int32) : ent w (sAl a) (sT L xs) 29 ((0 : Nat) : Int) = dar w 29 := sd_0 rfl (fun _ => rfl) (Or.inl rfl)
theorem se_0_1 (w : Wd) (a L : Nat) (xs : Nat → Int32) : ent w (sAl a) (sT L xs) 0 ((1 : Nat) : Int) = .inr (0, (trX0_init w (a + 1 + 18) [1]).1) := by
  rw [ent_obj (by decide)]
  have e : (List.range (nfl 0)).map (fvl (sAl a) (sT L xs) 0 ((1 : Nat) : Int)) = [Value.int (i32 (1)), Value.ref (sAl a 3 ((1 : Nat) : Int)), Value.ref (sAl a 4 (2 * ((1 : Nat) : Int))), Value.ref (sAl a 4 (2 * ((1 : Nat) : Int) + 1)), Value.ref (sAl a 1 ((1 : Nat) : Int)), Value.int (i32 (-1))] := rfl
  rw [e, sA_3_1 a (x := ((1 : Nat) : Int)) rfl, sA_4_2 a (x := (2 * ((1 : Nat) : Int))) rfl, sA_4_3 a (x := (2 * ((1 : Nat) : Int) + 1)) rfl, sA_1_1 a (x := ((1 : Nat) : Int)) rfl]
  try simp only [i32_0]
  rfl
theorem se_3_1 (w : Wd) (a L : Nat) (xs : Nat → Int32) : ent w (sAl a) (sT L xs) 3 ((1 : Nat) : Int) = .inr (3, (trX3_init w (a + 1 + 19) []).1) := by
  rw [ent_obj (by decide)]
  have e : (List.range (nfl 3)).map (fvl (sAl a) (sT L xs) 3 ((1 : Nat) : Int)) = [Value.ref (sAl a 24 ((1 : Nat) : Int)), Value.ref (sAl a 25 ((1 : Nat) : Int)), Value.ref (sAl a 26 ((1 : Nat) : Int)), Value.int (i32 (0))] := rfl
  rw [e, sA_24_1 a (x := ((1 : Nat) : Int)) rfl, sA_25_1 a (x := ((1 : Nat) : Int)) rfl, sA_26_1 a (x := ((1 : Nat) : Int)) rfl]
  try simp only [i32_0]
  rfl
theorem se_24_1 (w : Wd) (a L : Nat) (xs : Nat → Int32) : ent w (sAl a) (sT L xs) 24 ((1 : Nat) : Int) = dar w 24 := sd_0 rfl (fun _ => rfl) (Or.inl rfl)
theorem se_25_1 (w : Wd) (a L : Nat) (xs : Nat → Int32) : ent w (sAl a) (sT L xs) 25 ((1 : Nat) : Int) = dar w 25 := sd_0 rfl (fun _ => rfl) (Or.inl rfl)
theorem se_26_1 (w : Wd) (a L : Nat) (xs : Nat → Int32) : ent w (sAl a) (sT L xs) 26 ((1 : Nat) : Int) = dar w 26 := sd_1 rfl (fun _ => rfl) (Or.inr (Or.inr (Or.inl rfl)))
theorem se_4_2 (w : Wd) (a L : Nat) (xs : Nat → Int32) : ent w (sAl a) (sT L xs) 4 ((2 : Nat) : Int) = .inr (4, (trX4_init w (a + 1 + 23) []).1) := by
  rw [ent_obj (by decide)]
  have e : (List.range (nfl 4)).map (fvl (sAl a) (sT L xs) 4 ((2 : Nat) : Int)) = [Value.ref (sAl a 27 ((2 : Nat) : Int)), Value.int (i32 (0))] := rfl
  rw [e, sA_27_2 a (x := ((2 : Nat) : Int)) rfl]
  try simp only [i32_0]
  rfl
theorem se_27_2 (w : Wd) (a L : Nat) (xs : Nat → Int32) : ent w (sAl a) (sT L xs) 27 ((2 : Nat) : Int) = dar w 27 := sd_1 rfl (fun _ => rfl) (Or.inl rfl)
theorem se_4_3 (w : Wd) (a L : Nat) (xs : Nat → Int32) : ent w (sAl a) (sT L xs) 4 ((3 : Nat) : Int) = .inr (4, (trX4_init w (a + 1 + 25) []).1) := by
  rw [ent_obj (by decide)]
  have e : (List.range (nfl 4)).map (fvl (sAl a) (sT L xs) 4 ((3 : Nat) : Int)) = [Value.ref (sAl a 27 ((3 : Nat) : Int)), Value.int (i32 (0))] := rfl
  rw [e, sA_27_3 a (x := ((3 : Nat) : Int)) rfl]
  try simp only [i32_0]
  rfl
theorem se_27_3 (w : Wd) (a L : Nat) (xs : Nat → Int32) : ent w (sAl a) (sT L xs) 27 ((3 : Nat) : Int) = dar w 27 := sd_1 rfl (fun _ => rfl) (Or.inl rfl)
theorem se_1_1 (w : Wd) (a L : Nat) (xs : Nat → Int32) : ent w (sAl a) (sT L xs) 1 ((1 : Nat) : Int) = .inr (1, (trX1_init w (a + 1 + 27) []).1) := by
  rw [ent_obj (by decide)]
  have e : (List.range (nfl 1)).map (fvl (sAl a) (sT L xs) 1 ((1 : Nat) : Int)) = [Value.ref (sAl a 28 ((1 : Nat) : Int)), Value.ref (sAl a 29 ((1 : Nat) : Int)), Value.int (i32 (0)), Value.int (i32 (0)), Value.int (i32 (1)), Value.int (i32 (200)), Value.int (i32 (0)), Value.int (i32 (0))] := rfl
  rw [e, sA_28_1 a (x := ((1 : Nat) : Int)) rfl, sA_29_1 a (x := ((1 : Nat) : Int)) rfl]
  try simp only [i32_0]
  rfl
theorem se_28_1 (w : Wd) (a L : Nat) (xs : Nat → Int32) : ent w (sAl a) (sT L xs) 28 ((1 : Nat) : Int) = dar w 28 := sd_1 rfl (fun _ => rfl) (Or.inr (Or.inr (Or.inr rfl)))
theorem se_29_1 (w : Wd) (a L : Nat) (xs : Nat → Int32) : ent w (sAl a) (sT L xs) 29 ((1 : Nat) : Int) = dar w 29 := sd_0 rfl (fun _ => rfl) (Or.inl rfl)
theorem t12_dfs : dfs 12 = [Value.int 0, Value.int 0, Value.null, Value.null, Value.null, Value.null, Value.null, Value.null, Value.null, Value.null, Value.null, Value.null, Value.null, Value.null, Value.int 0, Value.null, Value.null, Value.null, Value.null, Value.null, Value.null, Value.null, Value.null, Value.null, Value.null, Value.null, Value.null, Value.null, Value.int 0, Value.null, Value.null, Value.null, Value.null, Value.null, Value.null, Value.null, Value.null, Value.null, Value.null, Value.null, Value.null, Value.null, Value.int 0, Value.null, Value.null, Value.null, Value.null, Value.null, Value.null, Value.null, Value.null, Value.int 0] := rfl
theorem t12_eq (w : Wd) (sz : Nat) : (trX12_init w sz []).1 = [Value.int 0, Value.int 0, Value.ref (sz + 0), Value.ref (sz + 1), Value.ref (sz + 2), Value.ref (sz + 3), Value.ref (sz + 4), Value.ref (sz + 5), Value.ref (sz + 6), Value.ref (sz + 7), Value.ref (sz + 8), Value.ref (sz + 9), Value.ref (sz + 10), Value.ref (sz + 11), Value.int 0, Value.ref (sz + 12), Value.ref (sz + 13), Value.ref (sz + 14), Value.ref (sz + 15), Value.ref (sz + 16), Value.ref (sz + 17), Value.ref (sz + 18), Value.ref (sz + 19), Value.ref (sz + 20), Value.ref (sz + 21), Value.ref (sz + 22), Value.ref (sz + 23), Value.ref (sz + 24), Value.int (i32 (-1)), Value.ref (sz + 25), Value.ref (sz + 26), Value.ref (sz + 27), Value.ref (sz + 28), Value.ref (sz + 29), Value.ref (sz + 30), Value.ref (sz + 31), Value.ref (sz + 32), Value.ref (sz + 33), Value.ref (sz + 34), Value.ref (sz + 35), Value.ref (sz + 36), Value.ref (sz + 37), Value.int 0, Value.ref (sz + 38), Value.ref (sz + 39), Value.ref (sz + 40), Value.ref (sz + 41), Value.ref (sz + 42), Value.ref (sz + 43), Value.ref (sz + 44), Value.ref (sz + 45), Value.int 0] := by
  unfold trX12_init
  simp only [t12_dfs, List.set_cons_zero, List.set_cons_succ]
theorem se_12_0 (w : Wd) (a L : Nat) (xs : Nat → Int32) : ent w (sAl a) (sT L xs) 12 ((0 : Nat) : Int) = .inr (12, (trX12_init w (a + 31) []).1) := by
  rw [ent_obj (by decide)]
  have e : (List.range (nfl 12)).map (fvl (sAl a) (sT L xs) 12 ((0 : Nat) : Int)) = [Value.int (i32 (0)), Value.int (i32 (0)), Value.ref (sAl a 102 ((0 : Nat) : Int)), Value.ref (sAl a 103 ((0 : Nat) : Int)), Value.ref (sAl a 104 ((0 : Nat) : Int)), Value.ref (sAl a 105 ((0 : Nat) : Int)), Value.ref (sAl a 106 ((0 : Nat) : Int)), Value.ref (sAl a 107 ((0 : Nat) : Int)), Value.ref (sAl a 108 ((0 : Nat) : Int)), Value.ref (sAl a 109 ((0 : Nat) : Int)), Value.ref (sAl a 110 ((0 : Nat) : Int)), Value.ref (sAl a 111 ((0 : Nat) : Int)), Value.ref (sAl a 112 ((0 : Nat) : Int)), Value.ref (sAl a 113 ((0 : Nat) : Int)), Value.int (i32 (0)), Value.ref (sAl a 115 ((0 : Nat) : Int)), Value.ref (sAl a 116 ((0 : Nat) : Int)), Value.ref (sAl a 117 ((0 : Nat) : Int)), Value.ref (sAl a 118 ((0 : Nat) : Int)), Value.ref (sAl a 119 ((0 : Nat) : Int)), Value.ref (sAl a 120 ((0 : Nat) : Int)), Value.ref (sAl a 121 ((0 : Nat) : Int)), Value.ref (sAl a 122 ((0 : Nat) : Int)), Value.ref (sAl a 123 ((0 : Nat) : Int)), Value.ref (sAl a 124 ((0 : Nat) : Int)), Value.ref (sAl a 125 ((0 : Nat) : Int)), Value.ref (sAl a 126 ((0 : Nat) : Int)), Value.ref (sAl a 127 ((0 : Nat) : Int)), Value.int (i32 (-1)), Value.ref (sAl a 129 ((0 : Nat) : Int)), Value.ref (sAl a 130 ((0 : Nat) : Int)), Value.ref (sAl a 131 ((0 : Nat) : Int)), Value.ref (sAl a 132 ((0 : Nat) : Int)), Value.ref (sAl a 133 ((0 : Nat) : Int)), Value.ref (sAl a 134 ((0 : Nat) : Int)), Value.ref (sAl a 135 ((0 : Nat) : Int)), Value.ref (sAl a 136 ((0 : Nat) : Int)), Value.ref (sAl a 137 ((0 : Nat) : Int)), Value.ref (sAl a 138 ((0 : Nat) : Int)), Value.ref (sAl a 139 ((0 : Nat) : Int)), Value.ref (sAl a 140 ((0 : Nat) : Int)), Value.ref (sAl a 141 ((0 : Nat) : Int)), Value.int (i32 (0)), Value.ref (sAl a 143 ((0 : Nat) : Int)), Value.ref (sAl a 144 ((0 : Nat) : Int)), Value.ref (sAl a 145 ((0 : Nat) : Int)), Value.ref (sAl a 146 ((0 : Nat) : Int)), Value.ref (sAl a 147 ((0 : Nat) : Int)), Value.ref (sAl a 148 ((0 : Nat) : Int)), Value.ref (sAl a 149 ((0 : Nat) : Int)), Value.ref (sAl a 150 ((0 : Nat) : Int)), Value.int (i32 (0))] := rfl
  rw [e, sA_102_0 a (x := ((0 : Nat) : Int)) rfl, sA_103_0 a (x := ((0 : Nat) : Int)) rfl, sA_104_0 a (x := ((0 : Nat) : Int)) rfl, sA_105_0 a (x := ((0 : Nat) : Int)) rfl, sA_106_0 a (x := ((0 : Nat) : Int)) rfl, sA_107_0 a (x := ((0 : Nat) : Int)) rfl, sA_108_0 a (x := ((0 : Nat) : Int)) rfl, sA_109_0 a (x := ((0 : Nat) : Int)) rfl, sA_110_0 a (x := ((0 : Nat) : Int)) rfl, sA_111_0 a (x := ((0 : Nat) : Int)) rfl, sA_112_0 a (x := ((0 : Nat) : Int)) rfl, sA_113_0 a (x := ((0 : Nat) : Int)) rfl, sA_115_0 a (x := ((0 : Nat) : Int)) rfl, sA_116_0 a (x := ((0 : Nat) : Int)) rfl, sA_117_0 a (x := ((0 : Nat) : Int)) rfl, sA_118_0 a (x := ((0 : Nat) : Int)) rfl, sA_119_0 a (x := ((0 : Nat) : Int)) rfl, sA_120_0 a (x := ((0 : Nat) : Int)) rfl, sA_121_0 a (x := ((0 : Nat) : Int)) rfl, sA_122_0 a (x := ((0 : Nat) : Int)) rfl, sA_123_0 a (x := ((0 : Nat) : Int)) rfl, sA_124_0 a (x := ((0 : Nat) : Int)) rfl, sA_125_0 a (x := ((0 : Nat) : Int)) rfl, sA_126_0 a (x := ((0 : Nat) : Int)) rfl, sA_127_0 a (x := ((0 : Nat) : Int)) rfl, sA_129_0 a (x := ((0 : Nat) : Int)) rfl, sA_130_0 a (x := ((0 : Nat) : Int)) rfl, sA_131_0 a (x := ((0 : Nat) : Int)) rfl, sA_132_0 a (x := ((0 : Nat) : Int)) rfl, sA_133_0 a (x := ((0 : Nat) : Int)) rfl, sA_134_0 a (x := ((0 : Nat) : Int)) rfl, sA_135_0 a (x := ((0 : Nat) : Int)) rfl, sA_136_0 a (x := ((0 : Nat) : Int)) rfl, sA_137_0 a (x := ((0 : Nat) : Int)) rfl, sA_138_0 a (x := ((0 : Nat) : Int)) rfl, sA_139_0 a (x := ((0 : Nat) : Int)) rfl, sA_140_0 a (x := ((0 : Nat) : Int)) rfl, sA_141_0 a (x := ((0 : Nat) : Int)) rfl, sA_143_0 a (x := ((0 : Nat) : Int)) rfl, sA_144_0 a (x := ((0 : Nat) : Int)) rfl, sA_145_0 a (x := ((0 : Nat) : Int)) rfl, sA_146_0 a (x := ((0 : Nat) : Int)) rfl, sA_147_0 a (x := ((0 : Nat) : Int)) rfl, sA_148_0 a (x := ((0 : Nat) : Int)) rfl, sA_149_0 a (x := ((0 : Nat) : Int)) rfl, sA_150_0 a (x := ((0 : Nat) : Int)) rfl]
  rw [t12_eq]
  simp only [i32_0]
theorem se_102_0 (w : Wd) (a L : Nat) (xs : Nat → Int32) : ent w (sAl a) (sT L xs) 102 ((0 : Nat) : Int) = dar w 102 := sd_0 rfl (fun _ => rfl) (Or.inl rfl)
theorem se_103_0 (w : Wd) (a L : Nat) (xs : Nat → Int32) : ent w (sAl a) (sT L xs) 103 ((0 : Nat) : Int) = dar w 103 := sd_0 rfl (fun _ => rfl) (Or.inl rfl)
theorem se_104_0 (w : Wd) (a L : Nat) (xs : Nat → Int32) : ent w (sAl a) (sT L xs) 104 ((0 : Nat) : Int) = dar w 104 := sd_0 rfl (fun _ => rfl) (Or.inl rfl)
theorem se_105_0 (w : Wd) (a L : Nat) (xs : Nat → Int32) : ent w (sAl a) (sT L xs) 105 ((0 : Nat) : Int) = dar w 105 := sd_0 rfl (fun _ => rfl) (Or.inr (Or.inl rfl))
theorem se_106_0 (w : Wd) (a L : Nat) (xs : Nat → Int32) : ent w (sAl a) (sT L xs) 106 ((0 : Nat) : Int) = dar w 106 := sd_0 rfl (fun _ => rfl) (Or.inl rfl)
theorem se_107_0 (w : Wd) (a L : Nat) (xs : Nat → Int32) : ent w (sAl a) (sT L xs) 107 ((0 : Nat) : Int) = dar w 107 := sd_0 rfl (fun _ => rfl) (Or.inl rfl)
theorem se_108_0 (w : Wd) (a L : Nat) (xs : Nat → Int32) : ent w (sAl a) (sT L xs) 108 ((0 : Nat) : Int) = dar w 108 := sd_0 rfl (fun _ => rfl) (Or.inl rfl)
theorem se_109_0 (w : Wd) (a L : Nat) (xs : Nat → Int32) : ent w (sAl a) (sT L xs) 109 ((0 : Nat) : Int) = dar w 109 := sd_0 rfl (fun _ => rfl) (Or.inl rfl)
theorem se_110_0 (w : Wd) (a L : Nat) (xs : Nat → Int32) : ent w (sAl a) (sT L xs) 110 ((0 : Nat) : Int) = dar w 110 := sd_0 rfl (fun _ => rfl) (Or.inr (Or.inl rfl))
theorem se_111_0 (w : Wd) (a L : Nat) (xs : Nat → Int32) : ent w (sAl a) (sT L xs) 111 ((0 : Nat) : Int) = dar w 111 := sd_0 rfl (fun _ => rfl) (Or.inl rfl)
theorem se_112_0 (w : Wd) (a L : Nat) (xs : Nat → Int32) : ent w (sAl a) (sT L xs) 112 ((0 : Nat) : Int) = dar w 112 := sd_0 rfl (fun _ => rfl) (Or.inl rfl)
theorem se_113_0 (w : Wd) (a L : Nat) (xs : Nat → Int32) : ent w (sAl a) (sT L xs) 113 ((0 : Nat) : Int) = dar w 113 := sd_0 rfl (fun _ => rfl) (Or.inl rfl)
theorem se_115_0 (w : Wd) (a L : Nat) (xs : Nat → Int32) : ent w (sAl a) (sT L xs) 115 ((0 : Nat) : Int) = dar w 115 := sd_0 rfl (fun _ => rfl) (Or.inl rfl)
theorem se_116_0 (w : Wd) (a L : Nat) (xs : Nat → Int32) : ent w (sAl a) (sT L xs) 116 ((0 : Nat) : Int) = dar w 116 := sd_0 rfl (fun _ => rfl) (Or.inl rfl)
theorem se_117_0 (w : Wd) (a L : Nat) (xs : Nat → Int32) : ent w (sAl a) (sT L xs) 117 ((0 : Nat) : Int) = dar w 117 := sd_0 rfl (fun _ => rfl) (Or.inl rfl)
theorem se_118_0 (w : Wd) (a L : Nat) (xs : Nat → Int32) : ent w (sAl a) (sT L xs) 118 ((0 : Nat) : Int) = dar w 118 := sd_0 rfl (fun _ => rfl) (Or.inl rfl)
theorem se_119_0 (w : Wd) (a L : Nat) (xs : Nat → Int32) : ent w (sAl a) (sT L xs) 119 ((0 : Nat) : Int) = dar w 119 := sd_0 rfl (fun _ => rfl) (Or.inl rfl)
theorem se_120_0 (w : Wd) (a L : Nat) (xs : Nat → Int32) : ent w (sAl a) (sT L xs) 120 ((0 : Nat) : Int) = dar w 120 := sd_0 rfl (fun _ => rfl) (Or.inl rfl)
theorem se_121_0 (w : Wd) (a L : Nat) (xs : Nat → Int32) : ent w (sAl a) (sT L xs) 121 ((0 : Nat) : Int) = dar w 121 := sd_0 rfl (fun _ => rfl) (Or.inl rfl)
theorem se_122_0 (w : Wd) (a L : Nat) (xs : Nat → Int32) : ent w (sAl a) (sT L xs) 122 ((0 : Nat) : Int) = dar w 122 := sd_0 rfl (fun _ => rfl) (Or.inl rfl)
theorem se_123_0 (w : Wd) (a L : Nat) (xs : Nat → Int32) : ent w (sAl a) (sT L xs) 123 ((0 : Nat) : Int) = dar w 123 := sd_0 rfl (fun _ => rfl) (Or.inr (Or.inl rfl))
theorem se_124_0 (w : Wd) (a L : Nat) (xs : Nat → Int32) : ent w (sAl a) (sT L xs) 124 ((0 : Nat) : Int) = dar w 124 := sd_0 rfl (fun _ => rfl) (Or.inr (Or.inl rfl))
theorem se_125_0 (w : Wd) (a L : Nat) (xs : Nat → Int32) : ent w (sAl a) (sT L xs) 125 ((0 : Nat) : Int) = dar w 125 := sd_0 rfl (fun _ => rfl) (Or.inl rfl)
theorem se_126_0 (w : Wd) (a L : Nat) (xs : Nat → Int32) : ent w (sAl a) (sT L xs) 126 ((0 : Nat) : Int) = dar w 126 := sd_0 rfl (fun _ => rfl) (Or.inl rfl)
theorem se_127_0 (w : Wd) (a L : Nat) (xs : Nat → Int32) : ent w (sAl a) (sT L xs) 127 ((0 : Nat) : Int) = dar w 127 := sd_0 rfl (fun _ => rfl) (Or.inl rfl)
theorem se_129_0 (w : Wd) (a L : Nat) (xs : Nat → Int32) : ent w (sAl a) (sT L xs) 129 ((0 : Nat) : Int) = .inl (w.2.1 0, 2, .inl (va_up (va_up (fun _ => 0) 0 (i32 (-1))) 1 (i32 (-1)))) := by
  rw [ent_arr (by decide)]
  have e : avl (sAl a) (sT L xs) 129 ((0 : Nat) : Int) = (2, .inl (fun i : Nat => i32 (gm (sT L xs) 129 ((0 : Nat) : Int) i))) := rfl
  rw [e]
  have h : (fun i : Nat => i32 (gm (sT L xs) 129 ((0 : Nat) : Int) i)) = va_up (va_up (fun _ => 0) 0 (i32 (-1))) 1 (i32 (-1)) := by
    funext i
    have eg : gm (sT L xs) 129 ((0 : Nat) : Int) i = if (i : Int) = 0 then -1 else if (i : Int) = 1 then -1 else 0 := rfl
    rw [eg]
    unfold va_up
    by_cases h0 : i = 0
    · subst h0
      rfl
    · by_cases h1 : i = 1
      · subst h1
        rfl
      · rw [if_neg (show ¬ (i : Int) = 0 by omega), if_neg (show ¬ (i : Int) = 1 by omega), if_neg h1, if_neg h0]
        exact i32_0
  rw [h]
  rfl
theorem se_130_0 (w : Wd) (a L : Nat) (xs : Nat → Int32) : ent w (sAl a) (sT L xs) 130 ((0 : Nat) : Int) = dar w 130 := sd_0 rfl (fun _ => rfl) (Or.inl rfl)
theorem se_131_0 (w : Wd) (a L : Nat) (xs : Nat → Int32) : ent w (sAl a) (sT L xs) 131 ((0 : Nat) : Int) = dar w 131 := sd_0 rfl (fun _ => rfl) (Or.inl rfl)
theorem se_132_0 (w : Wd) (a L : Nat) (xs : Nat → Int32) : ent w (sAl a) (sT L xs) 132 ((0 : Nat) : Int) = dar w 132 := sd_0 rfl (fun _ => rfl) (Or.inl rfl)
theorem se_133_0 (w : Wd) (a L : Nat) (xs : Nat → Int32) : ent w (sAl a) (sT L xs) 133 ((0 : Nat) : Int) = dar w 133 := sd_0 rfl (fun _ => rfl) (Or.inl rfl)
theorem se_134_0 (w : Wd) (a L : Nat) (xs : Nat → Int32) : ent w (sAl a) (sT L xs) 134 ((0 : Nat) : Int) = dar w 134 := sd_0 rfl (fun _ => rfl) (Or.inl rfl)
theorem se_135_0 (w : Wd) (a L : Nat) (xs : Nat → Int32) : ent w (sAl a) (sT L xs) 135 ((0 : Nat) : Int) = dar w 135 := sd_0 rfl (fun _ => rfl) (Or.inl rfl)
theorem se_136_0 (w : Wd) (a L : Nat) (xs : Nat → Int32) : ent w (sAl a) (sT L xs) 136 ((0 : Nat) : Int) = dar w 136 := sd_0 rfl (fun _ => rfl) (Or.inl rfl)
theorem se_137_0 (w : Wd) (a L : Nat) (xs : Nat → Int32) : ent w (sAl a) (sT L xs) 137 ((0 : Nat) : Int) = dar w 137 := sd_0 rfl (fun _ => rfl) (Or.inl rfl)
theorem se_138_0 (w : Wd) (a L : Nat) (xs : Nat → Int32) : ent w (sAl a) (sT L xs) 138 ((0 : Nat) : Int) = dar w 138 := sd_0 rfl (fun _ => rfl) (Or.inl rfl)
theorem se_139_0 (w : Wd) (a L : Nat) (xs : Nat → Int32) : ent w (sAl a) (sT L xs) 139 ((0 : Nat) : Int) = dar w 139 := sd_0 rfl (fun _ => rfl) (Or.inl rfl)
theorem se_140_0 (w : Wd) (a L : Nat) (xs : Nat → Int32) : ent w (sAl a) (sT L xs) 140 ((0 : Nat) : Int) = dar w 140 := sd_0 rfl (fun _ => rfl) (Or.inr (Or.inl rfl))
theorem se_141_0 (w : Wd) (a L : Nat) (xs : Nat → Int32) : ent w (sAl a) (sT L xs) 141 ((0 : Nat) : Int) = dar w 141 := sd_0 rfl (fun _ => rfl) (Or.inl rfl)
theorem se_143_0 (w : Wd) (a L : Nat) (xs : Nat → Int32) : ent w (sAl a) (sT L xs) 143 ((0 : Nat) : Int) = dar w 143 := sd_0 rfl (fun _ => rfl) (Or.inl rfl)
theorem se_144_0 (w : Wd) (a L : Nat) (xs : Nat → Int32) : ent w (sAl a) (sT L xs) 144 ((0 : Nat) : Int) = dar w 144 := sd_0 rfl (fun _ => rfl) (Or.inl rfl)
theorem se_145_0 (w : Wd) (a L : Nat) (xs : Nat → Int32) : ent w (sAl a) (sT L xs) 145 ((0 : Nat) : Int) = dar w 145 := sd_0 rfl (fun _ => rfl) (Or.inl rfl)
theorem se_146_0 (w : Wd) (a L : Nat) (xs : Nat → Int32) : ent w (sAl a) (sT L xs) 146 ((0 : Nat) : Int) = dar w 146 := sd_0 rfl (fun _ => rfl) (Or.inl rfl)
theorem se_147_0 (w : Wd) (a L : Nat) (xs : Nat → Int32) : ent w (sAl a) (sT L xs) 147 ((0 : Nat) : Int) = dar w 147 := sd_0 rfl (fun _ => rfl) (Or.inl rfl)
theorem se_148_0 (w : Wd) (a L : Nat) (xs : Nat → Int32) : ent w (sAl a) (sT L xs) 148 ((0 : Nat) : Int) = dar w 148 := sd_0 rfl (fun _ => rfl) (Or.inl rfl)
theorem se_149_0 (w : Wd) (a L : Nat) (xs : Nat → Int32) : ent w (sAl a) (sT L xs) 149 ((0 : Nat) : Int) = dar w 149 := sd_0 rfl (fun _ => rfl) (Or.inl rfl)
theorem se_150_0 (w : Wd) (a L : Nat) (xs : Nat → Int32) : ent w (sAl a) (sT L xs) 150 ((0 : Nat) : Int) = dar w 150 := sd_0 rfl (fun _ => rfl) (Or.inr (Or.inl rfl))
theorem se_60_0 (w : Wd) (a L : Nat) (xs : Nat → Int32) : ent w (sAl a) (sT L xs) 60 ((0 : Nat) : Int) = dar w 60 := sd_0 rfl (fun _ => rfl) (Or.inr (Or.inr rfl))
theorem s11_eq (w : Wd) (a L : Nat) (xs : Nat → Int32) : (trX11_init w (a + 1) []).2 = l11.map (fun p => ent w (sAl a) (sT L xs) p.1 ((p.2 : Nat) : Int)) := by
  unfold l11
  simp only [List.map_cons, List.map_nil, se_13_0, se_14_0, se_9_0, se_22_0, se_23_0, se_0_0, se_3_0, se_24_0, se_25_0, se_26_0, se_4_0, se_27_0, se_4_1, se_27_1, se_1_0, se_28_0, se_29_0, se_0_1, se_3_1, se_24_1, se_25_1, se_26_1, se_4_2, se_27_2, se_4_3, se_27_3, se_1_1, se_28_1, se_29_1]
  rfl
theorem s12_eq (w : Wd) (a L : Nat) (xs : Nat → Int32) : (trX12_init w (a + 31) []).2 = l12.map (fun p => ent w (sAl a) (sT L xs) p.1 ((p.2 : Nat) : Int)) := by
  unfold l12
  simp only [List.map_cons, List.map_nil, se_102_0, se_103_0, se_104_0, se_105_0, se_106_0, se_107_0, se_108_0, se_109_0, se_110_0, se_111_0, se_112_0, se_113_0, se_115_0, se_116_0, se_117_0, se_118_0, se_119_0, se_120_0, se_121_0, se_122_0, se_123_0, se_124_0, se_125_0, se_126_0, se_127_0, se_129_0, se_130_0, se_131_0, se_132_0, se_133_0, se_134_0, se_135_0, se_136_0, se_137_0, se_138_0, se_139_0, se_140_0, se_141_0, se_143_0, se_144_0, se_145_0, se_146_0, se_147_0, se_148_0, se_149_0, se_150_0]
  rfl
theorem va_l_cons {D : va_G} {H : Heap} {b : Nat} {e0 : va_E} {l : List va_E} (h0 : va_at D vwCl (b, e0) H) (h1 : ∀ (i : Nat) (e : va_E), l[i]? = some e → va_at D vwCl (b + 1 + i, e) H) : ∀ (i : Nat) (e : va_E), (e0 :: l)[i]? = some e → va_at D vwCl (b + i, e) H := by
  intro i e h
  cases i with
  | zero => cases h; exact h0
  | succ i => rw [show b + (i + 1) = b + 1 + i by omega]; exact h1 i e h
theorem va_l_app {D : va_G} {H : Heap} {b : Nat} {l l2 : List va_E} (h0 : ∀ (i : Nat) (e : va_E), l[i]? = some e → va_at D vwCl (b + i, e) H) (h1 : ∀ (i : Nat) (e : va_E), l2[i]? = some e → va_at D vwCl (b + l.length + i, e) H) : ∀ (i : Nat) (e : va_E), (l ++ l2)[i]? = some e → va_at D vwCl (b + i, e) H := by
  intro i e h
  by_cases hi : i < l.length
  · rw [List.getElem?_append_left hi] at h
    exact h0 i e h
  · rw [List.getElem?_append_right (by omega)] at h
    have h9 := h1 _ e h
    rw [show b + l.length + (i - l.length) = b + i by omega] at h9
    exact h9
theorem s_all {w : Wd} {a L : Nat} {xs : Nat → Int32} {H : Heap} (g0 : va_at w.1 vwCl (a, .inr (11, (trX11_init w (a + 1) []).1)) H) (g1 : ∀ (i : Nat) (e : va_E), (trX11_init w (a + 1) []).2[i]? = some e → va_at w.1 vwCl (a + 1 + i, e) H) (g2 : va_at w.1 vwCl (a + 30, .inr (12, (trX12_init w (a + 31) []).1)) H) (g3 : ∀ (i : Nat) (e : va_E), (trX12_init w (a + 31) []).2[i]? = some e → va_at w.1 vwCl (a + 31 + i, e) H) (g4 : va_at w.1 vwCl (a + 77, dar w 60) H) :
    ∀ (i : Nat) (p : Nat × Nat), sLP[i]? = some p → va_at w.1 vwCl (a + i, ent w (sAl a) (sT L xs) p.1 ((p.2 : Nat) : Int)) H := by
  rw [s11_eq w a L xs] at g1
  rw [s12_eq w a L xs] at g3
  rw [← se_11_0 w a L xs] at g0
  rw [← se_12_0 w a L xs] at g2
  rw [← se_60_0 w a L xs] at g4
  have h := va_l_cons (l := l11.map (fun p => ent w (sAl a) (sT L xs) p.1 ((p.2 : Nat) : Int)) ++ ent w (sAl a) (sT L xs) 12 ((0 : Nat) : Int) :: (l12.map (fun p => ent w (sAl a) (sT L xs) p.1 ((p.2 : Nat) : Int)) ++ [ent w (sAl a) (sT L xs) 60 ((0 : Nat) : Int)])) g0
    (va_l_app g1 (by
      rw [List.length_map, show l11.length = 29 from rfl]
      refine va_l_cons g2 (va_l_app g3 ?_)
      rw [List.length_map, show l12.length = 46 from rfl]
      exact va_l_cons g4 (fun i e h => by simp at h)))
  intro i p hp
  refine h i _ ?_
  have e : ent w (sAl a) (sT L xs) 11 ((0 : Nat) : Int) :: (l11.map (fun p => ent w (sAl a) (sT L xs) p.1 ((p.2 : Nat) : Int)) ++ ent w (sAl a) (sT L xs) 12 ((0 : Nat) : Int) :: (l12.map (fun p => ent w (sAl a) (sT L xs) p.1 ((p.2 : Nat) : Int)) ++ [ent w (sAl a) (sT L xs) 60 ((0 : Nat) : Int)])) = sLP.map (fun p => ent w (sAl a) (sT L xs) p.1 ((p.2 : Nat) : Int)) := by
    unfold sLP
    simp only [List.map_cons, List.map_append, List.map_nil]
  rw [e, List.getElem?_map, hp]
  rfl
theorem sof_at : (sLP.all fun p => decide (sLP[sof p.1 p.2]? = some p)) = true := by decide +kernel
theorem lv_sLP0 : ((List.range 151).all fun k => !(Nat.beq (cco k).1 0) || (Nat.ble (cco k).2 4 && (List.range 4).all fun n => Nat.ble (cco k).2 n || decide ((k, n) ∈ sLP))) = true := by decide +kernel
theorem cco_big {k : Nat} (h : 151 ≤ k) : cco k = (0, 0) := by
  unfold cco
  split <;> first | omega | rfl
theorem cnt_0 (k : Nat) : cnt (fun _ => 0) k = if (cco k).1 = 0 then ((cco k).2 : Int) else 0 := by
  unfold cnt
  split
  · next h => rw [if_pos h]
  · next h => rw [if_neg (fun e => h e)]
theorem lv_sLP {k : Nat} {n : Int} (h : lv (fun _ => 0) k n) : (k, n.toNat) ∈ sLP := by
  obtain ⟨h1, h2⟩ := h
  rw [cnt_0] at h2
  split at h2
  · next e0 =>
    have hk : k < 151 := by
      refine Nat.lt_of_not_le fun hk => ?_
      rw [cco_big hk] at h2
      have h2 : n < 0 := h2
      omega
    have h9 := List.all_eq_true.mp lv_sLP0 k (List.mem_range.mpr hk)
    rw [e0] at h9
    simp only [show Nat.beq 0 0 = true from rfl, Bool.not_true, Bool.false_or, Bool.and_eq_true] at h9
    obtain ⟨h8, h9⟩ := h9
    have h8 := Nat.le_of_ble_eq_true h8
    have h7 := List.all_eq_true.mp h9 n.toNat (List.mem_range.mpr (by omega))
    simp only [Bool.or_eq_true, decide_eq_true_eq] at h7
    rcases h7 with h7 | h7
    · have h7 := Nat.le_of_ble_eq_true h7
      omega
    · exact h7
  · omega
theorem sof_get {k : Nat} {n : Int} (h : lv (fun _ => 0) k n) : sLP[sof k n.toNat]? = some (k, n.toNat) := by
  have h9 := List.all_eq_true.mp sof_at _ (lv_sLP h)
  simpa using h9
theorem sAl_inj {a k k' : Nat} {n n' : Int} (h : lv (fun _ => 0) k n) (h' : lv (fun _ => 0) k' n') (e : sAl a k n = sAl a k' n') : k = k' ∧ n = n' := by
  have e : a + sof k n.toNat = a + sof k' n'.toNat := e
  have e : sof k n.toNat = sof k' n'.toNat := by omega
  have h1 := sof_get h
  rw [e, sof_get h'] at h1
  have h2 := Option.some.inj h1
  have h3 : k' = k := congrArg Prod.fst h2
  have h4 : n'.toNat = n.toNat := congrArg Prod.snd h2
  exact ⟨h3.symm, by have := h.1; have := h'.1; omega⟩
