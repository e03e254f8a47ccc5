/-! Themes. -/
theorem iand_0 (w : Int) : iand 0 w = 0 := by
  rw [iand_eq]
  simp
theorem ecLike {a0 w : Int} {s : St} (h0 : 0 ≤ gm s 6 a0 8) (h1 : gm s 6 a0 8 < 4096) : FX6_isThemeLike a0 w s = some (0, if 3 ≤ pc (iand (gm s 6 a0 8) w) then 1 else 0, s) := by
  obtain ⟨a, b⟩ := iand_le (b := w) h0 h1
  simp only [FX6_isThemeLike, fX6_isThemeLike_0, fX6_isThemeLike_17, fX6_isThemeLike_18, ecBitCount a b, bnd_ok, z01, o01, if_true]
  grind
noncomputable def rfu (f g : Int → Int) (w dd N : Int) : Nat → Int → Int
  | 0, _ => 0
  | d + 1, i => if i < N ∧ 3 ≤ pc (iand (f i) w) ∧ g i ≤ dd then 1 else rfu f g w dd N d (i + 1)
theorem rfu_01 (f g : Int → Int) (w dd N : Int) : ∀ (d : Nat) (i : Int), rfu f g w dd N d i = 0 ∨ rfu f g w dd N d i = 1
  | 0, _ => Or.inl rfl
  | d + 1, i => by
    simp only [rfu]
    split
    · exact Or.inr rfl
    · exact rfu_01 f g w dd N d (i + 1)
theorem rfu_ge (f g : Int → Int) (w dd N : Int) : ∀ (d : Nat) (i : Int), N ≤ i → rfu f g w dd N d i = 0
  | 0, _, _ => rfl
  | d + 1, i, h => by
    simp only [rfu]
    rw [if_neg (by omega)]
    exact rfu_ge f g w dd N d (i + 1) (by omega)
theorem ecRefused_lp {f g : Int → Int} {w dd N : Int} {s : St} (h13 : ∀ i : Int, 0 ≤ i → i < 10 → gm s 13 0 i = if i < N then i else -1) (hw : ∀ i : Int, 0 ≤ i → i < 10 → i < N → gm s 6 i 8 = f i ∧ 0 ≤ f i ∧ f i < 4096 ∧ (f i ≠ 0 → gm s 6 i 9 = g i)) :
    ∀ (d n : Nat) (i : Int), d < n → 0 ≤ i → i + d = 10 → fX11_isThemeRefused_2 (kX11_isThemeRefused n) 0 w dd i s = some (0, rfu f g w dd N d i, s)
  | 0, n, i, hn, h0, hi => by
    simp only [fX11_isThemeRefused_2, fX11_isThemeRefused_50, rfu, z01, if_true]
    rw [if_neg (by omega)]
    simp
  | d + 1, n, i, hn, h0, hi => by
    obtain ⟨n, rfl⟩ : ∃ n', n = n' + 1 := ⟨n - 1, by omega⟩
    have hr : 0 ≤ i ∧ i < 10 := by omega
    have ih := ecRefused_lp (w := w) (dd := dd) h13 hw d n (i + 1) (by omega) (by omega) (by omega)
    simp only [fX11_isThemeRefused_2, fX11_isThemeRefused_44, rfu, o01, if_true]
    simp (disch := omega) only [wq]
    simp only [uX11_isThemeRefused_2, ih]
    rw [if_pos hr.2, if_pos hr, h13 i hr.1 hr.2]
    by_cases hN : i < N
    · obtain ⟨q1, q2, q3, q4⟩ := hw i hr.1 hr.2 hN
      simp only [if_pos hN]
      rw [if_neg (by omega), if_pos h0, ecLike (by omega) (by omega), q1]
      simp only [bnd_ok, if_pos h0]
      by_cases hl : 3 ≤ pc (iand (f i) w)
      · have hf : f i ≠ 0 := fun e => by rw [e, iand_0, pc_0] at hl; omega
        rw [q4 hf]
        by_cases c2 : g i ≤ dd
        · have c3 : ¬ dd < g i := by omega
          simp [hl, hN, c2, c3]
        · have c3 : dd < g i := by omega
          simp [hl, c2, c3, ih]
      · simp [hl, ih]
    · simp [hN, ih]
theorem ecRefused {f g : Int → Int} {w dd N : Int} {s : St} (h13 : ∀ i : Int, 0 ≤ i → i < 10 → gm s 13 0 i = if i < N then i else -1) (hw : ∀ i : Int, 0 ≤ i → i < 10 → i < N → gm s 6 i 8 = f i ∧ 0 ≤ f i ∧ f i < 4096 ∧ (f i ≠ 0 → gm s 6 i 9 = g i)) : FX11_isThemeRefused 0 w dd s = some (0, rfu f g w dd N 10 0, s) := by
  simp only [FX11_isThemeRefused, fX11_isThemeRefused_0]
  exact ecRefused_lp h13 hw 10 9999 0 (by omega) (by omega) (by omega)
theorem emRefused_lp {f g : Int → Int} {p w dd N : Int} {s : St} (hN : gm s 12 0 1 = N) (hN2 : N ≤ 10) (hf : ∀ i : Int, 0 ≤ i → i < 10 → gm s 106 0 i = f i ∧ 0 ≤ f i ∧ f i < 4096 ∧ gm s 107 0 i = g i) :
    ∀ (d n : Nat) (i : Int), 0 ≤ i → i + d = 10 → ∃ n', n ≤ n' ∧ fX12_theme_57 (kX12_theme (n + d)) 0 p w dd i s = if rfu f g w dd N d i = 1 then some (0, -1, s) else fX12_theme_101 (kX12_theme n') 0 p w dd s
  | 0, n, i, h0, hi => by
    refine ⟨n, Nat.le_refl _, ?_⟩
    simp only [fX12_theme_57, rfu, hN]
    rw [if_neg (by omega)]
    simp
  | d + 1, n, i, h0, hi => by
    by_cases hi2 : i < N
    · obtain ⟨n', hn', ih⟩ := emRefused_lp (p := p) (w := w) (dd := dd) hN hN2 hf d n (i + 1) (by omega) (by omega)
      refine ⟨n', hn', ?_⟩
      obtain ⟨q1, q2, q3, q4⟩ := hf i h0 (by omega)
      obtain ⟨a, b⟩ := iand_le (b := w) q2 q3
      have hr : 0 ≤ i ∧ i < 10 := by omega
      rw [show n + (d + 1) = n + d + 1 from rfl]
      rw [show rfu f g w dd N (d + 1) i = if i < N ∧ 3 ≤ pc (iand (f i) w) ∧ g i ≤ dd then 1 else rfu f g w dd N d (i + 1) from rfl]
      simp only [fX12_theme_57, fX12_theme_95, hN, if_pos hi2, if_pos hr, q1, emBits s a b, bnd_ok, q4]
      simp (disch := omega) only [wq]
      simp only [uX12_theme_57, ih]
      by_cases c1 : 3 ≤ pc (iand (f i) w)
      · by_cases c2 : g i ≤ dd
        · rw [if_neg (by omega), if_neg (by omega), if_pos (show i < N ∧ 3 ≤ pc (iand (f i) w) ∧ g i ≤ dd from ⟨hi2, c1, c2⟩), if_pos rfl]
        · rw [if_neg (by omega), if_pos (by omega), if_neg (show ¬ (i < N ∧ 3 ≤ pc (iand (f i) w) ∧ g i ≤ dd) from fun z => c2 z.2.2)]
      · rw [if_pos (by omega), if_neg (show ¬ (i < N ∧ 3 ≤ pc (iand (f i) w) ∧ g i ≤ dd) from fun z => c1 z.2.1)]
    · refine ⟨n + (d + 1), by omega, ?_⟩
      rw [rfu_ge f g w dd N (d + 1) i (by omega)]
      simp only [fX12_theme_57, hN, if_neg hi2]
      simp
noncomputable def tkf (f : Int → Int) (w N : Int) (i : Int) : Int := if i < N ∧ 3 ≤ pc (iand (f i) w) then 1 else 0
theorem ecTake_lp {f : Int → Int} {w N : Int} : ∀ (d n : Nat) (i acc : Int) (s : St), (∀ i : Int, 0 ≤ i → i < 10 → gm s 13 0 i = if i < N then i else -1) → (∀ k : Int, i ≤ k → k < 10 → k < N → gm s 6 k 8 = f k ∧ 0 ≤ f k ∧ f k < 4096) →
    d < n → 0 ≤ i → i + d = 10 → 0 ≤ acc → acc ≤ i → ∃ s', fX11_takeThemesAway_4 (kX11_takeThemesAway n) 0 w acc i s = some (0, acc + sm (tkf f w N) d i, s') ∧ Kp [(6, some 8)] s s' ∧ s'.2 = s.2 ∧ ∀ k : Int, gm s' 6 k 8 = if (i ≤ k ∧ k < 10 ∧ k < N) ∧ 3 ≤ pc (iand (f k) w) then 0 else gm s 6 k 8
  | 0, n, i, acc, s, h13, hw, hn, h0, hi, b1, b2 => by
    refine ⟨s, ?_, Kp.rf _ _, rfl, fun k => ?_⟩
    · simp only [fX11_takeThemesAway_4, fX11_takeThemesAway_50, sm]
      rw [if_neg (by omega), Int.add_zero]
    · rw [if_neg (by omega)]
  | d + 1, n, i, acc, s, h13, hw, hn, h0, hi, b1, b2 => by
    obtain ⟨n, rfl⟩ : ∃ n', n = n' + 1 := ⟨n - 1, by omega⟩
    have hr : 0 ≤ i ∧ i < 10 := by omega
    rw [show sm (tkf f w N) (d + 1) i = tkf f w N i + sm (tkf f w N) d (i + 1) from rfl]
    by_cases hl : i < N ∧ 3 ≤ pc (iand (f i) w)
    · obtain ⟨q1, q2, q3⟩ := hw i (Int.le_refl _) hr.2 hl.1
      obtain ⟨s', e1, e2, e3, e4⟩ := ecTake_lp (f := f) (w := w) (N := N) d n (i + 1) (acc + 1) (pm s 6 i 8 0) (fun k k0 k1 => by rw [gm_pm, if_neg (by omega)]; exact h13 k k0 k1) (fun k k0 k1 k2 => by rw [gm_pm, if_neg (by omega)]; exact hw k (by omega) k1 k2) (by omega) (by omega) (by omega) (by omega) (by omega)
      refine ⟨s', ?_, Kp.tr (Kp.pm (Kp.rf _ _) (Or.inr (by decide))) e2, e3, fun k => ?_⟩
      · simp only [fX11_takeThemesAway_4, fX11_takeThemesAway_44]
        simp (disch := omega) only [wq]
        simp only [uX11_takeThemesAway_4]
        rw [if_pos hr.2, if_pos hr, h13 i hr.1 hr.2]
        simp only [if_pos hl.1]
        rw [if_neg (by omega), if_pos h0, ecLike (by omega) (by omega), q1]
        simp only [bnd_ok, if_pos h0, if_pos hl.2]
        rw [if_neg (by decide), e1, tkf, if_pos hl]
        rw [show acc + 1 + sm (tkf f w N) d (i + 1) = acc + (1 + sm (tkf f w N) d (i + 1)) by omega]
      · rw [e4 k, gm_pm]
        by_cases ek : k = i
        · subst ek
          rw [if_neg (by omega), if_pos ⟨rfl, rfl, rfl⟩, if_pos ⟨⟨Int.le_refl _, hr.2, hl.1⟩, hl.2⟩]
        · rw [if_neg (fun z : 6 = 6 ∧ k = i ∧ (8 : Int) = 8 => ek z.2.1)]
          by_cases c9 : (i + 1 ≤ k ∧ k < 10 ∧ k < N) ∧ 3 ≤ pc (iand (f k) w)
          · rw [if_pos c9, if_pos ⟨⟨by omega, c9.1.2⟩, c9.2⟩]
          · rw [if_neg c9, if_neg (fun z => c9 ⟨⟨by omega, z.1.2⟩, z.2⟩)]
    · obtain ⟨s', e1, e2, e3, e4⟩ := ecTake_lp (f := f) (w := w) (N := N) d n (i + 1) acc s h13 (fun k k0 k1 k2 => hw k (by omega) k1 k2) (by omega) (by omega) (by omega) (by omega) (by omega)
      refine ⟨s', ?_, e2, e3, fun k => ?_⟩
      · simp only [fX11_takeThemesAway_4, fX11_takeThemesAway_44]
        simp (disch := omega) only [wq]
        simp only [uX11_takeThemesAway_4]
        rw [if_pos hr.2, if_pos hr, h13 i hr.1 hr.2, tkf, if_neg hl, Int.zero_add, ← e1]
        by_cases hN : i < N
        · obtain ⟨q1, q2, q3⟩ := hw i (Int.le_refl _) hr.2 hN
          have hl2 : ¬ 3 ≤ pc (iand (f i) w) := fun z => hl ⟨hN, z⟩
          simp only [if_pos hN]
          rw [if_neg (by omega), if_pos h0, ecLike (by omega) (by omega), q1]
          simp only [bnd_ok, if_pos h0, if_neg hl2, if_true]
        · simp [hN]
      · rw [e4 k]
        by_cases ek : k = i
        · subst ek
          rw [if_neg (by omega), if_neg (fun z => hl ⟨z.1.2.2, z.2⟩)]
        · by_cases c9 : (i + 1 ≤ k ∧ k < 10 ∧ k < N) ∧ 3 ≤ pc (iand (f k) w)
          · rw [if_pos c9, if_pos ⟨⟨by omega, c9.1.2⟩, c9.2⟩]
          · rw [if_neg c9, if_neg (fun z => c9 ⟨⟨by omega, z.1.2⟩, z.2⟩)]
theorem emTake_lp {f : Int → Int} {p w dd N : Int} (hp : 0 ≤ p ∧ p < 10) (hN2 : N ≤ 10) : ∀ (d n : Nat) (i acc : Int) (s : St), gm s 12 0 1 = N → (∀ k : Int, i ≤ k → k < 10 → gm s 106 0 k = f k ∧ 0 ≤ f k ∧ f k < 4096) →
    d < n → 0 ≤ i → i + d = 10 → 0 ≤ acc → acc ≤ i → ∃ s', fX12_theme_107 (kX12_theme n) 0 p w dd acc i s = some (0, acc + sm (tkf f w N) d i, pm (pm s' 106 0 p w) 107 0 p dd) ∧ Kp [(106, none)] s s' ∧ s'.2 = s.2 ∧ ∀ k : Int, gm s' 106 0 k = if (i ≤ k ∧ k < 10 ∧ k < N) ∧ 3 ≤ pc (iand (f k) w) then 0 else gm s 106 0 k
  | 0, n, i, acc, s, hN, hw, hn, h0, hi, b1, b2 => by
    refine ⟨s, ?_, Kp.rf _ _, rfl, fun k => ?_⟩
    · simp only [fX12_theme_107, fX12_theme_149, sm, hN]
      rw [if_neg (by omega), Int.add_zero, if_pos hp, if_pos hp]
    · rw [if_neg (by omega)]
  | d + 1, n, i, acc, s, hN, hw, hn, h0, hi, b1, b2 => by
    obtain ⟨n, rfl⟩ : ∃ n', n = n' + 1 := ⟨n - 1, by omega⟩
    have hr : 0 ≤ i ∧ i < 10 := by omega
    obtain ⟨q1, q2, q3⟩ := hw i (Int.le_refl _) hr.2
    obtain ⟨a, b⟩ := iand_le (b := w) q2 q3
    rw [show sm (tkf f w N) (d + 1) i = tkf f w N i + sm (tkf f w N) d (i + 1) from rfl]
    by_cases hl : i < N ∧ 3 ≤ pc (iand (f i) w)
    · obtain ⟨s', e1, e2, e3, e4⟩ := emTake_lp (f := f) (p := p) (w := w) (dd := dd) (N := N) hp hN2 d n (i + 1) (acc + 1) (pm s 106 0 i 0) (by rw [gm_pm, if_neg (by omega)]; exact hN) (fun k k0 k1 => by rw [gm_pm, if_neg (by omega)]; exact hw k (by omega) k1) (by omega) (by omega) (by omega) (by omega) (by omega)
      refine ⟨s', ?_, Kp.tr (Kp.pm (Kp.rf _ _) (Or.inl (by decide))) e2, e3, fun k => ?_⟩
      · simp only [fX12_theme_107, fX12_theme_143, hN, if_pos hl.1, if_pos hr, q1, emBits s a b, bnd_ok]
        simp (disch := omega) only [wq]
        simp only [uX12_theme_107]
        rw [if_neg (by omega), e1, tkf, if_pos hl]
        rw [show acc + 1 + sm (tkf f w N) d (i + 1) = acc + (1 + sm (tkf f w N) d (i + 1)) by omega]
      · rw [e4 k, gm_pm]
        by_cases ek : k = i
        · subst ek
          rw [if_neg (by omega), if_pos ⟨rfl, rfl, rfl⟩, if_pos ⟨⟨Int.le_refl _, hr.2, hl.1⟩, hl.2⟩]
        · rw [if_neg (fun z : 106 = 106 ∧ (0 : Int) = 0 ∧ k = i => ek z.2.2)]
          by_cases c9 : (i + 1 ≤ k ∧ k < 10 ∧ k < N) ∧ 3 ≤ pc (iand (f k) w)
          · rw [if_pos c9, if_pos ⟨⟨by omega, c9.1.2⟩, c9.2⟩]
          · rw [if_neg c9, if_neg (fun z => c9 ⟨⟨by omega, z.1.2⟩, z.2⟩)]
    · obtain ⟨s', e1, e2, e3, e4⟩ := emTake_lp (f := f) (p := p) (w := w) (dd := dd) (N := N) hp hN2 d n (i + 1) acc s hN (fun k k0 k1 => hw k (by omega) k1) (by omega) (by omega) (by omega) (by omega) (by omega)
      by_cases hiN : i < N
      · have hl2 : ¬ 3 ≤ pc (iand (f i) w) := fun z => hl ⟨hiN, z⟩
        refine ⟨s', ?_, e2, e3, fun k => ?_⟩
        · simp only [fX12_theme_107, fX12_theme_143, hN, if_pos hiN, if_pos hr, q1, emBits s a b, bnd_ok]
          simp (disch := omega) only [wq]
          simp only [uX12_theme_107]
          rw [if_pos (by omega), e1, tkf, if_neg hl, Int.zero_add]
        · rw [e4 k]
          by_cases ek : k = i
          · subst ek
            rw [if_neg (by omega), if_neg (fun z => hl ⟨z.1.2.2, z.2⟩)]
          · by_cases c9 : (i + 1 ≤ k ∧ k < 10 ∧ k < N) ∧ 3 ≤ pc (iand (f k) w)
            · rw [if_pos c9, if_pos ⟨⟨by omega, c9.1.2⟩, c9.2⟩]
            · rw [if_neg c9, if_neg (fun z => c9 ⟨⟨by omega, z.1.2⟩, z.2⟩)]
      · refine ⟨s, ?_, Kp.rf _ _, rfl, fun k => ?_⟩
        · have z : ∀ (d : Nat) (j : Int), i ≤ j → sm (tkf f w N) d j = 0 := fun d => by
            induction d with
            | zero => intros; rfl
            | succ d ih =>
              intro j hj
              simp only [sm]
              rw [ih (j + 1) (by omega), tkf, if_neg (fun z => by omega), Int.zero_add]
          simp only [fX12_theme_107, fX12_theme_149, hN]
          rw [if_neg hiN, if_pos hp, if_pos hp, tkf, if_neg hl, z d (i + 1) (by omega), Int.add_zero]
          simp
        · rw [if_neg (fun z => by omega)]
theorem op_theme {t : Int} {c m : St} (h : rl t c m) (p w dd : Int) : Step t (cdn 3 1 9) c m (FX11_theme 0 p w dd c) (FX12_theme 0 p w dd m) := by
  have hn := h.n
  by_cases hp : 0 ≤ p ∧ p < gm m 12 0 1
  · have hp1 : ¬ p = -1 := by omega
    have hp9 : 0 ≤ p ∧ p < 10 := by omega
    by_cases hw : (1 ≤ w ∧ w ≤ 4095) ∧ (1 ≤ dd ∧ dd ≤ 99)
    · obtain ⟨hw, hd⟩ := hw
      have h13 : ∀ i : Int, 0 ≤ i → i < 10 → gm (pm c 6 p 8 0) 13 0 i = if i < gm m 12 0 1 then i else -1 := fun i i0 i1 => by
        rw [gm_pm, if_neg (by omega)]
        exact h.1.2.1 i i0 i1
      have fw : ∀ i : Int, 0 ≤ i → i < 10 → (0 ≤ (if i = p then 0 else gm m 106 0 i) ∧ (if i = p then 0 else gm m 106 0 i) < 4096) ∧ (i < gm m 12 0 1 → gm (pm c 6 p 8 0) 6 i 8 = (if i = p then 0 else gm m 106 0 i) ∧ ((if i = p then 0 else gm m 106 0 i) ≠ 0 → gm (pm c 6 p 8 0) 6 i 9 = gm m 107 0 i)) := fun i i0 i1 => by
        obtain ⟨a, -, d⟩ := h.hT i i0 i1
        simp only [gm_pm]
        by_cases e : i = p
        · simp [e]
        · simp [e]
          exact ⟨a, d⟩
      have fm : ∀ i : Int, 0 ≤ i → i < 10 → gm (pm (pm m 12 0 0 0) 106 0 p 0) 106 0 i = (if i = p then 0 else gm m 106 0 i) := fun i i0 i1 => by
        simp only [gm_pm]
        simp
      have c1 := ecRefused (f := fun i => if i = p then 0 else gm m 106 0 i) (g := fun i => gm m 107 0 i) (w := w) (dd := dd) h13 (fun i i0 i1 i2 => ⟨((fw i i0 i1).2 i2).1, (fw i i0 i1).1.1, (fw i i0 i1).1.2, ((fw i i0 i1).2 i2).2⟩)
      have hm1 : gm (pm (pm m 12 0 0 0) 106 0 p 0) 12 0 1 = gm m 12 0 1 := by simp [gm_pm]
      obtain ⟨n', hn', m1⟩ := emRefused_lp (f := fun i => if i = p then 0 else gm m 106 0 i) (g := fun i => gm m 107 0 i) (p := p) (w := w) (dd := dd) (s := pm (pm m 12 0 0 0) 106 0 p 0) hm1 hn.2 (fun i i0 i1 => ⟨fm i i0 i1, (fw i i0 i1).1.1, (fw i i0 i1).1.2, by simp [gm_pm]⟩) 10 9989 0 (by omega) (by omega)
      have ce : FX11_theme 0 p w dd c = bnd (FX11_isThemeRefused 0 w dd (pm c 6 p 8 0)) fun x1 s1 => if x1 = 0 then fX11_theme_70 (kX11_theme 0) 0 w dd p s1 else some (0, -1, s1) := by
        simp only [fX11_theme_0, fX11_theme_22, fX11_theme_43, fX11_theme_53, FX11_theme, h.soc, ecWithin, bnd_ok, if_pos hp, if_neg hp1, if_pos hw, if_pos hd, if_pos hp.1]
        simp
      have me : FX12_theme 0 p w dd m = fX12_theme_57 (kX12_theme 9999) 0 p w dd 0 (pm (pm m 12 0 0 0) 106 0 p 0) := by
        simp only [fX12_theme_0, fX12_theme_13, fX12_theme_38, fX12_theme_39, fX12_theme_47, FX12_theme, h.isS, emIn, emHolds, bnd_ok, if_pos hp, if_pos hw, if_pos hd, if_pos hp9]
        simp
      rcases rfu_01 (fun i => if i = p then 0 else gm m 106 0 i) (fun i => gm m 107 0 i) w dd (gm m 12 0 1) 10 0 with e | e
      · obtain ⟨c2, d1, d2, d3, d4⟩ := ecTake_lp (f := fun i => if i = p then 0 else gm m 106 0 i) (w := w) (N := gm m 12 0 1) 10 9999 0 0 (pm c 6 p 8 0) h13 (fun k k0 k1 k2 => ⟨((fw k k0 k1).2 k2).1, (fw k k0 k1).1.1, (fw k k0 k1).1.2⟩) (by omega) (by omega) (by omega) (by omega) (by omega)
        obtain ⟨m2, e1, e2, e3, e4⟩ := emTake_lp (f := fun i => if i = p then 0 else gm m 106 0 i) (p := p) (w := w) (dd := dd) (N := gm m 12 0 1) hp9 hn.2 10 n' 0 0 (pm (pm m 12 0 0 0) 106 0 p 0) hm1 (fun k k0 k1 => ⟨fm k k0 k1, (fw k k0 k1).1.1, (fw k k0 k1).1.2⟩) (by omega) (by omega) (by omega) (by omega) (by omega)
        have kc : Kp [(6, some 8), (6, some 9)] c (pm (pm c2 6 p 8 w) 6 p 9 dd) := Kp.pm (Kp.pm (Kp.tr (Kp.pm (Kp.rf _ _) (Or.inr (by decide))) (d2.wk (by decide))) (Or.inr (by decide))) (Or.inr (by decide))
        have km : Kp [(12, some 0), (106, none), (107, none)] m (pm (pm m2 106 0 p w) 107 0 p dd) := Kp.pm (Kp.pm (Kp.tr (Kp.pm (Kp.pm (Kp.rf _ _) (Or.inr (by decide))) (Or.inl (by decide))) (e2.wk (by decide))) (Or.inl (by decide))) (Or.inl (by decide))
        refine Step.ok (v := 0 + sm (tkf (fun i => if i = p then 0 else gm m 106 0 i) w (gm m 12 0 1)) 10 0) (c' := pm (pm c2 6 p 8 w) 6 p 9 dd) (m' := pm (pm m2 106 0 p w) 107 0 p dd) ?_ ?_ kc km (by decide) (by decide) ?_ ?_ ?_
        · rw [ce, c1, e]
          simp only [bnd_ok, if_true, fX11_theme_70, FX11_takeThemesAway, fX11_takeThemesAway_0, d1, if_pos hp.1]
        · rw [me, m1, e, if_neg (by decide)]
          simp only [fX12_theme_101, e1]
        · rw [gm_pm, if_neg (by omega), gm_pm, if_neg (by omega), e2.f (by decide) 0, gm_pm, if_neg (by omega), gm_pm, if_pos ⟨rfl, rfl, rfl⟩]
        · exact e3
        · refine rl.keep0 h kc km d3 ?_ ?_ ?_ ?_ ?_ ?_ ?_ ?_ ?_ ?_ ?_ ?_ ?_ ?_ <;> first | exact fun e => absurd e (by decide) | intro _
          have nN : gm (pm (pm m2 106 0 p w) 107 0 p dd) 12 0 1 = gm m 12 0 1 := km.f (by decide) 0
          have g6 : ∀ k, gm (pm (pm c2 6 p 8 w) 6 p 9 dd) 6 k 8 = if k = p then w else gm c2 6 k 8 := fun k => by
            simp only [gm_pm]; simp
          have g7 : ∀ k, gm (pm (pm c2 6 p 8 w) 6 p 9 dd) 6 k 9 = if k = p then dd else gm c 6 k 9 := fun k => by
            have r := d2.f (k := 6) (j := 9) (by decide) k
            simp only [gm_pm] at r ⊢
            simp at r ⊢
            rw [r]
          have g8 : ∀ k, gm (pm (pm m2 106 0 p w) 107 0 p dd) 106 0 k = if k = p then w else gm m2 106 0 k := fun k => by
            simp only [gm_pm]; simp
          have g9 : ∀ k, gm (pm (pm m2 106 0 p w) 107 0 p dd) 107 0 k = if k = p then dd else gm m 107 0 k := fun k => by
            have r := e2.k (k := 107) (by decide) 0 k
            simp only [gm_pm] at r ⊢
            simp at r ⊢
            rw [r]
          intro i i0 i1
          obtain ⟨a1, a2, a3⟩ := h.hT i i0 i1
          rw [nN, g6, g7, g8, g9, d4 i, e4 i]
          simp only [gm_pm]
          by_cases ep : i = p
          · simp only [if_pos ep, if_true]
            exact ⟨by omega, fun z => by omega, fun _ => by simp⟩
          · simp only [if_neg ep]
            by_cases c9 : (0 ≤ i ∧ i < 10 ∧ i < gm m 12 0 1) ∧ 3 ≤ pc (iand (gm m 106 0 i) w)
            · simp only [if_pos c9]
              simp
            · simp only [if_neg c9]
              simp [ep]
              exact ⟨a1, a2, a3⟩
      · have kc : Kp [(6, some 8)] c (pm c 6 p 8 0) := Kp.pm (Kp.rf _ _) (Or.inr (by decide))
        have km : Kp [(12, some 0), (106, none)] m (pm (pm m 12 0 0 0) 106 0 p 0) := Kp.pm (Kp.pm (Kp.rf _ _) (Or.inr (by decide))) (Or.inl (by decide))
        refine Step.ok (v := -1) (c' := pm c 6 p 8 0) (m' := pm (pm m 12 0 0 0) 106 0 p 0) ?_ ?_ kc km (by decide) (by decide) (by simp [gm_pm]) rfl ?_
        · rw [ce, c1, e]
          simp [bnd_ok]
        · rw [me, m1, e]
          simp
        · refine rl.keep0 h kc km rfl ?_ ?_ ?_ ?_ ?_ ?_ ?_ ?_ ?_ ?_ ?_ ?_ ?_ ?_ <;> first | exact fun e => absurd e (by decide) | intro _
          intro i i0 i1
          obtain ⟨a1, a2, a3⟩ := h.hT i i0 i1
          simp only [gm_pm]
          by_cases ep : i = p
          · simp [ep]
          · simp [ep]
            exact ⟨a1, a2, a3⟩
    · refine Step.thr h (o := 1) (v := 0) (x := 0) (k := 2) (by decide) ?_ ?_ rfl
      · simp only [FX11_theme, fX11_theme_0, fX11_theme_22, fX11_theme_43, fX11_theme_53, fX11_theme_70, h.soc, ecWithin, bnd_ok, if_pos hp]
        grind
      · simp only [FX12_theme, fX12_theme_0, fX12_theme_13, fX12_theme_38, fX12_theme_39, fX12_theme_47, fX12_theme_57, fX12_theme_95, fX12_theme_101, fX12_theme_107, fX12_theme_143, fX12_theme_149, h.isS, emIn, emHolds, bnd_ok, if_pos hp]
        grind
  · refine Step.thr h (o := 3) (v := 0) (x := 0) (k := 1) (by decide) ?_ ?_ rfl
    · simp [FX11_theme, fX11_theme_0, fX11_theme_22, fX11_theme_43, fX11_theme_53, fX11_theme_70, h.soc, bnd_ok, hp]
    · simp [FX12_theme, fX12_theme_0, fX12_theme_13, fX12_theme_38, fX12_theme_39, fX12_theme_47, fX12_theme_57, fX12_theme_95, fX12_theme_101, fX12_theme_107, fX12_theme_143, fX12_theme_149, h.isS, emHolds, bnd_ok, hp]
