/-! A constructor that is private, of a nest mate. -/
section CTORN
variable {p : Program} {l : Launch} {e : Env} {R : Room} {s : State} {m : MethodId} {args : Array Value} {below : List Frame} {meth : Method} {c : Code} {H : Heap} {locs : List Loc} {cells slots : Nat} {Q : State → Prop}
variable {w : Wd} {own : String} {cc : ByteArray} {nL a sz k pc i : Nat} {fs : List Value} {rest : List va_E} {ls : Array Slot} {sk : List Value}
theorem ct_callN (hk : KX p s m meth c w own cc nL) {k2 np nL2 fr lo ms : Nat} {y2 : MethodName} {cc2 : ByteArray} {aos : List String} {tr : Wd → Nat → List Int → Tr} {xs : List Int} {vs : List Value} (hT : CT k2 y2 cc2 nL2 np fr lo ms aos tr) (hI : CI w s a sz k fs (rest ++ [.inr (k2, dfs k2)]) H locs) (hdg : decode cc pc = .ok (.invokespecial i, 3))
    (hsz : ls.size = nL) (hxs : xs.length = np) (hvs : vs = (xs.map (fun v => Value.int (i32 v))).reverse) (hao : ∀ C ∈ aos, va_AO C s) (hm : Cond.methodLinkNest own i y2 "Floatparade" ∈ TW) (hcode : Cond.code y2 cc2 nL2 none ∈ TW) (hini : Cond.initialized y2.cls ∈ TW) (hinst : Cond.instanceMethod y2 ∈ TW) (hyn : y2.name = "<init>")
    (hy : y2.cls ≠ "java/lang/invoke/MethodHandle" ∧ y2.cls ≠ "java/lang/invoke/VarHandle") (hsig : ∀ sig, parseMethodDescriptor y2.desc = some sig → np = sig.parameters.length) (hcat : (sk.map fun v => v.category).sum ≤ 8) (hfr : fr + 1 ≤ R.frames) (hlo : 8 + (nL2 + 11) + lo ≤ R.locals)
    (hc9 : cells + (tr w (sz + rest.length + 1) xs).2.length ≤ R.cells) (hs9 : slots + ms ≤ R.slots)
    (kk : ∀ H1 locs1, CI w s a sz k fs (rest ++ .inr (k2, (tr w (sz + rest.length + 1) xs).1) :: (tr w (sz + rest.length + 1) xs).2) H1 locs1 → W p l e R s m args below meth c H1 locs1 (cells + (tr w (sz + rest.length + 1) xs).2.length) (slots + ms) Q (F0 m (pc + 3) ls sk)) : W p l e R s m args below meth c H locs cells slots Q (F0 m pc ls (vs ++ .ref (sz + rest.length) :: sk)) := by
  obtain ⟨hx, hb, hml, hown, hkw, hin⟩ := hk
  have hts : ∀ w' ∈ TW, w'.before args s = true := fun w' h => hkw.2.1.at h _
  have hM := hT l w (sz + rest.length + 1) (sz + rest.length) xs hxs
  have hCF : CallFix p m c cc nL s args [] own := ⟨hx, hb, hml, hown, fun _ h => nomatch h⟩
  have hI' := hI
  obtain ⟨g1, g2, g3, g4, g5, g6, g7⟩ := hI
  have gb : va_at w.1 vwCl (sz + rest.length, .inr (k2, dfs k2)) H := g2 rest.length _ (by simp)
  have hPS : PreS s H (Pk w (sz + rest.length + 1) (sz + rest.length) k2 xs aos) (.ref (sz + rest.length) :: xs.map (fun v => Value.int (i32 v))) :=
    ⟨Pk.blind _ _ _ _ _ _, fun U hU hW => ⟨rfl, by rw [hU]; exact gb, by rw [hU, g3]; simp; omega, Nat.lt_succ_self _, hkw.warm hW, fun C hC => va_AO.moved hW.alike (hao C hC)⟩⟩
  have hstk : (F0 m pc ls (vs ++ .ref (sz + rest.length) :: sk)).stack = (xs.map (fun v => Value.int (i32 v))).reverse ++ .ref (sz + rest.length) :: sk := by rw [hvs]
  have hrun := va_runIN (host := "Floatparade") (e := e) (R := R) (below := below) (meth := meth) (locs := locs) (cells := cells) (slots := slots) (n := np) (own := own) (index := i) hCF hM ⟨⟨⟨rfl, rfl, hfr, hlo, fun w9 hw a' U hW => by rw [List.mem_singleton.mp hw]; exact (hkw.2.1.warm hW).at hcode a', List.mem_singleton_self _⟩, hts _ hcode, hts _ hini, hy, hsig, hts _ hm⟩, hyn, hts _ hinst⟩ hPS rfl (by simp [hxs]) hsz hstk (lv_room hcat) hdg ⟨hc9, hs9⟩
  intro T hT9 X
  obtain ⟨v, st₀, u, T', L', h0, X', hL, e1, e2, ⟨ho, f1, f2, f3, f4⟩, st⟩ := hrun T hT9 X
  cases ho
  have hH : T'.heap = u.heap := e1
  have hCI : CI w s a sz k fs (rest ++ .inr (k2, (tr w (sz + rest.length + 1) xs).1) :: (tr w (sz + rest.length + 1) xs).2) T'.heap (locs ++ L') := by
    rw [hH]
    refine ⟨g1.kept ?_, fun i9 e9 he => ?_, by rw [f3]; simp; omega, g4, g5, fun q hq hn => ?_, fun z hz => ?_⟩
    · rw [f4 a (by omega) (by omega), h0]
    · by_cases hi : i9 < rest.length
      · rw [List.getElem?_append_left hi] at he
        have h9 := g2 i9 e9 (by rw [List.getElem?_append_left hi]; exact he)
        refine h9.kept ?_
        show u.heap[sz + i9]? = H[sz + i9]?
        rw [f4 (sz + i9) (by omega) (by omega), h0]
      · rw [List.getElem?_append_right (by omega)] at he
        by_cases hi2 : i9 = rest.length
        · subst hi2
          rw [Nat.sub_self] at he
          cases he
          exact f1
        · obtain ⟨j9, hj9⟩ : ∃ j9, i9 - rest.length = j9 + 1 := ⟨i9 - rest.length - 1, by omega⟩
          rw [hj9] at he
          have h9 := f2 j9 e9 he
          rw [show sz + i9 = sz + rest.length + 1 + j9 by omega]
          exact h9
    · rw [f4 q (by omega) (by omega), h0]; exact g6 q hq hn
    · rcases List.mem_append.mp hz with hz | hz
      · exact g7 z hz
      · rcases hL z hz with h9 | h9
        · right; rw [h9]; omega
        · right; have h9 : sz + rest.length + 1 ≤ z.base := h9; omega
  obtain ⟨t2, a1, b1⟩ := kk T'.heap (locs ++ L') hCI T' rfl X'
  exact ⟨t2, st t2 a1, b1⟩
end CTORN
