theorem rlM.mono {t t' : Int} {c m : St} (h : rlM t c m) (ht : t ≤ t') : rlM t' c m := by
  intro i h0 h1
  obtain ⟨a, b, d⟩ := h i h0 h1
  exact ⟨a, ⟨b.1, by omega⟩, d⟩
theorem rlS.mono {t t' : Int} {c m : St} (h : rlS t c m) (ht : t ≤ t') : rlS t' c m := by
  intro i h0 h1
  obtain ⟨a, b⟩ := h i h0 h1
  refine ⟨a, fun hi => ?_⟩
  obtain ⟨b1, b2, b3, b4, b5⟩ := b hi
  refine ⟨b1, b2, b3, b4, fun k k0 k1 => ?_⟩
  obtain ⟨d1, d2, d3, d4⟩ := b5 k k0 k1
  exact ⟨d1, d2, d3, by omega⟩
theorem rlP.mono {t t' : Int} {c m : St} {p q l : Int} (h : rlP t c m p q l) (ht : t ≤ t') : rlP t' c m p q l := by
  obtain ⟨a1, a2, a3, a4, ⟨a5, a6, a7⟩, a8⟩ := h
  exact ⟨a1, a2, a3, a4, ⟨a5, a6, by omega⟩, a8⟩
theorem rlL.mono {t t' : Int} {c m : St} (h : rlL t c m) (ht : t ≤ t') : rlL t' c m := by
  obtain ⟨h, h8, h9⟩ := h
  refine ⟨fun l l0 l1 => ?_, h8, h9⟩
  obtain ⟨a1, a2, a3, a4, a5⟩ := h l l0 l1
  refine ⟨a1, a2, fun hp => ?_, fun k k0 k1 => ⟨(a4 k k0 k1).1, (a4 k k0 k1).2.mono ht⟩, a5⟩
  obtain ⟨⟨b1, b2, b3⟩, b4⟩ := a3 hp
  exact ⟨⟨b1, b2, by omega⟩, b4⟩
theorem rlK.mono {t t' : Int} {c m : St} (h : rlK t c m) (ht : t ≤ t') : rlK t' c m := by
  intro i h0 h1
  obtain ⟨a, b⟩ := h i h0 h1
  refine ⟨a, fun hi => ?_⟩
  obtain ⟨⟨b1, b2, b3⟩, ⟨d1, d2, d3⟩, e1, e2, e3⟩ := b hi
  exact ⟨⟨b1, b2, by omega⟩, ⟨d1, d2, by omega⟩, e1, e2, by omega⟩
def ckA (T U : List (Nat × Option Int)) : Bool := fre T 11 3 && fre T 6 0 && fre T 6 1 && fre T 6 5 && fre T 0 0 && frk T 13 && frk T 14 && fre U 12 1 && frk U 103 && frk U 102
theorem rlA.kp {T U : List (Nat × Option Int)} {c c' m m' : St} (h : rlA c m) (hc : Kp T c c') (hm : Kp U m m') (hd : ckA T U = true) (n6 : c'.2 6 = c.2 6) : rlA c' m' := by
  simp only [ckA, Bool.and_eq_true] at hd
  obtain ⟨⟨⟨⟨⟨⟨⟨⟨⟨e0, e1⟩, e2⟩, e3⟩, e4⟩, e5⟩, e6⟩, e7⟩, e8⟩, e9⟩ := hd
  simp only [rlA] at h ⊢
  simp only [hc.f e0, hc.f e1, hc.f e2, hc.f e3, hc.f e4, hc.k e5, hc.k e6, hm.f e7, hm.k e8, hm.k e9, n6]
  exact h
def ckM (T U : List (Nat × Option Int)) : Bool := fre T 6 6 && fre U 12 1 && frk U 104
theorem rlM.kp {t : Int} {T U : List (Nat × Option Int)} {c c' m m' : St} (h : rlM t c m) (hc : Kp T c c') (hm : Kp U m m') (hd : ckM T U = true) : rlM t c' m' := by
  simp only [ckM, Bool.and_eq_true] at hd
  obtain ⟨⟨e0, e1⟩, e2⟩ := hd
  simp only [rlM] at h ⊢
  simp only [hc.f e0, hm.f e1, hm.k e2]
  exact h
def ckF (T U : List (Nat × Option Int)) : Bool := fre T 6 7 && fre U 12 1 && frk U 105
theorem rlF.kp {T U : List (Nat × Option Int)} {c c' m m' : St} (h : rlF c m) (hc : Kp T c c') (hm : Kp U m m') (hd : ckF T U = true) : rlF c' m' := by
  simp only [ckF, Bool.and_eq_true] at hd
  obtain ⟨⟨e0, e1⟩, e2⟩ := hd
  simp only [rlF] at h ⊢
  simp only [hc.f e0, hm.f e1, hm.k e2]
  exact h
def ckT (T U : List (Nat × Option Int)) : Bool := fre T 6 8 && fre T 6 9 && fre U 12 1 && frk U 106 && frk U 107
theorem rlT.kp {T U : List (Nat × Option Int)} {c c' m m' : St} (h : rlT c m) (hc : Kp T c c') (hm : Kp U m m') (hd : ckT T U = true) : rlT c' m' := by
  simp only [ckT, Bool.and_eq_true] at hd
  obtain ⟨⟨⟨⟨e0, e1⟩, e2⟩, e3⟩, e4⟩ := hd
  simp only [rlT] at h ⊢
  simp only [hc.f e0, hc.f e1, hm.f e2, hm.k e3, hm.k e4]
  exact h
def ckS (T U : List (Nat × Option Int)) : Bool := fre T 7 2 && fre T 7 3 && frk T 16 && frk T 17 && fre U 12 1 && frk U 108 && frk U 109 && frk U 110 && frk U 111
theorem rlS.kp {t : Int} {T U : List (Nat × Option Int)} {c c' m m' : St} (h : rlS t c m) (hc : Kp T c c') (hm : Kp U m m') (hd : ckS T U = true) : rlS t c' m' := by
  simp only [ckS, Bool.and_eq_true] at hd
  obtain ⟨⟨⟨⟨⟨⟨⟨⟨e0, e1⟩, e2⟩, e3⟩, e4⟩, e5⟩, e6⟩, e7⟩, e8⟩ := hd
  simp only [rlS] at h ⊢
  simp only [hc.f e0, hc.f e1, hc.k e2, hc.k e3, hm.f e4, hm.k e5, hm.k e6, hm.k e7, hm.k e8]
  exact h
def ckW (T U : List (Nat × Option Int)) : Bool := fre T 6 10 && frk T 15 && frk T 10 && fre U 12 1 && frk U 112 && frk U 113
theorem rlW.kp {T U : List (Nat × Option Int)} {c c' m m' : St} (h : rlW c m) (hc : Kp T c c') (hm : Kp U m m') (hd : ckW T U = true) (n10 : c.2 10 ≤ c'.2 10) : rlW c' m' := by
  simp only [ckW, Bool.and_eq_true] at hd
  obtain ⟨⟨⟨⟨⟨e0, e1⟩, e2⟩, e3⟩, e4⟩, e5⟩ := hd
  simp only [rlW] at h ⊢
  simp only [hc.f e0, hc.k e1, hc.k e2, hm.f e3, hm.k e4, hm.k e5]
  refine ⟨fun i h0 h1 => ?_, h.2⟩
  obtain ⟨a, b, d⟩ := h.1 i h0 h1
  refine ⟨a, b, fun hi => ⟨(d hi).1, fun k k0 k1 => ?_⟩⟩
  obtain ⟨⟨f1, f2⟩, f3⟩ := (d hi).2 k k0 k1
  exact ⟨⟨f1, by omega⟩, f3⟩
def ckD (T U : List (Nat × Option Int)) : Bool := fre T 9 2 && frk T 22 && frk T 8 && fre U 12 14 && frk U 115 && frk U 116 && frk U 117 && frk U 118 && frk U 119 && frk U 120
theorem rlD.kp {T U : List (Nat × Option Int)} {c c' m m' : St} (h : rlD c m) (hc : Kp T c c') (hm : Kp U m m') (hd : ckD T U = true) (n8 : c'.2 8 = c.2 8) : rlD c' m' := by
  simp only [ckD, Bool.and_eq_true] at hd
  obtain ⟨⟨⟨⟨⟨⟨⟨⟨⟨e0, e1⟩, e2⟩, e3⟩, e4⟩, e5⟩, e6⟩, e7⟩, e8⟩, e9⟩ := hd
  simp only [rlD, jns] at h ⊢
  simp only [hc.f e0, hc.k e1, hc.k e2, hm.f e3, hm.k e4, hm.k e5, hm.k e6, hm.k e7, hm.k e8, hm.k e9, n8]
  exact h
def ckJ (T U : List (Nat × Option Int)) : Bool := frk T 23 && frk U 123
theorem rlJ.kp {T U : List (Nat × Option Int)} {c c' m m' : St} (h : rlJ c m) (hc : Kp T c c') (hm : Kp U m m') (hd : ckJ T U = true) : rlJ c' m' := by
  simp only [ckJ, Bool.and_eq_true] at hd
  obtain ⟨e0, e1⟩ := hd
  simp only [rlJ] at h ⊢
  simp only [hc.k e0, hm.k e1]
  exact h
def ckR (T U : List (Nat × Option Int)) : Bool := fre T 3 3 && frk T 25 && frk T 24 && frk T 26 && fre U 12 14 && frk U 121 && frk U 122 && frk U 115 && frk U 116 && frk U 117
theorem rlR.kp {T U : List (Nat × Option Int)} {c c' m m' : St} (h : rlR c m) (hc : Kp T c c') (hm : Kp U m m') (hd : ckR T U = true) : rlR c' m' := by
  simp only [ckR, Bool.and_eq_true] at hd
  obtain ⟨⟨⟨⟨⟨⟨⟨⟨⟨e0, e1⟩, e2⟩, e3⟩, e4⟩, e5⟩, e6⟩, e7⟩, e8⟩, e9⟩ := hd
  simp only [rlR, jns] at h ⊢
  simp only [hc.f e0, hc.k e1, hc.k e2, hc.k e3, hm.f e4, hm.k e5, hm.k e6, hm.k e7, hm.k e8, hm.k e9]
  exact h
def ckO (T U : List (Nat × Option Int)) : Bool := fre T 6 15 && fre T 6 11 && fre T 4 1 && frk T 27 && fre U 12 1 && frk U 124 && frk U 125 && frk U 126 && frk U 127 && frk U 121 && frk U 102
theorem rlO.kp {T U : List (Nat × Option Int)} {c c' m m' : St} (h : rlO c m) (hc : Kp T c c') (hm : Kp U m m') (hd : ckO T U = true) : rlO c' m' := by
  simp only [ckO, Bool.and_eq_true] at hd
  obtain ⟨⟨⟨⟨⟨⟨⟨⟨⟨⟨e0, e1⟩, e2⟩, e3⟩, e4⟩, e5⟩, e6⟩, e7⟩, e8⟩, e9⟩, e10⟩ := hd
  simp only [rlO] at h ⊢
  simp only [hc.f e0, hc.f e1, hc.f e2, hc.k e3, hm.f e4, hm.k e5, hm.k e6, hm.k e7, hm.k e8, hm.k e9, hm.k e10]
  exact h
def ckC (T U : List (Nat × Option Int)) : Bool := fre T 11 4 && fre T 11 5 && fre T 11 6 && fre T 0 5 && fre U 12 51 && fre U 12 28 && fre U 12 42 && frk U 129
theorem rlC.kp {T U : List (Nat × Option Int)} {c c' m m' : St} (h : rlC c m) (hc : Kp T c c') (hm : Kp U m m') (hd : ckC T U = true) : rlC c' m' := by
  simp only [ckC, Bool.and_eq_true] at hd
  obtain ⟨⟨⟨⟨⟨⟨⟨e0, e1⟩, e2⟩, e3⟩, e4⟩, e5⟩, e6⟩, e7⟩ := hd
  simp only [rlC] at h ⊢
  simp only [hc.f e0, hc.f e1, hc.f e2, hc.f e3, hm.f e4, hm.f e5, hm.f e6, hm.k e7]
  exact h
def ckL (T U : List (Nat × Option Int)) : Bool := fre T 1 6 && fre T 1 7 && fre T 1 2 && fre T 1 3 && fre T 1 4 && fre T 1 5 && frk T 28 && frk T 2 && frk T 29 && fre U 12 1 && frk U 130 && frk U 134 && frk U 126 && frk U 131 && frk U 132 && frk U 133 && frk U 135 && frk U 136 && frk U 137 && frk U 138 && frk U 139 && frk U 140 && frk U 141 && frk U 121 && frk U 122 && frk U 102 && frk U 124 && frk U 143
theorem rlL.kp {t : Int} {T U : List (Nat × Option Int)} {c c' m m' : St} (h : rlL t c m) (hc : Kp T c c') (hm : Kp U m m') (hd : ckL T U = true) (n2 : c.2 2 ≤ c'.2 2) : rlL t c' m' := by
  simp only [ckL, Bool.and_eq_true] at hd
  obtain ⟨⟨⟨⟨⟨⟨⟨⟨⟨⟨⟨⟨⟨⟨⟨⟨⟨⟨⟨⟨⟨⟨⟨⟨⟨⟨⟨e0, e1⟩, e2⟩, e3⟩, e4⟩, e5⟩, e6⟩, e7⟩, e8⟩, e9⟩, e10⟩, e11⟩, e12⟩, e13⟩, e14⟩, e15⟩, e16⟩, e17⟩, e18⟩, e19⟩, e20⟩, e21⟩, e22⟩, e23⟩, e24⟩, e25⟩, e26⟩, e27⟩ := hd
  simp only [rlL, rlP] at h ⊢
  simp only [hc.f e0, hc.f e1, hc.f e2, hc.f e3, hc.f e4, hc.f e5, hc.k e6, hc.k e7, hc.k e8, hm.f e9, hm.k e10, hm.k e11, hm.k e12, hm.k e13, hm.k e14, hm.k e15, hm.k e16, hm.k e17, hm.k e18, hm.k e19, hm.k e20, hm.k e21, hm.k e22, hm.k e23, hm.k e24, hm.k e25, hm.k e26, hm.k e27]
  refine ⟨h.1, fun l k l0 l1 k0 k1 => ?_, h.2.2⟩
  obtain ⟨f1, f2⟩ := h.2.1 l k l0 l1 k0 k1
  exact ⟨f1, by omega⟩
def ckH (T U : List (Nat × Option Int)) : Bool := fre T 5 4 && frk T 18 && frk T 19 && frk T 20 && frk T 21 && fre U 12 1 && frk U 146 && frk U 147 && frk U 148 && frk U 149 && frk U 150 && frk U 124 && frk U 130 && frk U 102
theorem rlH.kp {T U : List (Nat × Option Int)} {c c' m m' : St} (h : rlH c m) (hc : Kp T c c') (hm : Kp U m m') (hd : ckH T U = true) : rlH c' m' := by
  simp only [ckH, Bool.and_eq_true] at hd
  obtain ⟨⟨⟨⟨⟨⟨⟨⟨⟨⟨⟨⟨⟨e0, e1⟩, e2⟩, e3⟩, e4⟩, e5⟩, e6⟩, e7⟩, e8⟩, e9⟩, e10⟩, e11⟩, e12⟩, e13⟩ := hd
  simp only [rlH] at h ⊢
  simp only [hc.f e0, hc.k e1, hc.k e2, hc.k e3, hc.k e4, hm.f e5, hm.k e6, hm.k e7, hm.k e8, hm.k e9, hm.k e10, hm.k e11, hm.k e12, hm.k e13]
  exact h
def ckK (T U : List (Nat × Option Int)) : Bool := fre T 6 12 && fre T 6 13 && fre T 6 14 && fre U 12 1 && frk U 143 && frk U 144 && frk U 145
theorem rlK.kp {t : Int} {T U : List (Nat × Option Int)} {c c' m m' : St} (h : rlK t c m) (hc : Kp T c c') (hm : Kp U m m') (hd : ckK T U = true) : rlK t c' m' := by
  simp only [ckK, Bool.and_eq_true] at hd
  obtain ⟨⟨⟨⟨⟨⟨e0, e1⟩, e2⟩, e3⟩, e4⟩, e5⟩, e6⟩ := hd
  simp only [rlK] at h ⊢
  simp only [hc.f e0, hc.f e1, hc.f e2, hm.f e3, hm.k e4, hm.k e5, hm.k e6]
  exact h
def rl (t : Int) (c m : St) : Prop := rlA c m ∧ rlM t c m ∧ rlF c m ∧ rlT c m ∧ rlS t c m ∧ rlW c m ∧ rlD c m ∧ rlJ c m ∧ rlR c m ∧ rlO c m ∧ rlC c m ∧ rlL t c m ∧ rlH c m ∧ rlK t c m ∧ rlN t c
theorem rl.keep {t t' : Int} {T U : List (Nat × Option Int)} {c c' m m' : St} (h : rl t c m) (hc : Kp T c c') (hm : Kp U m m') (ht : t ≤ t') (n6 : ckA T U = true → c'.2 6 = c.2 6) (n8 : ckD T U = true → c'.2 8 = c.2 8) (n10 : c.2 10 ≤ c'.2 10) (n2 : c.2 2 ≤ c'.2 2) (hN : rlN t' c') (kA : ckA T U = false → rlA c' m') (kM : ckM T U = false → rlM t' c' m') (kF : ckF T U = false → rlF c' m') (kT : ckT T U = false → rlT c' m') (kS : ckS T U = false → rlS t' c' m') (kW : ckW T U = false → rlW c' m') (kD : ckD T U = false → rlD c' m') (kJ : ckJ T U = false → rlJ c' m') (kR : ckR T U = false → rlR c' m') (kO : ckO T U = false → rlO c' m') (kC : ckC T U = false → rlC c' m') (kL : ckL T U = false → rlL t' c' m') (kH : ckH T U = false → rlH c' m') (kK : ckK T U = false → rlK t' c' m') : rl t' c' m' := by
  obtain ⟨hA, hM, hF, hT, hS, hW, hD, hJ, hR, hO, hC, hL, hH, hK, -⟩ := h
  refine ⟨?_, ?_, ?_, ?_, ?_, ?_, ?_, ?_, ?_, ?_, ?_, ?_, ?_, ?_, hN⟩
  · cases e : ckA T U with
    | false => exact kA e
    | true => exact rlA.kp hA hc hm e (n6 e)
  · cases e : ckM T U with
    | false => exact kM e
    | true => exact rlM.kp (hM.mono ht) hc hm e
  · cases e : ckF T U with
    | false => exact kF e
    | true => exact rlF.kp hF hc hm e
  · cases e : ckT T U with
    | false => exact kT e
    | true => exact rlT.kp hT hc hm e
  · cases e : ckS T U with
    | false => exact kS e
    | true => exact rlS.kp (hS.mono ht) hc hm e
  · cases e : ckW T U with
    | false => exact kW e
    | true => exact rlW.kp hW hc hm e n10
  · cases e : ckD T U with
    | false => exact kD e
    | true => exact rlD.kp hD hc hm e (n8 e)
  · cases e : ckJ T U with
    | false => exact kJ e
    | true => exact rlJ.kp hJ hc hm e
  · cases e : ckR T U with
    | false => exact kR e
    | true => exact rlR.kp hR hc hm e
  · cases e : ckO T U with
    | false => exact kO e
    | true => exact rlO.kp hO hc hm e
  · cases e : ckC T U with
    | false => exact kC e
    | true => exact rlC.kp hC hc hm e
  · cases e : ckL T U with
    | false => exact kL e
    | true => exact rlL.kp (hL.mono ht) hc hm e n2
  · cases e : ckH T U with
    | false => exact kH e
    | true => exact rlH.kp hH hc hm e
  · cases e : ckK T U with
    | false => exact kK e
    | true => exact rlK.kp (hK.mono ht) hc hm e
