-- Floatparade$League.isRouteFixed()Z
noncomputable def fX0_isRouteFixed_25 (kb : Co) (y0 : Int) (s : St) : Res := if (y0 : Int) = 0 ∨ (y0 : Int) = 1 then some (0, y0, s) else none
noncomputable def fX0_isRouteFixed_24 (kb : Co) (s : St) : Res := fX0_isRouteFixed_25 kb 0 s
noncomputable def fX0_isRouteFixed_20 (kb : Co) (s : St) : Res := fX0_isRouteFixed_25 kb 1 s
noncomputable def fX0_isRouteFixed_0 (kb : Co) (a0 : Int) (s : St) : Res := if (gm s 1 a0 6) = 0 then (if 0 < (gm s 4 (2 * a0) 1) then fX0_isRouteFixed_20 kb s else fX0_isRouteFixed_24 kb s) else fX0_isRouteFixed_20 kb s
noncomputable def tX0_isRouteFixed_25 (kb : Co) : List Rw := []
noncomputable def tX0_isRouteFixed_24 (kb : Co) : List Rw := (25, [(7, 0)], [(0, 0)], fun xs ys s => fX0_isRouteFixed_25 kb (ys.getD 0 0) s) :: tX0_isRouteFixed_25 kb
noncomputable def tX0_isRouteFixed_20 (kb : Co) : List Rw := (24, [(7, 0)], [], fun xs ys s => fX0_isRouteFixed_24 kb s) :: tX0_isRouteFixed_24 kb
noncomputable def tX0_isRouteFixed_0 (kb : Co) : List Rw := (20, [(7, 0)], [], fun xs ys s => fX0_isRouteFixed_20 kb s) :: tX0_isRouteFixed_20 kb
noncomputable def rX0_isRouteFixed (kb : Co) : List Rw := (0, [(3, 0)], [], fun xs ys s => fX0_isRouteFixed_0 kb (xs.getD 0 0) s) :: tX0_isRouteFixed_0 kb
noncomputable def kX0_isRouteFixed : Nat → Co
  | 0 => nk
  | n + 1 => fam (rX0_isRouteFixed (kX0_isRouteFixed n)) nk
noncomputable def FX0_isRouteFixed (a0 : Int) (s : St) : Res := fX0_isRouteFixed_0 (kX0_isRouteFixed 0) a0 s
noncomputable def gX0_isRouteFixed : Fn := fun xs s => FX0_isRouteFixed (xs.getD 0 0) s
noncomputable def mdX0_isRouteFixed : MD := ([(3, 0)], (0, 0), yX0_isRouteFixed, cX0_isRouteFixed, (1, (some .boolean), 0, 0, []))
-- Floatparade$League.hasEntrant(LFloatparade$Society;)Z
noncomputable def fX0_hasEntrant_27 (kb : Co) (y0 : Int) (s : St) : Res := if (y0 : Int) = 0 ∨ (y0 : Int) = 1 then some (0, y0, s) else none
noncomputable def fX0_hasEntrant_26 (kb : Co) (s : St) : Res := fX0_hasEntrant_27 kb 0 s
noncomputable def fX0_hasEntrant_0 (kb : Co) (a0 a1 : Int) (s : St) : Res := if a1 = (-1) then fX0_hasEntrant_26 kb s else if 0 ≤ a1 then if (gm s 6 a1 5) = (gm s 0 a0 0) then (if 0 ≤ a1 then if (gm s 6 a1 15) = 0 then fX0_hasEntrant_26 kb s else fX0_hasEntrant_27 kb 1 s else none) else fX0_hasEntrant_26 kb s else none
noncomputable def tX0_hasEntrant_27 (kb : Co) : List Rw := []
noncomputable def tX0_hasEntrant_26 (kb : Co) : List Rw := (27, [(7, 0), (7, 0)], [(0, 0)], fun xs ys s => fX0_hasEntrant_27 kb (ys.getD 0 0) s) :: tX0_hasEntrant_27 kb
noncomputable def tX0_hasEntrant_0 (kb : Co) : List Rw := (26, [(7, 0), (7, 0)], [], fun xs ys s => fX0_hasEntrant_26 kb s) :: tX0_hasEntrant_26 kb
noncomputable def rX0_hasEntrant (kb : Co) : List Rw := (0, [(3, 0), (2, 6)], [], fun xs ys s => fX0_hasEntrant_0 kb (xs.getD 0 0) (xs.getD 1 0) s) :: tX0_hasEntrant_0 kb
noncomputable def kX0_hasEntrant : Nat → Co
  | 0 => nk
  | n + 1 => fam (rX0_hasEntrant (kX0_hasEntrant n)) nk
noncomputable def FX0_hasEntrant (a0 a1 : Int) (s : St) : Res := fX0_hasEntrant_0 (kX0_hasEntrant 0) a0 a1 s
noncomputable def gX0_hasEntrant : Fn := fun xs s => FX0_hasEntrant (xs.getD 0 0) (xs.getD 1 0) s
noncomputable def mdX0_hasEntrant : MD := ([(3, 0), (2, 6)], (0, 0), yX0_hasEntrant, cX0_hasEntrant, (2, (some .boolean), 0, 0, []))
-- Floatparade$Row.clear()V
noncomputable def fX4_clear_0 (kb : Co) (a0 : Int) (s : St) : Res := some (0, 0, (pm s 4 a0 1 0))
noncomputable def tX4_clear_0 (kb : Co) : List Rw := []
noncomputable def rX4_clear (kb : Co) : List Rw := (0, [(3, 4)], [], fun xs ys s => fX4_clear_0 kb (xs.getD 0 0) s) :: tX4_clear_0 kb
noncomputable def kX4_clear : Nat → Co
  | 0 => nk
  | n + 1 => fam (rX4_clear (kX4_clear n)) nk
noncomputable def FX4_clear (a0 : Int) (s : St) : Res := fX4_clear_0 (kX4_clear 0) a0 s
noncomputable def gX4_clear : Fn := fun xs s => FX4_clear (xs.getD 0 0) s
noncomputable def mdX4_clear : MD := ([(3, 4)], (9, 0), yX4_clear, cX4_clear, (1, none, 0, 0, []))
-- Floatparade.isWithin(III)Z
noncomputable def fX11_isWithin_15 (kb : Co) (y0 : Int) (s : St) : Res := if (y0 : Int) = 0 ∨ (y0 : Int) = 1 then some (0, y0, s) else none
noncomputable def fX11_isWithin_14 (kb : Co) (s : St) : Res := fX11_isWithin_15 kb 0 s
noncomputable def fX11_isWithin_0 (kb : Co) (a0 a1 a2 : Int) (s : St) : Res := if a0 < a1 then fX11_isWithin_14 kb s else if a2 < a0 then fX11_isWithin_14 kb s else fX11_isWithin_15 kb 1 s
noncomputable def tX11_isWithin_15 (kb : Co) : List Rw := []
noncomputable def tX11_isWithin_14 (kb : Co) : List Rw := (15, [(7, 0), (7, 0), (7, 0)], [(0, 0)], fun xs ys s => fX11_isWithin_15 kb (ys.getD 0 0) s) :: tX11_isWithin_15 kb
noncomputable def tX11_isWithin_0 (kb : Co) : List Rw := (14, [(7, 0), (7, 0), (7, 0)], [], fun xs ys s => fX11_isWithin_14 kb s) :: tX11_isWithin_14 kb
noncomputable def rX11_isWithin (kb : Co) : List Rw := (0, [(0, 0), (0, 0), (0, 0)], [], fun xs ys s => fX11_isWithin_0 kb (xs.getD 0 0) (xs.getD 1 0) (xs.getD 2 0) s) :: tX11_isWithin_0 kb
noncomputable def kX11_isWithin : Nat → Co
  | 0 => nk
  | n + 1 => fam (rX11_isWithin (kX11_isWithin n)) nk
noncomputable def FX11_isWithin (a0 a1 a2 : Int) (s : St) : Res := fX11_isWithin_0 (kX11_isWithin 0) a0 a1 a2 s
noncomputable def gX11_isWithin : Fn := fun xs s => FX11_isWithin (xs.getD 0 0) (xs.getD 1 0) (xs.getD 2 0) s
noncomputable def mdX11_isWithin : MD := ([(0, 0), (0, 0), (0, 0)], (0, 0), yX11_isWithin, cX11_isWithin, (3, (some .boolean), 0, 0, []))
-- Floatparade$Row.at(I)LFloatparade$Society;
noncomputable def fX4_at_33 (kb : Co) (y0 : Int) (s : St) : Res := some (0, y0, s)
noncomputable def fX4_at_32 (kb : Co) (s : St) : Res := fX4_at_33 kb (-1) s
noncomputable def fX4_at_0 (kb : Co) (a0 a1 : Int) (s : St) : Res := bnd (FX11_isWithin a1 0 (wr ((gm s 4 a0 1) - 1)) s) fun x1 s1 => if x1 = 0 then fX4_at_32 kb s1 else if a1 < 10 then (if 0 ≤ a1 ∧ a1 < 10 then fX4_at_33 kb (gm s1 27 a0 a1) s1 else none) else fX4_at_32 kb s1
noncomputable def tX4_at_33 (kb : Co) : List Rw := []
noncomputable def tX4_at_32 (kb : Co) : List Rw := (33, [(7, 0), (7, 0)], [(2, 6)], fun xs ys s => fX4_at_33 kb (ys.getD 0 0) s) :: tX4_at_33 kb
noncomputable def tX4_at_0 (kb : Co) : List Rw := (32, [(7, 0), (7, 0)], [], fun xs ys s => fX4_at_32 kb s) :: tX4_at_32 kb
noncomputable def rX4_at (kb : Co) : List Rw := (0, [(3, 4), (0, 0)], [], fun xs ys s => fX4_at_0 kb (xs.getD 0 0) (xs.getD 1 0) s) :: tX4_at_0 kb
noncomputable def kX4_at : Nat → Co
  | 0 => nk
  | n + 1 => fam (rX4_at (kX4_at n)) nk
noncomputable def FX4_at (a0 a1 : Int) (s : St) : Res := fX4_at_0 (kX4_at 0) a0 a1 s
noncomputable def gX4_at : Fn := fun xs s => FX4_at (xs.getD 0 0) (xs.getD 1 0) s
noncomputable def mdX4_at : MD := ([(3, 4), (0, 0)], (2, 6), yX4_at, cX4_at, (2, (some (.object "Floatparade$Society")), 1, 22, []))
-- Floatparade$League.orderKey(LFloatparade$Society;I)I
noncomputable def fX0_orderKey_30 (kb : Co) (y0 : Int) (s : St) : Res := some (0, y0, s)
noncomputable def fX0_orderKey_26 (kb : Co) (a1 : Int) (s : St) : Res := if 0 ≤ a1 then fX0_orderKey_30 kb (gm s 6 a1 11) s else none
noncomputable def fX0_orderKey_10 (kb : Co) (a0 a1 : Int) (s : St) : Res := if 0 ≤ a1 then if (gm s 6 a1 0) = (gm s 0 a0 5) then fX0_orderKey_30 kb 100 s else fX0_orderKey_26 kb a1 s else none
noncomputable def fX0_orderKey_0 (kb : Co) (a0 a1 a2 : Int) (s : St) : Res := if 0 ≤ a1 then if (gm s 6 a1 0) = a2 then some (0, (-1), s) else fX0_orderKey_10 kb a0 a1 s else none
noncomputable def tX0_orderKey_30 (kb : Co) : List Rw := []
noncomputable def tX0_orderKey_26 (kb : Co) : List Rw := (30, [(7, 0), (7, 0), (7, 0)], [(0, 0)], fun xs ys s => fX0_orderKey_30 kb (ys.getD 0 0) s) :: tX0_orderKey_30 kb
noncomputable def tX0_orderKey_10 (kb : Co) : List Rw := (26, [(7, 0), (2, 6), (7, 0)], [], fun xs ys s => fX0_orderKey_26 kb (xs.getD 0 0) s) :: tX0_orderKey_26 kb
noncomputable def tX0_orderKey_0 (kb : Co) : List Rw := (10, [(3, 0), (2, 6), (7, 0)], [], fun xs ys s => fX0_orderKey_10 kb (xs.getD 0 0) (xs.getD 1 0) s) :: tX0_orderKey_10 kb
noncomputable def rX0_orderKey (kb : Co) : List Rw := (0, [(3, 0), (2, 6), (0, 0)], [], fun xs ys s => fX0_orderKey_0 kb (xs.getD 0 0) (xs.getD 1 0) (xs.getD 2 0) s) :: tX0_orderKey_0 kb
noncomputable def kX0_orderKey : Nat → Co
  | 0 => nk
  | n + 1 => fam (rX0_orderKey (kX0_orderKey n)) nk
noncomputable def FX0_orderKey (a0 a1 a2 : Int) (s : St) : Res := fX0_orderKey_0 (kX0_orderKey 0) a0 a1 a2 s
noncomputable def gX0_orderKey : Fn := fun xs s => FX0_orderKey (xs.getD 0 0) (xs.getD 1 0) (xs.getD 2 0) s
noncomputable def mdX0_orderKey : MD := ([(3, 0), (2, 6), (0, 0)], (0, 0), yX0_orderKey, cX0_orderKey, (3, (some .int), 0, 0, []))
-- Floatparade$League.orderPlace(LFloatparade$Society;I)I
noncomputable def fX0_orderPlace_65 (kb : Co) (a3 : Int) (s : St) : Res := some (0, a3, s)
noncomputable def fX0_orderPlace_59 (kb : Co) (a0 a1 a2 a3 a4 : Int) (s : St) : Res := kb 19 [(3, 0, a0), (2, 6, a1), (0, 0, a2), (0, 0, a3), (0, 0, (wr (a4 + (-1)))), (7, 0, 0)] [] s
noncomputable def fX0_orderPlace_19 (kb : Co) (a0 a1 a2 a3 a4 : Int) (s : St) : Res := if a4 < 0 then fX0_orderPlace_65 kb a3 s else bnd (FX4_at (2 * a0) a4 s) fun x1 s1 => if x1 = (-1) then fX0_orderPlace_59 kb a0 a1 a2 a3 a4 s1 else bnd (FX0_orderKey a0 x1 a2 s1) fun x2 s2 => bnd (FX0_orderKey a0 a1 a2 s2) fun x3 s3 => if x3 < x2 then fX0_orderPlace_59 kb a0 a1 a2 a4 a4 s3 else fX0_orderPlace_59 kb a0 a1 a2 a3 a4 s3
noncomputable def fX0_orderPlace_0 (kb : Co) (a0 a1 a2 : Int) (s : St) : Res := fX0_orderPlace_19 kb a0 a1 a2 (gm s 4 (2 * a0) 1) (wr ((gm s 4 (2 * a0) 1) - 1)) s
noncomputable def tX0_orderPlace_65 (kb : Co) : List Rw := []
noncomputable def tX0_orderPlace_59 (kb : Co) : List Rw := (65, [(7, 0), (7, 0), (7, 0), (0, 0), (7, 0), (7, 0)], [], fun xs ys s => fX0_orderPlace_65 kb (xs.getD 0 0) s) :: tX0_orderPlace_65 kb
noncomputable def tX0_orderPlace_19 (kb : Co) : List Rw := (59, [(3, 0), (2, 6), (0, 0), (0, 0), (0, 0), (7, 0)], [], fun xs ys s => fX0_orderPlace_59 kb (xs.getD 0 0) (xs.getD 1 0) (xs.getD 2 0) (xs.getD 3 0) (xs.getD 4 0) s) :: tX0_orderPlace_59 kb
noncomputable def tX0_orderPlace_0 (kb : Co) : List Rw := (19, [(3, 0), (2, 6), (0, 0), (0, 0), (0, 0), (7, 0)], [], fun xs ys s => fX0_orderPlace_19 kb (xs.getD 0 0) (xs.getD 1 0) (xs.getD 2 0) (xs.getD 3 0) (xs.getD 4 0) s) :: tX0_orderPlace_19 kb
noncomputable def rX0_orderPlace (kb : Co) : List Rw := (0, [(3, 0), (2, 6), (0, 0), (7, 0), (7, 0), (7, 0)], [], fun xs ys s => fX0_orderPlace_0 kb (xs.getD 0 0) (xs.getD 1 0) (xs.getD 2 0) s) :: tX0_orderPlace_0 kb
noncomputable def kX0_orderPlace : Nat → Co
  | 0 => nk
  | n + 1 => fam (rX0_orderPlace (kX0_orderPlace n)) nk
noncomputable def FX0_orderPlace (a0 a1 a2 : Int) (s : St) : Res := fX0_orderPlace_0 (kX0_orderPlace 9999) a0 a1 a2 s
noncomputable def gX0_orderPlace : Fn := fun xs s => FX0_orderPlace (xs.getD 0 0) (xs.getD 1 0) (xs.getD 2 0) s
noncomputable def mdX0_orderPlace : MD := ([(3, 0), (2, 6), (0, 0)], (0, 0), yX0_orderPlace, cX0_orderPlace, (6, (some .int), 2, 43, []))
-- Floatparade$Row.insert(ILFloatparade$Society;)V
noncomputable def fX4_insert_61 (kb : Co) (a0 a1 a2 : Int) (s : St) : Res := if 0 ≤ a1 ∧ a1 < 10 then some (0, 0, (pm (pm s 27 a0 a1 a2) 4 a0 1 (wr ((gm (pm s 27 a0 a1 a2) 4 a0 1) + 1)))) else none
noncomputable def fX4_insert_36 (kb : Co) (a0 a1 a2 a3 : Int) (s : St) : Res := if a1 < a3 then (if 0 ≤ (wr (a3 - 1)) ∧ (wr (a3 - 1)) < 10 then if 0 ≤ a3 ∧ a3 < 10 then kb 36 [(3, 4, a0), (0, 0, a1), (2, 6, a2), (0, 0, (wr (a3 + (-1))))] [] (pm s 27 a0 a3 (gm s 27 a0 (wr (a3 - 1)))) else none else none) else fX4_insert_61 kb a0 a1 a2 s
noncomputable def fX4_insert_31 (kb : Co) (a0 a1 a2 : Int) (s : St) : Res := fX4_insert_36 kb a0 a1 a2 (gm s 4 a0 1) s
noncomputable def fX4_insert_30 (kb : Co) (s : St) : Res := some (0, 0, s)
noncomputable def fX4_insert_0 (kb : Co) (a0 a1 a2 : Int) (s : St) : Res := bnd (FX11_isWithin (gm s 4 a0 1) 0 (wr (10 - 1)) s) fun x1 s1 => if x1 = 0 then fX4_insert_30 kb s1 else bnd (FX11_isWithin a1 0 (gm s1 4 a0 1) s1) fun x2 s2 => if x2 = 0 then fX4_insert_30 kb s2 else fX4_insert_31 kb a0 a1 a2 s2
noncomputable def tX4_insert_61 (kb : Co) : List Rw := []
noncomputable def tX4_insert_36 (kb : Co) : List Rw := (61, [(3, 4), (0, 0), (2, 6), (7, 0)], [], fun xs ys s => fX4_insert_61 kb (xs.getD 0 0) (xs.getD 1 0) (xs.getD 2 0) s) :: tX4_insert_61 kb
noncomputable def tX4_insert_31 (kb : Co) : List Rw := (36, [(3, 4), (0, 0), (2, 6), (0, 0)], [], fun xs ys s => fX4_insert_36 kb (xs.getD 0 0) (xs.getD 1 0) (xs.getD 2 0) (xs.getD 3 0) s) :: tX4_insert_36 kb
noncomputable def tX4_insert_30 (kb : Co) : List Rw := (31, [(3, 4), (0, 0), (2, 6), (7, 0)], [], fun xs ys s => fX4_insert_31 kb (xs.getD 0 0) (xs.getD 1 0) (xs.getD 2 0) s) :: tX4_insert_31 kb
noncomputable def tX4_insert_0 (kb : Co) : List Rw := (30, [(7, 0), (7, 0), (7, 0), (7, 0)], [], fun xs ys s => fX4_insert_30 kb s) :: tX4_insert_30 kb
noncomputable def rX4_insert (kb : Co) : List Rw := (0, [(3, 4), (0, 0), (2, 6), (7, 0)], [], fun xs ys s => fX4_insert_0 kb (xs.getD 0 0) (xs.getD 1 0) (xs.getD 2 0) s) :: tX4_insert_0 kb
noncomputable def kX4_insert : Nat → Co
  | 0 => nk
  | n + 1 => fam (rX4_insert (kX4_insert n)) nk
noncomputable def FX4_insert (a0 a1 a2 : Int) (s : St) : Res := fX4_insert_0 (kX4_insert 9999) a0 a1 a2 s
noncomputable def gX4_insert : Fn := fun xs s => FX4_insert (xs.getD 0 0) (xs.getD 1 0) (xs.getD 2 0) s
noncomputable def mdX4_insert : MD := ([(3, 4), (0, 0), (2, 6)], (9, 0), yX4_insert, cX4_insert, (4, none, 1, 22, []))
-- Floatparade$Society.hasFeudWith(LFloatparade$Society;)Z
noncomputable def fX6_hasFeudWith_20 (kb : Co) (y0 : Int) (s : St) : Res := if (y0 : Int) = 0 ∨ (y0 : Int) = 1 then some (0, y0, s) else none
noncomputable def fX6_hasFeudWith_19 (kb : Co) (s : St) : Res := fX6_hasFeudWith_20 kb 0 s
noncomputable def fX6_hasFeudWith_0 (kb : Co) (a0 a1 : Int) (s : St) : Res := if 0 ≤ a1 then if (iand (ishr (gm s 6 a0 7) (gm s 6 a1 0)) 1) = 1 then fX6_hasFeudWith_20 kb 1 s else fX6_hasFeudWith_19 kb s else none
noncomputable def tX6_hasFeudWith_20 (kb : Co) : List Rw := []
noncomputable def tX6_hasFeudWith_19 (kb : Co) : List Rw := (20, [(7, 0), (7, 0)], [(0, 0)], fun xs ys s => fX6_hasFeudWith_20 kb (ys.getD 0 0) s) :: tX6_hasFeudWith_20 kb
noncomputable def tX6_hasFeudWith_0 (kb : Co) : List Rw := (19, [(7, 0), (7, 0)], [], fun xs ys s => fX6_hasFeudWith_19 kb s) :: tX6_hasFeudWith_19 kb
noncomputable def rX6_hasFeudWith (kb : Co) : List Rw := (0, [(3, 6), (2, 6)], [], fun xs ys s => fX6_hasFeudWith_0 kb (xs.getD 0 0) (xs.getD 1 0) s) :: tX6_hasFeudWith_0 kb
noncomputable def kX6_hasFeudWith : Nat → Co
  | 0 => nk
  | n + 1 => fam (rX6_hasFeudWith (kX6_hasFeudWith n)) nk
noncomputable def FX6_hasFeudWith (a0 a1 : Int) (s : St) : Res := fX6_hasFeudWith_0 (kX6_hasFeudWith 0) a0 a1 s
noncomputable def gX6_hasFeudWith : Fn := fun xs s => FX6_hasFeudWith (xs.getD 0 0) (xs.getD 1 0) s
noncomputable def mdX6_hasFeudWith : MD := ([(3, 6), (2, 6)], (0, 0), yX6_hasFeudWith, cX6_hasFeudWith, (2, (some .boolean), 0, 0, []))
-- Floatparade$Row.isFeudAt(I)Z
noncomputable def fX4_isFeudAt_35 (kb : Co) (y0 : Int) (s : St) : Res := if (y0 : Int) = 0 ∨ (y0 : Int) = 1 then some (0, y0, s) else none
noncomputable def fX4_isFeudAt_34 (kb : Co) (s : St) : Res := fX4_isFeudAt_35 kb 0 s
noncomputable def fX4_isFeudAt_0 (kb : Co) (a0 a1 : Int) (s : St) : Res := bnd (FX4_at a0 a1 s) fun x1 s1 => bnd (FX4_at a0 (wr (a1 + 1)) s1) fun x2 s2 => if x1 = (-1) then fX4_isFeudAt_34 kb s2 else if x2 = (-1) then fX4_isFeudAt_34 kb s2 else if 0 ≤ x1 then bnd (FX6_hasFeudWith x1 x2 s2) fun x3 s3 => if x3 = 0 then fX4_isFeudAt_34 kb s3 else fX4_isFeudAt_35 kb 1 s3 else none
noncomputable def tX4_isFeudAt_35 (kb : Co) : List Rw := []
noncomputable def tX4_isFeudAt_34 (kb : Co) : List Rw := (35, [(7, 0), (7, 0), (7, 0), (7, 0)], [(0, 0)], fun xs ys s => fX4_isFeudAt_35 kb (ys.getD 0 0) s) :: tX4_isFeudAt_35 kb
noncomputable def tX4_isFeudAt_0 (kb : Co) : List Rw := (34, [(7, 0), (7, 0), (7, 0), (7, 0)], [], fun xs ys s => fX4_isFeudAt_34 kb s) :: tX4_isFeudAt_34 kb
noncomputable def rX4_isFeudAt (kb : Co) : List Rw := (0, [(3, 4), (0, 0), (7, 0), (7, 0)], [], fun xs ys s => fX4_isFeudAt_0 kb (xs.getD 0 0) (xs.getD 1 0) s) :: tX4_isFeudAt_0 kb
noncomputable def kX4_isFeudAt : Nat → Co
  | 0 => nk
  | n + 1 => fam (rX4_isFeudAt (kX4_isFeudAt n)) nk
noncomputable def FX4_isFeudAt (a0 a1 : Int) (s : St) : Res := fX4_isFeudAt_0 (kX4_isFeudAt 0) a0 a1 s
noncomputable def gX4_isFeudAt : Fn := fun xs s => FX4_isFeudAt (xs.getD 0 0) (xs.getD 1 0) s
noncomputable def mdX4_isFeudAt : MD := ([(3, 4), (0, 0)], (0, 0), yX4_isFeudAt, cX4_isFeudAt, (4, (some .boolean), 2, 43, []))
-- Floatparade$Row.firstFeud()I
noncomputable def fX4_firstFeud_28 (kb : Co) (s : St) : Res := some (0, (-1), s)
noncomputable def fX4_firstFeud_22 (kb : Co) (a0 a1 : Int) (s : St) : Res := kb 2 [(3, 4, a0), (0, 0, (wr (a1 + 1)))] [] s
noncomputable def fX4_firstFeud_2 (kb : Co) (a0 a1 : Int) (s : St) : Res := if (wr (a1 + 1)) < (gm s 4 a0 1) then (bnd (FX4_isFeudAt a0 a1 s) fun x1 s1 => if x1 = 0 then fX4_firstFeud_22 kb a0 a1 s1 else some (0, a1, s1)) else fX4_firstFeud_28 kb s
noncomputable def fX4_firstFeud_0 (kb : Co) (a0 : Int) (s : St) : Res := fX4_firstFeud_2 kb a0 0 s
noncomputable def tX4_firstFeud_28 (kb : Co) : List Rw := []
noncomputable def tX4_firstFeud_22 (kb : Co) : List Rw := (28, [(7, 0), (7, 0)], [], fun xs ys s => fX4_firstFeud_28 kb s) :: tX4_firstFeud_28 kb
noncomputable def tX4_firstFeud_2 (kb : Co) : List Rw := (22, [(3, 4), (0, 0)], [], fun xs ys s => fX4_firstFeud_22 kb (xs.getD 0 0) (xs.getD 1 0) s) :: tX4_firstFeud_22 kb
noncomputable def tX4_firstFeud_0 (kb : Co) : List Rw := (2, [(3, 4), (0, 0)], [], fun xs ys s => fX4_firstFeud_2 kb (xs.getD 0 0) (xs.getD 1 0) s) :: tX4_firstFeud_2 kb
noncomputable def rX4_firstFeud (kb : Co) : List Rw := (0, [(3, 4), (7, 0)], [], fun xs ys s => fX4_firstFeud_0 kb (xs.getD 0 0) s) :: tX4_firstFeud_0 kb
noncomputable def kX4_firstFeud : Nat → Co
  | 0 => nk
  | n + 1 => fam (rX4_firstFeud (kX4_firstFeud n)) nk
noncomputable def FX4_firstFeud (a0 : Int) (s : St) : Res := fX4_firstFeud_0 (kX4_firstFeud 9999) a0 s
noncomputable def gX4_firstFeud : Fn := fun xs s => FX4_firstFeud (xs.getD 0 0) s
noncomputable def mdX4_firstFeud : MD := ([(3, 4)], (0, 0), yX4_firstFeud, cX4_firstFeud, (2, (some .int), 3, 66, []))
-- Floatparade$Row.swap(II)V
noncomputable def fX4_swap_37 (kb : Co) (s : St) : Res := some (0, 0, s)
noncomputable def fX4_swap_0 (kb : Co) (a0 a1 a2 : Int) (s : St) : Res := bnd (FX4_at a0 a1 s) fun x1 s1 => bnd (FX4_at a0 a2 s1) fun x2 s2 => if x1 = (-1) then fX4_swap_37 kb s2 else if x2 = (-1) then fX4_swap_37 kb s2 else if 0 ≤ a1 ∧ a1 < 10 then if 0 ≤ a2 ∧ a2 < 10 then fX4_swap_37 kb (pm (pm s2 27 a0 a1 x2) 27 a0 a2 x1) else none else none
noncomputable def tX4_swap_37 (kb : Co) : List Rw := []
noncomputable def tX4_swap_0 (kb : Co) : List Rw := (37, [(7, 0), (7, 0), (7, 0), (7, 0), (7, 0)], [], fun xs ys s => fX4_swap_37 kb s) :: tX4_swap_37 kb
noncomputable def rX4_swap (kb : Co) : List Rw := (0, [(3, 4), (0, 0), (0, 0), (7, 0), (7, 0)], [], fun xs ys s => fX4_swap_0 kb (xs.getD 0 0) (xs.getD 1 0) (xs.getD 2 0) s) :: tX4_swap_0 kb
noncomputable def kX4_swap : Nat → Co
  | 0 => nk
  | n + 1 => fam (rX4_swap (kX4_swap n)) nk
noncomputable def FX4_swap (a0 a1 a2 : Int) (s : St) : Res := fX4_swap_0 (kX4_swap 0) a0 a1 a2 s
noncomputable def gX4_swap : Fn := fun xs s => FX4_swap (xs.getD 0 0) (xs.getD 1 0) (xs.getD 2 0) s
noncomputable def mdX4_swap : MD := ([(3, 4), (0, 0), (0, 0)], (9, 0), yX4_swap, cX4_swap, (5, none, 2, 43, []))
-- Floatparade$Row.partFeuds()V
noncomputable def fX4_partFeuds_56 (kb : Co) (s : St) : Res := some (0, 0, s)
noncomputable def fX4_partFeuds_50 (kb : Co) (a0 a1 : Int) (s : St) : Res := kb 2 [(3, 4, a0), (0, 0, (wr (a1 + 1))), (7, 0, 0)] [] s
noncomputable def fX4_partFeuds_42 (kb : Co) (a0 a1 a2 : Int) (s : St) : Res := bnd (FX4_swap a0 a2 (wr (a2 - 1)) s) fun _ s1 => fX4_partFeuds_50 kb a0 a1 s1
noncomputable def fX4_partFeuds_19 (kb : Co) (a0 a1 a2 : Int) (s : St) : Res := if (wr (a2 + 2)) < (gm s 4 a0 1) then (bnd (FX4_swap a0 (wr (a2 + 1)) (wr (a2 + 2)) s) fun _ s1 => fX4_partFeuds_50 kb a0 a1 s1) else fX4_partFeuds_42 kb a0 a1 a2 s
noncomputable def fX4_partFeuds_2 (kb : Co) (a0 a1 : Int) (s : St) : Res := if a1 < 10 then (bnd (FX4_firstFeud a0 s) fun x1 s1 => if x1 = (-1) then some (0, 0, s1) else fX4_partFeuds_19 kb a0 a1 x1 s1) else fX4_partFeuds_56 kb s
noncomputable def fX4_partFeuds_0 (kb : Co) (a0 : Int) (s : St) : Res := fX4_partFeuds_2 kb a0 0 s
noncomputable def tX4_partFeuds_56 (kb : Co) : List Rw := []
noncomputable def tX4_partFeuds_50 (kb : Co) : List Rw := (56, [(7, 0), (7, 0), (7, 0)], [], fun xs ys s => fX4_partFeuds_56 kb s) :: tX4_partFeuds_56 kb
noncomputable def tX4_partFeuds_42 (kb : Co) : List Rw := (50, [(3, 4), (0, 0), (7, 0)], [], fun xs ys s => fX4_partFeuds_50 kb (xs.getD 0 0) (xs.getD 1 0) s) :: tX4_partFeuds_50 kb
noncomputable def tX4_partFeuds_19 (kb : Co) : List Rw := (42, [(3, 4), (0, 0), (0, 0)], [], fun xs ys s => fX4_partFeuds_42 kb (xs.getD 0 0) (xs.getD 1 0) (xs.getD 2 0) s) :: tX4_partFeuds_42 kb
noncomputable def tX4_partFeuds_2 (kb : Co) : List Rw := (19, [(3, 4), (0, 0), (0, 0)], [], fun xs ys s => fX4_partFeuds_19 kb (xs.getD 0 0) (xs.getD 1 0) (xs.getD 2 0) s) :: tX4_partFeuds_19 kb
noncomputable def tX4_partFeuds_0 (kb : Co) : List Rw := (2, [(3, 4), (0, 0), (7, 0)], [], fun xs ys s => fX4_partFeuds_2 kb (xs.getD 0 0) (xs.getD 1 0) s) :: tX4_partFeuds_2 kb
noncomputable def rX4_partFeuds (kb : Co) : List Rw := (0, [(3, 4), (7, 0), (7, 0)], [], fun xs ys s => fX4_partFeuds_0 kb (xs.getD 0 0) s) :: tX4_partFeuds_0 kb
noncomputable def kX4_partFeuds : Nat → Co
  | 0 => nk
  | n + 1 => fam (rX4_partFeuds (kX4_partFeuds n)) nk
noncomputable def FX4_partFeuds (a0 : Int) (s : St) : Res := fX4_partFeuds_0 (kX4_partFeuds 9999) a0 s
noncomputable def gX4_partFeuds : Fn := fun xs s => FX4_partFeuds (xs.getD 0 0) s
noncomputable def mdX4_partFeuds : MD := ([(3, 4)], (9, 0), yX4_partFeuds, cX4_partFeuds, (3, none, 4, 87, []))
-- Floatparade$League.findOrder([LFloatparade$Society;I)V
noncomputable def fX0_findOrder_51 (kb : Co) (a0 : Int) (s : St) : Res := bnd (FX4_partFeuds (2 * a0) s) fun _ s1 => some (0, 0, s1)
noncomputable def fX0_findOrder_45 (kb : Co) (a0 a1 a2 a3 : Int) (s : St) : Res := kb 9 [(3, 0, a0), (3, 13, a1), (0, 0, a2), (0, 0, (wr (a3 + 1))), (7, 0, 0)] [] s
noncomputable def fX0_findOrder_9 (kb : Co) (a0 a1 a2 a3 : Int) (s : St) : Res := if a3 < 10 then (if 0 ≤ a3 ∧ a3 < 10 then bnd (FX0_hasEntrant a0 (gm s 13 a1 a3) s) fun x1 s1 => if x1 = 0 then fX0_findOrder_45 kb a0 a1 a2 a3 s1 else bnd (FX0_orderPlace a0 (gm s 13 a1 a3) a2 s1) fun x2 s2 => bnd (FX4_insert (2 * a0) x2 (gm s 13 a1 a3) s2) fun _ s3 => fX0_findOrder_45 kb a0 a1 a2 a3 s3 else none) else fX0_findOrder_51 kb a0 s
noncomputable def fX0_findOrder_0 (kb : Co) (a0 a1 a2 : Int) (s : St) : Res := bnd (FX4_clear (2 * a0) s) fun _ s1 => fX0_findOrder_9 kb a0 a1 a2 0 s1
noncomputable def tX0_findOrder_51 (kb : Co) : List Rw := []
noncomputable def tX0_findOrder_45 (kb : Co) : List Rw := (51, [(3, 0), (7, 0), (7, 0), (7, 0), (7, 0)], [], fun xs ys s => fX0_findOrder_51 kb (xs.getD 0 0) s) :: tX0_findOrder_51 kb
noncomputable def tX0_findOrder_9 (kb : Co) : List Rw := (45, [(3, 0), (3, 13), (0, 0), (0, 0), (7, 0)], [], fun xs ys s => fX0_findOrder_45 kb (xs.getD 0 0) (xs.getD 1 0) (xs.getD 2 0) (xs.getD 3 0) s) :: tX0_findOrder_45 kb
noncomputable def tX0_findOrder_0 (kb : Co) : List Rw := (9, [(3, 0), (3, 13), (0, 0), (0, 0), (7, 0)], [], fun xs ys s => fX0_findOrder_9 kb (xs.getD 0 0) (xs.getD 1 0) (xs.getD 2 0) (xs.getD 3 0) s) :: tX0_findOrder_9 kb
noncomputable def rX0_findOrder (kb : Co) : List Rw := (0, [(3, 0), (3, 13), (0, 0), (7, 0), (7, 0)], [], fun xs ys s => fX0_findOrder_0 kb (xs.getD 0 0) (xs.getD 1 0) (xs.getD 2 0) s) :: tX0_findOrder_0 kb
noncomputable def kX0_findOrder : Nat → Co
  | 0 => nk
  | n + 1 => fam (rX0_findOrder (kX0_findOrder n)) nk
noncomputable def FX0_findOrder (a0 a1 a2 : Int) (s : St) : Res := fX0_findOrder_0 (kX0_findOrder 9999) a0 a1 a2 s
noncomputable def gX0_findOrder : Fn := fun xs s => FX0_findOrder (xs.getD 0 0) (xs.getD 1 0) (xs.getD 2 0) s
noncomputable def mdX0_findOrder : MD := ([(3, 0), (3, 13), (0, 0)], (9, 0), yX0_findOrder, cX0_findOrder, (5, none, 5, 109, []))
-- Floatparade$Score.noteBy(II)I
noncomputable def fX5_noteBy_29 (kb : Co) (y0 : Int) (s : St) : Res := some (0, y0, s)
noncomputable def fX5_noteBy_28 (kb : Co) (s : St) : Res := fX5_noteBy_29 kb 0 s
noncomputable def fX5_noteBy_0 (kb : Co) (a0 a1 a2 : Int) (s : St) : Res := if (wr ((wr (a1 * 5)) + a2)) < 0 then fX5_noteBy_28 kb s else if (wr ((wr (a1 * 5)) + a2)) < 20 then (if 0 ≤ (wr ((wr (a1 * 5)) + a2)) ∧ (wr ((wr (a1 * 5)) + a2)) < 20 then fX5_noteBy_29 kb (gm s 18 a0 (wr ((wr (a1 * 5)) + a2))) s else none) else fX5_noteBy_28 kb s
noncomputable def tX5_noteBy_29 (kb : Co) : List Rw := []
noncomputable def tX5_noteBy_28 (kb : Co) : List Rw := (29, [(7, 0), (7, 0), (7, 0), (7, 0)], [(0, 0)], fun xs ys s => fX5_noteBy_29 kb (ys.getD 0 0) s) :: tX5_noteBy_29 kb
noncomputable def tX5_noteBy_0 (kb : Co) : List Rw := (28, [(7, 0), (7, 0), (7, 0), (7, 0)], [], fun xs ys s => fX5_noteBy_28 kb s) :: tX5_noteBy_28 kb
noncomputable def rX5_noteBy (kb : Co) : List Rw := (0, [(3, 5), (0, 0), (0, 0), (7, 0)], [], fun xs ys s => fX5_noteBy_0 kb (xs.getD 0 0) (xs.getD 1 0) (xs.getD 2 0) s) :: tX5_noteBy_0 kb
noncomputable def kX5_noteBy : Nat → Co
  | 0 => nk
  | n + 1 => fam (rX5_noteBy (kX5_noteBy n)) nk
noncomputable def FX5_noteBy (a0 a1 a2 : Int) (s : St) : Res := fX5_noteBy_0 (kX5_noteBy 0) a0 a1 a2 s
noncomputable def gX5_noteBy : Fn := fun xs s => FX5_noteBy (xs.getD 0 0) (xs.getD 1 0) (xs.getD 2 0) s
noncomputable def mdX5_noteBy : MD := ([(3, 5), (0, 0), (0, 0)], (0, 0), yX5_noteBy, cX5_noteBy, (4, (some .int), 0, 0, []))
-- java/lang/Math.min(II)I
noncomputable def fJ9_min_7cf53_10 (kb : Co) (y0 : Int) (s : St) : Res := some (0, y0, s)
noncomputable def fJ9_min_7cf53_9 (kb : Co) (a1 : Int) (s : St) : Res := fJ9_min_7cf53_10 kb a1 s
noncomputable def fJ9_min_7cf53_0 (kb : Co) (a0 a1 : Int) (s : St) : Res := if a1 < a0 then fJ9_min_7cf53_9 kb a1 s else fJ9_min_7cf53_10 kb a0 s
noncomputable def tJ9_min_7cf53_10 (kb : Co) : List Rw := []
noncomputable def tJ9_min_7cf53_9 (kb : Co) : List Rw := (10, [(7, 0), (7, 0)], [(0, 0)], fun xs ys s => fJ9_min_7cf53_10 kb (ys.getD 0 0) s) :: tJ9_min_7cf53_10 kb
noncomputable def tJ9_min_7cf53_0 (kb : Co) : List Rw := (9, [(7, 0), (0, 0)], [], fun xs ys s => fJ9_min_7cf53_9 kb (xs.getD 0 0) s) :: tJ9_min_7cf53_9 kb
noncomputable def rJ9_min_7cf53 (kb : Co) : List Rw := (0, [(0, 0), (0, 0)], [], fun xs ys s => fJ9_min_7cf53_0 kb (xs.getD 0 0) (xs.getD 1 0) s) :: tJ9_min_7cf53_0 kb
noncomputable def kJ9_min_7cf53 : Nat → Co
  | 0 => nk
  | n + 1 => fam (rJ9_min_7cf53 (kJ9_min_7cf53 n)) nk
noncomputable def FJ9_min_7cf53 (a0 a1 : Int) (s : St) : Res := fJ9_min_7cf53_0 (kJ9_min_7cf53 0) a0 a1 s
noncomputable def gJ9_min_7cf53 : Fn := fun xs s => FJ9_min_7cf53 (xs.getD 0 0) (xs.getD 1 0) s
noncomputable def mdJ9_min_7cf53 : MD := ([(0, 0), (0, 0)], (0, 0), yJ9_min_7cf53, cJ9_min_7cf53, (2, (some .int), 0, 0, []))
-- java/lang/Math.max(II)I
noncomputable def fJ9_max_7cf53_10 (kb : Co) (y0 : Int) (s : St) : Res := some (0, y0, s)
noncomputable def fJ9_max_7cf53_9 (kb : Co) (a1 : Int) (s : St) : Res := fJ9_max_7cf53_10 kb a1 s
noncomputable def fJ9_max_7cf53_0 (kb : Co) (a0 a1 : Int) (s : St) : Res := if a0 < a1 then fJ9_max_7cf53_9 kb a1 s else fJ9_max_7cf53_10 kb a0 s
noncomputable def tJ9_max_7cf53_10 (kb : Co) : List Rw := []
noncomputable def tJ9_max_7cf53_9 (kb : Co) : List Rw := (10, [(7, 0), (7, 0)], [(0, 0)], fun xs ys s => fJ9_max_7cf53_10 kb (ys.getD 0 0) s) :: tJ9_max_7cf53_10 kb
noncomputable def tJ9_max_7cf53_0 (kb : Co) : List Rw := (9, [(7, 0), (0, 0)], [], fun xs ys s => fJ9_max_7cf53_9 kb (xs.getD 0 0) s) :: tJ9_max_7cf53_9 kb
noncomputable def rJ9_max_7cf53 (kb : Co) : List Rw := (0, [(0, 0), (0, 0)], [], fun xs ys s => fJ9_max_7cf53_0 kb (xs.getD 0 0) (xs.getD 1 0) s) :: tJ9_max_7cf53_0 kb
noncomputable def kJ9_max_7cf53 : Nat → Co
  | 0 => nk
  | n + 1 => fam (rJ9_max_7cf53 (kJ9_max_7cf53 n)) nk
noncomputable def FJ9_max_7cf53 (a0 a1 : Int) (s : St) : Res := fJ9_max_7cf53_0 (kJ9_max_7cf53 0) a0 a1 s
noncomputable def gJ9_max_7cf53 : Fn := fun xs s => FJ9_max_7cf53 (xs.getD 0 0) (xs.getD 1 0) s
noncomputable def mdJ9_max_7cf53 : MD := ([(0, 0), (0, 0)], (0, 0), yJ9_max_7cf53, cJ9_max_7cf53, (2, (some .int), 0, 0, []))
-- Floatparade$Score.together(I)I
noncomputable def fX5_together_94 (kb : Co) (a2 : Int) (s : St) : Res := some (0, a2, s)
noncomputable def fX5_together_84 (kb : Co) (a2 a3 a5 : Int) (s : St) : Res := if a3 < 4 then fX5_together_94 kb a2 s else fX5_together_94 kb (wr (a2 - a5)) s
noncomputable def fX5_together_74 (kb : Co) (a2 a3 a4 a5 : Int) (s : St) : Res := if a3 < 3 then fX5_together_84 kb a2 a3 a5 s else fX5_together_84 kb (wr (a2 - a4)) a3 a5 s
noncomputable def fX5_together_68 (kb : Co) (a0 a1 a2 a3 a4 a5 a6 : Int) (s : St) : Res := kb 13 [(3, 5, a0), (0, 0, a1), (0, 0, a2), (0, 0, a3), (0, 0, a4), (0, 0, a5), (0, 0, (wr (a6 + 1))), (7, 0, 0)] [] s
noncomputable def fX5_together_49 (kb : Co) (a0 a1 a2 a3 a5 a6 a7 y0 : Int) (s : St) : Res := bnd (FJ9_max_7cf53 a5 a7 s) fun x1 s1 => fX5_together_68 kb a0 a1 (wr (a2 + a7)) (wr (a3 + 1)) y0 x1 a6 s1
noncomputable def fX5_together_42 (kb : Co) (a0 a1 a2 a3 a4 a5 a6 a7 : Int) (s : St) : Res := bnd (FJ9_min_7cf53 a4 a7 s) fun x1 s1 => fX5_together_49 kb a0 a1 a2 a3 a5 a6 a7 x1 s1
noncomputable def fX5_together_13 (kb : Co) (a0 a1 a2 a3 a4 a5 a6 : Int) (s : St) : Res := if a6 < 4 then (bnd (FX5_noteBy a0 a6 a1 s) fun x1 s1 => if 0 < x1 then (if a3 = 0 then fX5_together_49 kb a0 a1 a2 a3 a5 a6 x1 x1 s1 else fX5_together_42 kb a0 a1 a2 a3 a4 a5 a6 x1 s1) else fX5_together_68 kb a0 a1 a2 a3 a4 a5 a6 s1) else fX5_together_74 kb a2 a3 a4 a5 s
noncomputable def fX5_together_0 (kb : Co) (a0 a1 : Int) (s : St) : Res := fX5_together_13 kb a0 a1 0 0 0 0 0 s
noncomputable def tX5_together_94 (kb : Co) : List Rw := []
noncomputable def tX5_together_84 (kb : Co) : List Rw := (94, [(7, 0), (7, 0), (0, 0), (7, 0), (7, 0), (7, 0), (7, 0), (7, 0)], [], fun xs ys s => fX5_together_94 kb (xs.getD 0 0) s) :: tX5_together_94 kb
noncomputable def tX5_together_74 (kb : Co) : List Rw := (84, [(7, 0), (7, 0), (0, 0), (0, 0), (7, 0), (0, 0), (7, 0), (7, 0)], [], fun xs ys s => fX5_together_84 kb (xs.getD 0 0) (xs.getD 1 0) (xs.getD 2 0) s) :: tX5_together_84 kb
noncomputable def tX5_together_68 (kb : Co) : List Rw := (74, [(7, 0), (7, 0), (0, 0), (0, 0), (0, 0), (0, 0), (7, 0), (7, 0)], [], fun xs ys s => fX5_together_74 kb (xs.getD 0 0) (xs.getD 1 0) (xs.getD 2 0) (xs.getD 3 0) s) :: tX5_together_74 kb
noncomputable def tX5_together_49 (kb : Co) : List Rw := (68, [(3, 5), (0, 0), (0, 0), (0, 0), (0, 0), (0, 0), (0, 0), (7, 0)], [], fun xs ys s => fX5_together_68 kb (xs.getD 0 0) (xs.getD 1 0) (xs.getD 2 0) (xs.getD 3 0) (xs.getD 4 0) (xs.getD 5 0) (xs.getD 6 0) s) :: tX5_together_68 kb
noncomputable def tX5_together_42 (kb : Co) : List Rw := (49, [(3, 5), (0, 0), (0, 0), (0, 0), (7, 0), (0, 0), (0, 0), (0, 0)], [(0, 0)], fun xs ys s => fX5_together_49 kb (xs.getD 0 0) (xs.getD 1 0) (xs.getD 2 0) (xs.getD 3 0) (xs.getD 4 0) (xs.getD 5 0) (xs.getD 6 0) (ys.getD 0 0) s) :: tX5_together_49 kb
noncomputable def tX5_together_13 (kb : Co) : List Rw := (42, [(3, 5), (0, 0), (0, 0), (0, 0), (0, 0), (0, 0), (0, 0), (0, 0)], [], fun xs ys s => fX5_together_42 kb (xs.getD 0 0) (xs.getD 1 0) (xs.getD 2 0) (xs.getD 3 0) (xs.getD 4 0) (xs.getD 5 0) (xs.getD 6 0) (xs.getD 7 0) s) :: tX5_together_42 kb
noncomputable def tX5_together_0 (kb : Co) : List Rw := (13, [(3, 5), (0, 0), (0, 0), (0, 0), (0, 0), (0, 0), (0, 0), (7, 0)], [], fun xs ys s => fX5_together_13 kb (xs.getD 0 0) (xs.getD 1 0) (xs.getD 2 0) (xs.getD 3 0) (xs.getD 4 0) (xs.getD 5 0) (xs.getD 6 0) s) :: tX5_together_13 kb
noncomputable def rX5_together (kb : Co) : List Rw := (0, [(3, 5), (0, 0), (7, 0), (7, 0), (7, 0), (7, 0), (7, 0), (7, 0)], [], fun xs ys s => fX5_together_0 kb (xs.getD 0 0) (xs.getD 1 0) s) :: tX5_together_0 kb
noncomputable def kX5_together : Nat → Co
  | 0 => nk
  | n + 1 => fam (rX5_together (kX5_together n)) nk
noncomputable def FX5_together (a0 a1 : Int) (s : St) : Res := fX5_together_0 (kX5_together 9999) a0 a1 s
noncomputable def gX5_together : Fn := fun xs s => FX5_together (xs.getD 0 0) (xs.getD 1 0) s
noncomputable def mdX5_together : MD := ([(3, 5), (0, 0)], (0, 0), yX5_together, cX5_together, (8, (some .int), 1, 23, []))
-- Floatparade$Score.hasPenalty(I)Z
noncomputable def fX5_hasPenalty_25 (kb : Co) (y0 : Int) (s : St) : Res := if (y0 : Int) = 0 ∨ (y0 : Int) = 1 then some (0, y0, s) else none
noncomputable def fX5_hasPenalty_24 (kb : Co) (s : St) : Res := fX5_hasPenalty_25 kb 0 s
noncomputable def fX5_hasPenalty_0 (kb : Co) (a0 a1 : Int) (s : St) : Res := bnd (FX11_isWithin a1 0 (wr ((gm s 5 a0 4) - 1)) s) fun x1 s1 => if x1 = 0 then fX5_hasPenalty_24 kb s1 else if a1 < 20 then fX5_hasPenalty_25 kb 1 s1 else fX5_hasPenalty_24 kb s1
noncomputable def tX5_hasPenalty_25 (kb : Co) : List Rw := []
noncomputable def tX5_hasPenalty_24 (kb : Co) : List Rw := (25, [(7, 0), (7, 0)], [(0, 0)], fun xs ys s => fX5_hasPenalty_25 kb (ys.getD 0 0) s) :: tX5_hasPenalty_25 kb
noncomputable def tX5_hasPenalty_0 (kb : Co) : List Rw := (24, [(7, 0), (7, 0)], [], fun xs ys s => fX5_hasPenalty_24 kb s) :: tX5_hasPenalty_24 kb
noncomputable def rX5_hasPenalty (kb : Co) : List Rw := (0, [(3, 5), (0, 0)], [], fun xs ys s => fX5_hasPenalty_0 kb (xs.getD 0 0) (xs.getD 1 0) s) :: tX5_hasPenalty_0 kb
noncomputable def kX5_hasPenalty : Nat → Co
  | 0 => nk
  | n + 1 => fam (rX5_hasPenalty (kX5_hasPenalty n)) nk
noncomputable def FX5_hasPenalty (a0 a1 : Int) (s : St) : Res := fX5_hasPenalty_0 (kX5_hasPenalty 0) a0 a1 s
noncomputable def gX5_hasPenalty : Fn := fun xs s => FX5_hasPenalty (xs.getD 0 0) (xs.getD 1 0) s
noncomputable def mdX5_hasPenalty : MD := ([(3, 5), (0, 0)], (0, 0), yX5_hasPenalty, cX5_hasPenalty, (2, (some .boolean), 1, 22, []))
-- Floatparade$Score.points()I
noncomputable def fX5_points_69 (kb : Co) (a1 : Int) (s : St) : Res := some (0, a1, s)
noncomputable def fX5_points_61 (kb : Co) (a0 a2 y0 y1 : Int) (s : St) : Res := kb 25 [(3, 5, a0), (0, 0, (wr (y1 - y0))), (0, 0, (wr (a2 + 1)))] [] s
noncomputable def fX5_points_60 (kb : Co) (a0 a2 y0 : Int) (s : St) : Res := fX5_points_61 kb a0 a2 0 y0 s
noncomputable def fX5_points_25 (kb : Co) (a0 a1 a2 : Int) (s : St) : Res := if a2 < (gm s 5 a0 4) then (bnd (FX5_hasPenalty a0 a2 s) fun x1 s1 => if x1 = 0 then fX5_points_60 kb a0 a2 a1 s1 else if 0 ≤ a2 ∧ a2 < 20 then if (gm s1 21 a0 a2) = 0 then (if 0 ≤ a2 ∧ a2 < 20 then fX5_points_61 kb a0 a2 (gm s1 20 a0 a2) a1 s1 else none) else fX5_points_60 kb a0 a2 a1 s1 else none) else fX5_points_69 kb a1 s
noncomputable def fX5_points_23 (kb : Co) (a0 a1 : Int) (s : St) : Res := fX5_points_25 kb a0 a1 0 s
noncomputable def fX5_points_4 (kb : Co) (a0 a1 a2 : Int) (s : St) : Res := if a2 < 5 then (bnd (FX5_together a0 a2 s) fun x1 s1 => kb 4 [(3, 5, a0), (0, 0, (wr (a1 + x1))), (0, 0, (wr (a2 + 1)))] [] s1) else fX5_points_23 kb a0 a1 s
noncomputable def fX5_points_0 (kb : Co) (a0 : Int) (s : St) : Res := fX5_points_4 kb a0 0 0 s
noncomputable def tX5_points_69 (kb : Co) : List Rw := []
noncomputable def tX5_points_61 (kb : Co) : List Rw := (69, [(7, 0), (0, 0), (7, 0)], [], fun xs ys s => fX5_points_69 kb (xs.getD 0 0) s) :: tX5_points_69 kb
noncomputable def tX5_points_60 (kb : Co) : List Rw := (61, [(3, 5), (7, 0), (0, 0)], [(0, 0), (0, 0)], fun xs ys s => fX5_points_61 kb (xs.getD 0 0) (xs.getD 1 0) (ys.getD 0 0) (ys.getD 1 0) s) :: tX5_points_61 kb
noncomputable def tX5_points_25 (kb : Co) : List Rw := (60, [(3, 5), (7, 0), (0, 0)], [(0, 0)], fun xs ys s => fX5_points_60 kb (xs.getD 0 0) (xs.getD 1 0) (ys.getD 0 0) s) :: tX5_points_60 kb
noncomputable def tX5_points_23 (kb : Co) : List Rw := (25, [(3, 5), (0, 0), (0, 0)], [], fun xs ys s => fX5_points_25 kb (xs.getD 0 0) (xs.getD 1 0) (xs.getD 2 0) s) :: tX5_points_25 kb
noncomputable def tX5_points_4 (kb : Co) : List Rw := (23, [(3, 5), (0, 0), (7, 0)], [], fun xs ys s => fX5_points_23 kb (xs.getD 0 0) (xs.getD 1 0) s) :: tX5_points_23 kb
noncomputable def tX5_points_0 (kb : Co) : List Rw := (4, [(3, 5), (0, 0), (0, 0)], [], fun xs ys s => fX5_points_4 kb (xs.getD 0 0) (xs.getD 1 0) (xs.getD 2 0) s) :: tX5_points_4 kb
noncomputable def rX5_points (kb : Co) : List Rw := (0, [(3, 5), (7, 0), (7, 0)], [], fun xs ys s => fX5_points_0 kb (xs.getD 0 0) s) :: tX5_points_0 kb
noncomputable def kX5_points : Nat → Co
  | 0 => nk
  | n + 1 => fam (rX5_points (kX5_points n)) nk
noncomputable def FX5_points (a0 : Int) (s : St) : Res := fX5_points_0 (kX5_points 9999) a0 s
noncomputable def gX5_points : Fn := fun xs s => FX5_points (xs.getD 0 0) s
noncomputable def mdX5_points : MD := ([(3, 5)], (0, 0), yX5_points, cX5_points, (3, (some .int), 2, 50, []))
-- Floatparade$Society.isBetterThan(LFloatparade$Society;I)Z
noncomputable def fX6_isBetterThan_78 (kb : Co) (y0 : Int) (s : St) : Res := if (y0 : Int) = 0 ∨ (y0 : Int) = 1 then some (0, y0, s) else none
noncomputable def fX6_isBetterThan_77 (kb : Co) (s : St) : Res := fX6_isBetterThan_78 kb 0 s
noncomputable def fX6_isBetterThan_67 (kb : Co) (a3 a4 : Int) (s : St) : Res := if a4 < a3 then fX6_isBetterThan_78 kb 1 s else fX6_isBetterThan_77 kb s
noncomputable def fX6_isBetterThan_20 (kb : Co) (a0 a1 a2 a3 a4 a5 : Int) (s : St) : Res := if a5 < 5 then (if a3 = a4 then (if 5 = 0 then none else bnd (FX5_together a0 (irm (wr (a2 + a5)) 5) s) fun x1 s1 => if 0 ≤ a1 then bnd (FX5_together a1 (irm (wr (a2 + a5)) 5) s1) fun x2 s2 => kb 20 [(3, 6, a0), (2, 6, a1), (0, 0, a2), (0, 0, x1), (0, 0, x2), (0, 0, (wr (a5 + 1))), (0, 0, (irm (wr (a2 + a5)) 5))] [] s2 else none) else fX6_isBetterThan_67 kb a3 a4 s) else fX6_isBetterThan_67 kb a3 a4 s
noncomputable def fX6_isBetterThan_0 (kb : Co) (a0 a1 a2 : Int) (s : St) : Res := bnd (FX5_points a0 s) fun x1 s1 => if 0 ≤ a1 then bnd (FX5_points a1 s1) fun x2 s2 => fX6_isBetterThan_20 kb a0 a1 a2 x1 x2 0 s2 else none
noncomputable def tX6_isBetterThan_78 (kb : Co) : List Rw := []
noncomputable def tX6_isBetterThan_77 (kb : Co) : List Rw := (78, [(7, 0), (7, 0), (7, 0), (7, 0), (7, 0), (7, 0), (7, 0)], [(0, 0)], fun xs ys s => fX6_isBetterThan_78 kb (ys.getD 0 0) s) :: tX6_isBetterThan_78 kb
noncomputable def tX6_isBetterThan_67 (kb : Co) : List Rw := (77, [(7, 0), (7, 0), (7, 0), (7, 0), (7, 0), (7, 0), (7, 0)], [], fun xs ys s => fX6_isBetterThan_77 kb s) :: tX6_isBetterThan_77 kb
noncomputable def tX6_isBetterThan_20 (kb : Co) : List Rw := (67, [(7, 0), (7, 0), (7, 0), (0, 0), (0, 0), (7, 0), (7, 0)], [], fun xs ys s => fX6_isBetterThan_67 kb (xs.getD 0 0) (xs.getD 1 0) s) :: tX6_isBetterThan_67 kb
noncomputable def tX6_isBetterThan_0 (kb : Co) : List Rw := (20, [(3, 6), (2, 6), (0, 0), (0, 0), (0, 0), (0, 0), (7, 0)], [], fun xs ys s => fX6_isBetterThan_20 kb (xs.getD 0 0) (xs.getD 1 0) (xs.getD 2 0) (xs.getD 3 0) (xs.getD 4 0) (xs.getD 5 0) s) :: tX6_isBetterThan_20 kb
noncomputable def rX6_isBetterThan (kb : Co) : List Rw := (0, [(3, 6), (2, 6), (0, 0), (7, 0), (7, 0), (7, 0), (7, 0)], [], fun xs ys s => fX6_isBetterThan_0 kb (xs.getD 0 0) (xs.getD 1 0) (xs.getD 2 0) s) :: tX6_isBetterThan_0 kb
noncomputable def kX6_isBetterThan : Nat → Co
  | 0 => nk
  | n + 1 => fam (rX6_isBetterThan (kX6_isBetterThan n)) nk
noncomputable def FX6_isBetterThan (a0 a1 a2 : Int) (s : St) : Res := fX6_isBetterThan_0 (kX6_isBetterThan 9999) a0 a1 a2 s
noncomputable def gX6_isBetterThan : Fn := fun xs s => FX6_isBetterThan (xs.getD 0 0) (xs.getD 1 0) (xs.getD 2 0) s
noncomputable def mdX6_isBetterThan : MD := ([(3, 6), (2, 6), (0, 0)], (0, 0), yX6_isBetterThan, cX6_isBetterThan, (7, (some .boolean), 3, 72, []))
-- Floatparade$League.rankPlace(LFloatparade$Society;I)I
noncomputable def fX0_rankPlace_46 (kb : Co) (a0 : Int) (s : St) : Res := some (0, (gm s 4 (2 * a0 + 1) 1), s)
noncomputable def fX0_rankPlace_40 (kb : Co) (a0 a1 a2 a3 : Int) (s : St) : Res := kb 2 [(3, 0, a0), (2, 6, a1), (0, 0, a2), (0, 0, (wr (a3 + 1))), (7, 0, 0)] [] s
noncomputable def fX0_rankPlace_2 (kb : Co) (a0 a1 a2 a3 : Int) (s : St) : Res := if a3 < (gm s 4 (2 * a0 + 1) 1) then (bnd (FX4_at (2 * a0 + 1) a3 s) fun x1 s1 => if x1 = (-1) then fX0_rankPlace_40 kb a0 a1 a2 a3 s1 else if 0 ≤ a1 then bnd (FX6_isBetterThan a1 x1 a2 s1) fun x2 s2 => if x2 = 0 then fX0_rankPlace_40 kb a0 a1 a2 a3 s2 else some (0, a3, s2) else none) else fX0_rankPlace_46 kb a0 s
noncomputable def fX0_rankPlace_0 (kb : Co) (a0 a1 a2 : Int) (s : St) : Res := fX0_rankPlace_2 kb a0 a1 a2 0 s
noncomputable def tX0_rankPlace_46 (kb : Co) : List Rw := []
noncomputable def tX0_rankPlace_40 (kb : Co) : List Rw := (46, [(3, 0), (7, 0), (7, 0), (7, 0), (7, 0)], [], fun xs ys s => fX0_rankPlace_46 kb (xs.getD 0 0) s) :: tX0_rankPlace_46 kb
noncomputable def tX0_rankPlace_2 (kb : Co) : List Rw := (40, [(3, 0), (2, 6), (0, 0), (0, 0), (7, 0)], [], fun xs ys s => fX0_rankPlace_40 kb (xs.getD 0 0) (xs.getD 1 0) (xs.getD 2 0) (xs.getD 3 0) s) :: tX0_rankPlace_40 kb
noncomputable def tX0_rankPlace_0 (kb : Co) : List Rw := (2, [(3, 0), (2, 6), (0, 0), (0, 0), (7, 0)], [], fun xs ys s => fX0_rankPlace_2 kb (xs.getD 0 0) (xs.getD 1 0) (xs.getD 2 0) (xs.getD 3 0) s) :: tX0_rankPlace_2 kb
noncomputable def rX0_rankPlace (kb : Co) : List Rw := (0, [(3, 0), (2, 6), (0, 0), (7, 0), (7, 0)], [], fun xs ys s => fX0_rankPlace_0 kb (xs.getD 0 0) (xs.getD 1 0) (xs.getD 2 0) s) :: tX0_rankPlace_0 kb
noncomputable def kX0_rankPlace : Nat → Co
  | 0 => nk
  | n + 1 => fam (rX0_rankPlace (kX0_rankPlace n)) nk
noncomputable def FX0_rankPlace (a0 a1 a2 : Int) (s : St) : Res := fX0_rankPlace_0 (kX0_rankPlace 9999) a0 a1 a2 s
noncomputable def gX0_rankPlace : Fn := fun xs s => FX0_rankPlace (xs.getD 0 0) (xs.getD 1 0) (xs.getD 2 0) s
noncomputable def mdX0_rankPlace : MD := ([(3, 0), (2, 6), (0, 0)], (0, 0), yX0_rankPlace, cX0_rankPlace, (5, (some .int), 4, 98, []))
-- Floatparade$League.rank([LFloatparade$Society;I)V
noncomputable def fX0_rank_51 (kb : Co) (s : St) : Res := some (0, 0, s)
noncomputable def fX0_rank_45 (kb : Co) (a0 a1 a2 a3 : Int) (s : St) : Res := kb 9 [(3, 0, a0), (3, 13, a1), (0, 0, a2), (0, 0, (wr (a3 + 1))), (7, 0, 0)] [] s
noncomputable def fX0_rank_9 (kb : Co) (a0 a1 a2 a3 : Int) (s : St) : Res := if a3 < 10 then (if 0 ≤ a3 ∧ a3 < 10 then bnd (FX0_hasEntrant a0 (gm s 13 a1 a3) s) fun x1 s1 => if x1 = 0 then fX0_rank_45 kb a0 a1 a2 a3 s1 else bnd (FX0_rankPlace a0 (gm s 13 a1 a3) a2 s1) fun x2 s2 => bnd (FX4_insert (2 * a0 + 1) x2 (gm s 13 a1 a3) s2) fun _ s3 => fX0_rank_45 kb a0 a1 a2 a3 s3 else none) else fX0_rank_51 kb s
noncomputable def fX0_rank_0 (kb : Co) (a0 a1 a2 : Int) (s : St) : Res := bnd (FX4_clear (2 * a0 + 1) s) fun _ s1 => fX0_rank_9 kb a0 a1 a2 0 s1
noncomputable def tX0_rank_51 (kb : Co) : List Rw := []
noncomputable def tX0_rank_45 (kb : Co) : List Rw := (51, [(7, 0), (7, 0), (7, 0), (7, 0), (7, 0)], [], fun xs ys s => fX0_rank_51 kb s) :: tX0_rank_51 kb
noncomputable def tX0_rank_9 (kb : Co) : List Rw := (45, [(3, 0), (3, 13), (0, 0), (0, 0), (7, 0)], [], fun xs ys s => fX0_rank_45 kb (xs.getD 0 0) (xs.getD 1 0) (xs.getD 2 0) (xs.getD 3 0) s) :: tX0_rank_45 kb
noncomputable def tX0_rank_0 (kb : Co) : List Rw := (9, [(3, 0), (3, 13), (0, 0), (0, 0), (7, 0)], [], fun xs ys s => fX0_rank_9 kb (xs.getD 0 0) (xs.getD 1 0) (xs.getD 2 0) (xs.getD 3 0) s) :: tX0_rank_9 kb
noncomputable def rX0_rank (kb : Co) : List Rw := (0, [(3, 0), (3, 13), (0, 0), (7, 0), (7, 0)], [], fun xs ys s => fX0_rank_0 kb (xs.getD 0 0) (xs.getD 1 0) (xs.getD 2 0) s) :: tX0_rank_0 kb
noncomputable def kX0_rank : Nat → Co
  | 0 => nk
  | n + 1 => fam (rX0_rank (kX0_rank n)) nk
noncomputable def FX0_rank (a0 a1 a2 : Int) (s : St) : Res := fX0_rank_0 (kX0_rank 9999) a0 a1 a2 s
noncomputable def gX0_rank : Fn := fun xs s => FX0_rank (xs.getD 0 0) (xs.getD 1 0) (xs.getD 2 0) s
noncomputable def mdX0_rank : MD := ([(3, 0), (3, 13), (0, 0)], (9, 0), yX0_rank, cX0_rank, (5, none, 5, 122, []))
-- Floatparade$Row.numberAt(I)I
noncomputable def fX4_numberAt_18 (kb : Co) (y0 : Int) (s : St) : Res := some (0, y0, s)
noncomputable def fX4_numberAt_14 (kb : Co) (a2 : Int) (s : St) : Res := if 0 ≤ a2 then fX4_numberAt_18 kb (gm s 6 a2 0) s else none
noncomputable def fX4_numberAt_0 (kb : Co) (a0 a1 : Int) (s : St) : Res := bnd (FX4_at a0 a1 s) fun x1 s1 => if x1 = (-1) then fX4_numberAt_18 kb (-1) s1 else fX4_numberAt_14 kb x1 s1
noncomputable def tX4_numberAt_18 (kb : Co) : List Rw := []
noncomputable def tX4_numberAt_14 (kb : Co) : List Rw := (18, [(7, 0), (7, 0), (7, 0)], [(0, 0)], fun xs ys s => fX4_numberAt_18 kb (ys.getD 0 0) s) :: tX4_numberAt_18 kb
noncomputable def tX4_numberAt_0 (kb : Co) : List Rw := (14, [(7, 0), (7, 0), (2, 6)], [], fun xs ys s => fX4_numberAt_14 kb (xs.getD 0 0) s) :: tX4_numberAt_14 kb
noncomputable def rX4_numberAt (kb : Co) : List Rw := (0, [(3, 4), (0, 0), (7, 0)], [], fun xs ys s => fX4_numberAt_0 kb (xs.getD 0 0) (xs.getD 1 0) s) :: tX4_numberAt_0 kb
noncomputable def kX4_numberAt : Nat → Co
  | 0 => nk
  | n + 1 => fam (rX4_numberAt (kX4_numberAt n)) nk
noncomputable def FX4_numberAt (a0 a1 : Int) (s : St) : Res := fX4_numberAt_0 (kX4_numberAt 0) a0 a1 s
noncomputable def gX4_numberAt : Fn := fun xs s => FX4_numberAt (xs.getD 0 0) (xs.getD 1 0) s
noncomputable def mdX4_numberAt : MD := ([(3, 4), (0, 0)], (0, 0), yX4_numberAt, cX4_numberAt, (3, (some .int), 2, 43, []))
-- Floatparade$League.settle()V
noncomputable def fX0_settle_53 (kb : Co) (a0 : Int) (s : St) : Res := bnd (FX4_numberAt (2 * a0 + 1) 0 s) fun x1 s1 => some (0, 0, (pm s1 0 a0 5 x1))
noncomputable def fX0_settle_47 (kb : Co) (a0 a1 : Int) (s : St) : Res := kb 2 [(3, 0, a0), (0, 0, (wr (a1 + 1))), (7, 0, 0)] [] s
noncomputable def fX0_settle_2 (kb : Co) (a0 a1 : Int) (s : St) : Res := if a1 < (gm s 4 (2 * a0 + 1) 1) then (bnd (FX4_at (2 * a0 + 1) a1 s) fun x1 s1 => if x1 = (-1) then fX0_settle_47 kb a0 a1 s1 else if 0 ≤ x1 then if 0 ≤ x1 then fX0_settle_47 kb a0 a1 (pm s1 6 x1 6 (wr ((gm s1 6 x1 6) + (wr (100 * (wr ((gm s1 4 (2 * a0 + 1) 1) - a1))))))) else none else none) else fX0_settle_53 kb a0 s
noncomputable def fX0_settle_0 (kb : Co) (a0 : Int) (s : St) : Res := fX0_settle_2 kb a0 0 s
noncomputable def tX0_settle_53 (kb : Co) : List Rw := []
noncomputable def tX0_settle_47 (kb : Co) : List Rw := (53, [(3, 0), (7, 0), (7, 0)], [], fun xs ys s => fX0_settle_53 kb (xs.getD 0 0) s) :: tX0_settle_53 kb
noncomputable def tX0_settle_2 (kb : Co) : List Rw := (47, [(3, 0), (0, 0), (7, 0)], [], fun xs ys s => fX0_settle_47 kb (xs.getD 0 0) (xs.getD 1 0) s) :: tX0_settle_47 kb
noncomputable def tX0_settle_0 (kb : Co) : List Rw := (2, [(3, 0), (0, 0), (7, 0)], [], fun xs ys s => fX0_settle_2 kb (xs.getD 0 0) (xs.getD 1 0) s) :: tX0_settle_2 kb
noncomputable def rX0_settle (kb : Co) : List Rw := (0, [(3, 0), (7, 0), (7, 0)], [], fun xs ys s => fX0_settle_0 kb (xs.getD 0 0) s) :: tX0_settle_0 kb
noncomputable def kX0_settle : Nat → Co
  | 0 => nk
  | n + 1 => fam (rX0_settle (kX0_settle n)) nk
noncomputable def FX0_settle (a0 : Int) (s : St) : Res := fX0_settle_0 (kX0_settle 9999) a0 s
noncomputable def gX0_settle : Fn := fun xs s => FX0_settle (xs.getD 0 0) s
noncomputable def mdX0_settle : MD := ([(3, 0)], (9, 0), yX0_settle, cX0_settle, (3, none, 3, 65, []))
-- Floatparade$Line.goesOn()Z
noncomputable def fX1_goesOn_19 (kb : Co) (y0 : Int) (s : St) : Res := if (y0 : Int) = 0 ∨ (y0 : Int) = 1 then some (0, y0, s) else none
noncomputable def fX1_goesOn_18 (kb : Co) (s : St) : Res := fX1_goesOn_19 kb 0 s
noncomputable def fX1_goesOn_0 (kb : Co) (a0 : Int) (s : St) : Res := if (gm s 1 a0 6) = 0 then fX1_goesOn_18 kb s else if (gm s 1 a0 7) = 0 then fX1_goesOn_19 kb 1 s else fX1_goesOn_18 kb s
noncomputable def tX1_goesOn_19 (kb : Co) : List Rw := []
noncomputable def tX1_goesOn_18 (kb : Co) : List Rw := (19, [(7, 0)], [(0, 0)], fun xs ys s => fX1_goesOn_19 kb (ys.getD 0 0) s) :: tX1_goesOn_19 kb
noncomputable def tX1_goesOn_0 (kb : Co) : List Rw := (18, [(7, 0)], [], fun xs ys s => fX1_goesOn_18 kb s) :: tX1_goesOn_18 kb
noncomputable def rX1_goesOn (kb : Co) : List Rw := (0, [(3, 1)], [], fun xs ys s => fX1_goesOn_0 kb (xs.getD 0 0) s) :: tX1_goesOn_0 kb
noncomputable def kX1_goesOn : Nat → Co
  | 0 => nk
  | n + 1 => fam (rX1_goesOn (kX1_goesOn n)) nk
noncomputable def FX1_goesOn (a0 : Int) (s : St) : Res := fX1_goesOn_0 (kX1_goesOn 0) a0 s
noncomputable def gX1_goesOn : Fn := fun xs s => FX1_goesOn (xs.getD 0 0) s
noncomputable def mdX1_goesOn : MD := ([(3, 1)], (0, 0), yX1_goesOn, cX1_goesOn, (1, (some .boolean), 0, 0, []))
-- Floatparade$Line.partAt(I)LFloatparade$Part;
noncomputable def fX1_partAt_33 (kb : Co) (y0 : Int) (s : St) : Res := some (0, y0, s)
noncomputable def fX1_partAt_32 (kb : Co) (s : St) : Res := fX1_partAt_33 kb (-1) s
noncomputable def fX1_partAt_0 (kb : Co) (a0 a1 : Int) (s : St) : Res := bnd (FX11_isWithin a1 0 (wr ((gm s 1 a0 2) - 1)) s) fun x1 s1 => if x1 = 0 then fX1_partAt_32 kb s1 else if a1 < 60 then (if 0 ≤ a1 ∧ a1 < 60 then fX1_partAt_33 kb (gm s1 28 a0 a1) s1 else none) else fX1_partAt_32 kb s1
noncomputable def tX1_partAt_33 (kb : Co) : List Rw := []
noncomputable def tX1_partAt_32 (kb : Co) : List Rw := (33, [(7, 0), (7, 0)], [(2, 2)], fun xs ys s => fX1_partAt_33 kb (ys.getD 0 0) s) :: tX1_partAt_33 kb
noncomputable def tX1_partAt_0 (kb : Co) : List Rw := (32, [(7, 0), (7, 0)], [], fun xs ys s => fX1_partAt_32 kb s) :: tX1_partAt_32 kb
noncomputable def rX1_partAt (kb : Co) : List Rw := (0, [(3, 1), (0, 0)], [], fun xs ys s => fX1_partAt_0 kb (xs.getD 0 0) (xs.getD 1 0) s) :: tX1_partAt_0 kb
noncomputable def kX1_partAt : Nat → Co
  | 0 => nk
  | n + 1 => fam (rX1_partAt (kX1_partAt n)) nk
noncomputable def FX1_partAt (a0 a1 : Int) (s : St) : Res := fX1_partAt_0 (kX1_partAt 0) a0 a1 s
noncomputable def gX1_partAt : Fn := fun xs s => FX1_partAt (xs.getD 0 0) (xs.getD 1 0) s
noncomputable def mdX1_partAt : MD := ([(3, 1), (0, 0)], (2, 2), yX1_partAt, cX1_partAt, (2, (some (.object "Floatparade$Part")), 1, 22, []))
-- Floatparade$Line.clear()V
noncomputable def fX1_clear_44 (kb : Co) (s : St) : Res := some (0, 0, s)
noncomputable def fX1_clear_22 (kb : Co) (a0 a1 : Int) (s : St) : Res := if a1 < 12 then (if 0 ≤ a1 ∧ a1 < 12 then kb 22 [(3, 1, a0), (0, 0, (wr (a1 + 1)))] [] (pm s 29 a0 a1 0) else none) else fX1_clear_44 kb s
noncomputable def fX1_clear_0 (kb : Co) (a0 : Int) (s : St) : Res := if (0 : Int) = 0 ∨ (0 : Int) = 1 then if (0 : Int) = 0 ∨ (0 : Int) = 1 then fX1_clear_22 kb a0 0 (pm (pm (pm (pm s 1 a0 2 0) 1 a0 3 0) 1 a0 6 0) 1 a0 7 0) else none else none
noncomputable def tX1_clear_44 (kb : Co) : List Rw := []
noncomputable def tX1_clear_22 (kb : Co) : List Rw := (44, [(7, 0), (7, 0)], [], fun xs ys s => fX1_clear_44 kb s) :: tX1_clear_44 kb
noncomputable def tX1_clear_0 (kb : Co) : List Rw := (22, [(3, 1), (0, 0)], [], fun xs ys s => fX1_clear_22 kb (xs.getD 0 0) (xs.getD 1 0) s) :: tX1_clear_22 kb
noncomputable def rX1_clear (kb : Co) : List Rw := (0, [(3, 1), (7, 0)], [], fun xs ys s => fX1_clear_0 kb (xs.getD 0 0) s) :: tX1_clear_0 kb
noncomputable def kX1_clear : Nat → Co
  | 0 => nk
  | n + 1 => fam (rX1_clear (kX1_clear n)) nk
noncomputable def FX1_clear (a0 : Int) (s : St) : Res := fX1_clear_0 (kX1_clear 9999) a0 s
noncomputable def gX1_clear : Fn := fun xs s => FX1_clear (xs.getD 0 0) s
noncomputable def mdX1_clear : MD := ([(3, 1)], (9, 0), yX1_clear, cX1_clear, (2, none, 0, 0, []))
-- Floatparade$Society.wagonAt(I)LFloatparade$Wagon;
noncomputable def fX6_wagonAt_33 (kb : Co) (y0 : Int) (s : St) : Res := some (0, y0, s)
noncomputable def fX6_wagonAt_32 (kb : Co) (s : St) : Res := fX6_wagonAt_33 kb (-1) s
noncomputable def fX6_wagonAt_0 (kb : Co) (a0 a1 : Int) (s : St) : Res := bnd (FX11_isWithin a1 0 (wr ((gm s 6 a0 10) - 1)) s) fun x1 s1 => if x1 = 0 then fX6_wagonAt_32 kb s1 else if a1 < 3 then (if 0 ≤ a1 ∧ a1 < 3 then fX6_wagonAt_33 kb (gm s1 15 a0 a1) s1 else none) else fX6_wagonAt_32 kb s1
noncomputable def tX6_wagonAt_33 (kb : Co) : List Rw := []
noncomputable def tX6_wagonAt_32 (kb : Co) : List Rw := (33, [(7, 0), (7, 0)], [(2, 10)], fun xs ys s => fX6_wagonAt_33 kb (ys.getD 0 0) s) :: tX6_wagonAt_33 kb
noncomputable def tX6_wagonAt_0 (kb : Co) : List Rw := (32, [(7, 0), (7, 0)], [], fun xs ys s => fX6_wagonAt_32 kb s) :: tX6_wagonAt_32 kb
noncomputable def rX6_wagonAt (kb : Co) : List Rw := (0, [(3, 6), (0, 0)], [], fun xs ys s => fX6_wagonAt_0 kb (xs.getD 0 0) (xs.getD 1 0) s) :: tX6_wagonAt_0 kb
noncomputable def kX6_wagonAt : Nat → Co
  | 0 => nk
  | n + 1 => fam (rX6_wagonAt (kX6_wagonAt n)) nk
noncomputable def FX6_wagonAt (a0 a1 : Int) (s : St) : Res := fX6_wagonAt_0 (kX6_wagonAt 0) a0 a1 s
noncomputable def gX6_wagonAt : Fn := fun xs s => FX6_wagonAt (xs.getD 0 0) (xs.getD 1 0) s
noncomputable def mdX6_wagonAt : MD := ([(3, 6), (0, 0)], (2, 10), yX6_wagonAt, cX6_wagonAt, (2, (some (.object "Floatparade$Wagon")), 1, 22, []))
-- Floatparade$Part.set(LFloatparade$Society;II)V
noncomputable def fX2_set_0 (kb : Co) (a0 a1 a2 a3 : Int) (s : St) : Res := if (0 : Int) = 0 ∨ (0 : Int) = 1 then some (0, 0, (pm (pm (pm (pm (pm (pm s 2 a0 0 a1) 2 a0 1 a2) 2 a0 3 a3) 2 a0 2 (-1)) 2 a0 4 0) 2 a0 5 0)) else none
noncomputable def tX2_set_0 (kb : Co) : List Rw := []
noncomputable def rX2_set (kb : Co) : List Rw := (0, [(3, 2), (2, 6), (0, 0), (0, 0)], [], fun xs ys s => fX2_set_0 kb (xs.getD 0 0) (xs.getD 1 0) (xs.getD 2 0) (xs.getD 3 0) s) :: tX2_set_0 kb
noncomputable def kX2_set : Nat → Co
  | 0 => nk
  | n + 1 => fam (rX2_set (kX2_set n)) nk
noncomputable def FX2_set (a0 a1 a2 a3 : Int) (s : St) : Res := fX2_set_0 (kX2_set 0) a0 a1 a2 a3 s
noncomputable def gX2_set : Fn := fun xs s => FX2_set (xs.getD 0 0) (xs.getD 1 0) (xs.getD 2 0) (xs.getD 3 0) s
noncomputable def mdX2_set : MD := ([(3, 2), (2, 6), (0, 0), (0, 0)], (9, 0), yX2_set, cX2_set, (4, none, 0, 0, []))
-- Floatparade$Line.append(LFloatparade$Society;II)V
noncomputable def fX1_append_50 (kb : Co) (a0 a1 a2 a3 y0 : Int) (s : St) : Res := if 0 ≤ y0 then bnd (FX2_set y0 a1 a2 a3 s) fun _ s1 => if 0 ≤ (gm s1 1 a0 2) ∧ (gm s1 1 a0 2) < 60 then some (0, 0, (pm (pm s1 28 a0 (gm s1 1 a0 2) y0) 1 a0 2 (wr ((gm (pm s1 28 a0 (gm s1 1 a0 2) y0) 1 a0 2) + 1)))) else none else none
noncomputable def fX1_append_41 (kb : Co) (a0 a1 a2 a3 : Int) (s : St) : Res := if 0 ≤ (gm s 1 a0 2) ∧ (gm s 1 a0 2) < 60 then fX1_append_50 kb a0 a1 a2 a3 (gm s 28 a0 (gm s 1 a0 2)) s else none
noncomputable def fX1_append_19 (kb : Co) (a0 a1 a2 a3 : Int) (s : St) : Res := if 0 ≤ (gm s 1 a0 2) ∧ (gm s 1 a0 2) < 60 then if (gm s 28 a0 (gm s 1 a0 2)) = (-1) then fX1_append_50 kb a0 a1 a2 a3 (s.2 2) (alc 2 [] s) else fX1_append_41 kb a0 a1 a2 a3 s else none
noncomputable def fX1_append_0 (kb : Co) (a0 a1 a2 a3 : Int) (s : St) : Res := bnd (FX11_isWithin (gm s 1 a0 2) 0 (wr (60 - 1)) s) fun x1 s1 => if x1 = 0 then some (0, 0, s1) else fX1_append_19 kb a0 a1 a2 a3 s1
noncomputable def tX1_append_50 (kb : Co) : List Rw := []
noncomputable def tX1_append_41 (kb : Co) : List Rw := (50, [(3, 1), (2, 6), (0, 0), (0, 0), (7, 0)], [(2, 2)], fun xs ys s => fX1_append_50 kb (xs.getD 0 0) (xs.getD 1 0) (xs.getD 2 0) (xs.getD 3 0) (ys.getD 0 0) s) :: tX1_append_50 kb
noncomputable def tX1_append_19 (kb : Co) : List Rw := (41, [(3, 1), (2, 6), (0, 0), (0, 0), (7, 0)], [], fun xs ys s => fX1_append_41 kb (xs.getD 0 0) (xs.getD 1 0) (xs.getD 2 0) (xs.getD 3 0) s) :: tX1_append_41 kb
noncomputable def tX1_append_0 (kb : Co) : List Rw := (19, [(3, 1), (2, 6), (0, 0), (0, 0), (7, 0)], [], fun xs ys s => fX1_append_19 kb (xs.getD 0 0) (xs.getD 1 0) (xs.getD 2 0) (xs.getD 3 0) s) :: tX1_append_19 kb
noncomputable def rX1_append (kb : Co) : List Rw := (0, [(3, 1), (2, 6), (0, 0), (0, 0), (7, 0)], [], fun xs ys s => fX1_append_0 kb (xs.getD 0 0) (xs.getD 1 0) (xs.getD 2 0) (xs.getD 3 0) s) :: tX1_append_0 kb
noncomputable def kX1_append : Nat → Co
  | 0 => nk
  | n + 1 => fam (rX1_append (kX1_append n)) nk
noncomputable def FX1_append (a0 a1 a2 a3 : Int) (s : St) : Res := fX1_append_0 (kX1_append 0) a0 a1 a2 a3 s
noncomputable def gX1_append : Fn := fun xs s => FX1_append (xs.getD 0 0) (xs.getD 1 0) (xs.getD 2 0) (xs.getD 3 0) s
noncomputable def mdX1_append : MD := ([(3, 1), (2, 6), (0, 0), (0, 0)], (9, 0), yX1_append, cX1_append, (5, none, 3, 60, []))
-- Floatparade$Society.wingLength()I
noncomputable def fX6_wingLength_0 (kb : Co) (a0 : Int) (s : St) : Res := if 10 = 0 then none else bnd (FJ9_min_7cf53 (wr ((idv (gm s 6 a0 1) 10) + 1)) 9 s) fun x1 s1 => some (0, x1, s1)
noncomputable def tX6_wingLength_0 (kb : Co) : List Rw := []
noncomputable def rX6_wingLength (kb : Co) : List Rw := (0, [(3, 6)], [], fun xs ys s => fX6_wingLength_0 kb (xs.getD 0 0) s) :: tX6_wingLength_0 kb
noncomputable def kX6_wingLength : Nat → Co
  | 0 => nk
  | n + 1 => fam (rX6_wingLength (kX6_wingLength n)) nk
noncomputable def FX6_wingLength (a0 : Int) (s : St) : Res := fX6_wingLength_0 (kX6_wingLength 0) a0 s
noncomputable def gX6_wingLength : Fn := fun xs s => FX6_wingLength (xs.getD 0 0) s
noncomputable def mdX6_wingLength : MD := ([(3, 6)], (0, 0), yX6_wingLength, cX6_wingLength, (1, (some .int), 1, 21, []))
-- Floatparade$Line.lineUp(LFloatparade$Society;)V
noncomputable def fX1_lineUp_63 (kb : Co) (s : St) : Res := some (0, 0, s)
noncomputable def fX1_lineUp_46 (kb : Co) (a0 a1 : Int) (s : St) : Res := if 0 ≤ a1 then if (gm s 6 a1 10) = 0 then (if 0 ≤ a1 then bnd (FX6_wingLength a1 s) fun x1 s1 => bnd (FX1_append a0 a1 (-1) x1 s1) fun _ s2 => fX1_lineUp_63 kb s2 else none) else fX1_lineUp_63 kb s else none
noncomputable def fX1_lineUp_40 (kb : Co) (a0 a1 a2 : Int) (s : St) : Res := kb 2 [(3, 1, a0), (2, 6, a1), (0, 0, (wr (a2 + 1))), (7, 0, 0)] [] s
noncomputable def fX1_lineUp_2 (kb : Co) (a0 a1 a2 : Int) (s : St) : Res := if 0 ≤ a1 then if a2 < (gm s 6 a1 10) then (if 0 ≤ a1 then bnd (FX6_wagonAt a1 a2 s) fun x1 s1 => if x1 = (-1) then fX1_lineUp_40 kb a0 a1 a2 s1 else if 0 ≤ x1 then bnd (FX1_append a0 a1 a2 (gm s1 10 x1 3) s1) fun _ s2 => if 0 ≤ a1 then bnd (FX6_wingLength a1 s2) fun x3 s3 => bnd (FX1_append a0 a1 (-1) x3 s3) fun _ s4 => fX1_lineUp_40 kb a0 a1 a2 s4 else none else none else none) else fX1_lineUp_46 kb a0 a1 s else none
noncomputable def fX1_lineUp_0 (kb : Co) (a0 a1 : Int) (s : St) : Res := fX1_lineUp_2 kb a0 a1 0 s
noncomputable def tX1_lineUp_63 (kb : Co) : List Rw := []
noncomputable def tX1_lineUp_46 (kb : Co) : List Rw := (63, [(7, 0), (7, 0), (7, 0), (7, 0)], [], fun xs ys s => fX1_lineUp_63 kb s) :: tX1_lineUp_63 kb
noncomputable def tX1_lineUp_40 (kb : Co) : List Rw := (46, [(3, 1), (2, 6), (7, 0), (7, 0)], [], fun xs ys s => fX1_lineUp_46 kb (xs.getD 0 0) (xs.getD 1 0) s) :: tX1_lineUp_46 kb
noncomputable def tX1_lineUp_2 (kb : Co) : List Rw := (40, [(3, 1), (2, 6), (0, 0), (7, 0)], [], fun xs ys s => fX1_lineUp_40 kb (xs.getD 0 0) (xs.getD 1 0) (xs.getD 2 0) s) :: tX1_lineUp_40 kb
noncomputable def tX1_lineUp_0 (kb : Co) : List Rw := (2, [(3, 1), (2, 6), (0, 0), (7, 0)], [], fun xs ys s => fX1_lineUp_2 kb (xs.getD 0 0) (xs.getD 1 0) (xs.getD 2 0) s) :: tX1_lineUp_2 kb
noncomputable def rX1_lineUp (kb : Co) : List Rw := (0, [(3, 1), (2, 6), (7, 0), (7, 0)], [], fun xs ys s => fX1_lineUp_0 kb (xs.getD 0 0) (xs.getD 1 0) s) :: tX1_lineUp_0 kb
noncomputable def kX1_lineUp : Nat → Co
  | 0 => nk
  | n + 1 => fam (rX1_lineUp (kX1_lineUp n)) nk
noncomputable def FX1_lineUp (a0 a1 : Int) (s : St) : Res := fX1_lineUp_0 (kX1_lineUp 9999) a0 a1 s
noncomputable def gX1_lineUp : Fn := fun xs s => FX1_lineUp (xs.getD 0 0) (xs.getD 1 0) s
noncomputable def mdX1_lineUp : MD := ([(3, 1), (2, 6)], (9, 0), yX1_lineUp, cX1_lineUp, (4, none, 4, 84, []))
-- Floatparade$Line.form(LFloatparade$Row;II)I
noncomputable def fX1_form_56 (kb : Co) (a0 : Int) (s : St) : Res := some (0, (gm s 1 a0 2), s)
noncomputable def fX1_form_50 (kb : Co) (a0 a1 a4 : Int) (s : St) : Res := kb 22 [(3, 1, a0), (3, 4, a1), (7, 0, 0), (7, 0, 0), (0, 0, (wr (a4 + 1))), (7, 0, 0)] [] s
noncomputable def fX1_form_22 (kb : Co) (a0 a1 a4 : Int) (s : St) : Res := if a4 < (gm s 4 a1 1) then (bnd (FX4_at a1 a4 s) fun x1 s1 => if x1 = (-1) then fX1_form_50 kb a0 a1 a4 s1 else bnd (FX1_lineUp a0 x1 s1) fun _ s2 => fX1_form_50 kb a0 a1 a4 s2) else fX1_form_56 kb a0 s
noncomputable def fX1_form_0 (kb : Co) (a0 a1 a2 a3 : Int) (s : St) : Res := bnd (FX1_clear a0 s) fun _ s1 => if (1 : Int) = 0 ∨ (1 : Int) = 1 then fX1_form_22 kb a0 a1 0 (pm (pm (pm s1 1 a0 4 a2) 1 a0 5 a3) 1 a0 6 1) else none
noncomputable def tX1_form_56 (kb : Co) : List Rw := []
noncomputable def tX1_form_50 (kb : Co) : List Rw := (56, [(3, 1), (7, 0), (7, 0), (7, 0), (7, 0), (7, 0)], [], fun xs ys s => fX1_form_56 kb (xs.getD 0 0) s) :: tX1_form_56 kb
noncomputable def tX1_form_22 (kb : Co) : List Rw := (50, [(3, 1), (3, 4), (7, 0), (7, 0), (0, 0), (7, 0)], [], fun xs ys s => fX1_form_50 kb (xs.getD 0 0) (xs.getD 1 0) (xs.getD 2 0) s) :: tX1_form_50 kb
noncomputable def tX1_form_0 (kb : Co) : List Rw := (22, [(3, 1), (3, 4), (7, 0), (7, 0), (0, 0), (7, 0)], [], fun xs ys s => fX1_form_22 kb (xs.getD 0 0) (xs.getD 1 0) (xs.getD 2 0) s) :: tX1_form_22 kb
noncomputable def rX1_form (kb : Co) : List Rw := (0, [(3, 1), (3, 4), (0, 0), (0, 0), (7, 0), (7, 0)], [], fun xs ys s => fX1_form_0 kb (xs.getD 0 0) (xs.getD 1 0) (xs.getD 2 0) (xs.getD 3 0) s) :: tX1_form_0 kb
noncomputable def kX1_form : Nat → Co
  | 0 => nk
  | n + 1 => fam (rX1_form (kX1_form n)) nk
noncomputable def FX1_form (a0 a1 a2 a3 : Int) (s : St) : Res := fX1_form_0 (kX1_form 9999) a0 a1 a2 a3 s
noncomputable def gX1_form : Fn := fun xs s => FX1_form (xs.getD 0 0) (xs.getD 1 0) (xs.getD 2 0) (xs.getD 3 0) s
noncomputable def mdX1_form : MD := ([(3, 1), (3, 4), (0, 0), (0, 0)], (0, 0), yX1_form, cX1_form, (6, (some .int), 5, 107, []))
-- Floatparade$Line.hold(I)V
noncomputable def fX1_hold_22 (kb : Co) (s : St) : Res := some (0, 0, s)
noncomputable def fX1_hold_0 (kb : Co) (a0 a1 : Int) (s : St) : Res := bnd (FX11_isWithin a1 0 (wr (12 - 1)) s) fun x1 s1 => if x1 = 0 then fX1_hold_22 kb s1 else if 0 ≤ a1 ∧ a1 < 12 then fX1_hold_22 kb (pm s1 29 a0 a1 2) else none
noncomputable def tX1_hold_22 (kb : Co) : List Rw := []
noncomputable def tX1_hold_0 (kb : Co) : List Rw := (22, [(7, 0), (7, 0)], [], fun xs ys s => fX1_hold_22 kb s) :: tX1_hold_22 kb
noncomputable def rX1_hold (kb : Co) : List Rw := (0, [(3, 1), (0, 0)], [], fun xs ys s => fX1_hold_0 kb (xs.getD 0 0) (xs.getD 1 0) s) :: tX1_hold_0 kb
noncomputable def kX1_hold : Nat → Co
  | 0 => nk
  | n + 1 => fam (rX1_hold (kX1_hold n)) nk
noncomputable def FX1_hold (a0 a1 : Int) (s : St) : Res := fX1_hold_0 (kX1_hold 0) a0 a1 s
noncomputable def gX1_hold : Fn := fun xs s => FX1_hold (xs.getD 0 0) (xs.getD 1 0) s
noncomputable def mdX1_hold : MD := ([(3, 1), (0, 0)], (9, 0), yX1_hold, cX1_hold, (2, none, 1, 22, []))
-- Floatparade$Line.isHeld(I)Z
noncomputable def fX1_isHeld_29 (kb : Co) (y0 : Int) (s : St) : Res := if (y0 : Int) = 0 ∨ (y0 : Int) = 1 then some (0, y0, s) else none
noncomputable def fX1_isHeld_28 (kb : Co) (s : St) : Res := fX1_isHeld_29 kb 0 s
noncomputable def fX1_isHeld_0 (kb : Co) (a0 a1 : Int) (s : St) : Res := bnd (FX11_isWithin a1 0 (wr (12 - 1)) s) fun x1 s1 => if x1 = 0 then fX1_isHeld_28 kb s1 else if 0 ≤ a1 ∧ a1 < 12 then if 0 < (gm s1 29 a0 a1) then fX1_isHeld_29 kb 1 s1 else fX1_isHeld_28 kb s1 else none
noncomputable def tX1_isHeld_29 (kb : Co) : List Rw := []
noncomputable def tX1_isHeld_28 (kb : Co) : List Rw := (29, [(7, 0), (7, 0)], [(0, 0)], fun xs ys s => fX1_isHeld_29 kb (ys.getD 0 0) s) :: tX1_isHeld_29 kb
noncomputable def tX1_isHeld_0 (kb : Co) : List Rw := (28, [(7, 0), (7, 0)], [], fun xs ys s => fX1_isHeld_28 kb s) :: tX1_isHeld_28 kb
noncomputable def rX1_isHeld (kb : Co) : List Rw := (0, [(3, 1), (0, 0)], [], fun xs ys s => fX1_isHeld_0 kb (xs.getD 0 0) (xs.getD 1 0) s) :: tX1_isHeld_0 kb
noncomputable def kX1_isHeld : Nat → Co
  | 0 => nk
  | n + 1 => fam (rX1_isHeld (kX1_isHeld n)) nk
noncomputable def FX1_isHeld (a0 a1 : Int) (s : St) : Res := fX1_isHeld_0 (kX1_isHeld 0) a0 a1 s
noncomputable def gX1_isHeld : Fn := fun xs s => FX1_isHeld (xs.getD 0 0) (xs.getD 1 0) s
noncomputable def mdX1_isHeld : MD := ([(3, 1), (0, 0)], (0, 0), yX1_isHeld, cX1_isHeld, (2, (some .boolean), 1, 22, []))
-- Floatparade$Part.tail()I
noncomputable def fX2_tail_0 (kb : Co) (a0 : Int) (s : St) : Res := some (0, (wr ((gm s 2 a0 2) - (wr ((gm s 2 a0 3) - 1)))), s)
noncomputable def tX2_tail_0 (kb : Co) : List Rw := []
noncomputable def rX2_tail (kb : Co) : List Rw := (0, [(3, 2)], [], fun xs ys s => fX2_tail_0 kb (xs.getD 0 0) s) :: tX2_tail_0 kb
noncomputable def kX2_tail : Nat → Co
  | 0 => nk
  | n + 1 => fam (rX2_tail (kX2_tail n)) nk
noncomputable def FX2_tail (a0 : Int) (s : St) : Res := fX2_tail_0 (kX2_tail 0) a0 s
noncomputable def gX2_tail : Fn := fun xs s => FX2_tail (xs.getD 0 0) s
noncomputable def mdX2_tail : MD := ([(3, 2)], (0, 0), yX2_tail, cX2_tail, (1, (some .int), 0, 0, []))
-- Floatparade$Line.partsOn(I)I
noncomputable def fX1_partsOn_59 (kb : Co) (a2 : Int) (s : St) : Res := some (0, a2, s)
noncomputable def fX1_partsOn_51 (kb : Co) (a0 a1 a3 y0 y1 : Int) (s : St) : Res := kb 4 [(3, 1, a0), (0, 0, a1), (0, 0, (wr (y1 + y0))), (0, 0, (wr (a3 + 1))), (7, 0, 0)] [] s
noncomputable def fX1_partsOn_50 (kb : Co) (a0 a1 a3 y0 : Int) (s : St) : Res := fX1_partsOn_51 kb a0 a1 a3 0 y0 s
noncomputable def fX1_partsOn_4 (kb : Co) (a0 a1 a2 a3 : Int) (s : St) : Res := if a3 < (gm s 1 a0 2) then (bnd (FX1_partAt a0 a3 s) fun x1 s1 => if x1 = (-1) then fX1_partsOn_50 kb a0 a1 a3 a2 s1 else if a1 < 0 then fX1_partsOn_50 kb a0 a1 a3 a2 s1 else if 0 ≤ x1 then bnd (FX2_tail x1 s1) fun x2 s2 => if 0 ≤ x1 then bnd (FX11_isWithin a1 x2 (gm s2 2 x1 2) s2) fun x3 s3 => if x3 = 0 then fX1_partsOn_50 kb a0 a1 a3 a2 s3 else fX1_partsOn_51 kb a0 a1 a3 1 a2 s3 else none else none) else fX1_partsOn_59 kb a2 s
noncomputable def fX1_partsOn_0 (kb : Co) (a0 a1 : Int) (s : St) : Res := fX1_partsOn_4 kb a0 a1 0 0 s
noncomputable def tX1_partsOn_59 (kb : Co) : List Rw := []
noncomputable def tX1_partsOn_51 (kb : Co) : List Rw := (59, [(7, 0), (7, 0), (0, 0), (7, 0), (7, 0)], [], fun xs ys s => fX1_partsOn_59 kb (xs.getD 0 0) s) :: tX1_partsOn_59 kb
noncomputable def tX1_partsOn_50 (kb : Co) : List Rw := (51, [(3, 1), (0, 0), (7, 0), (0, 0), (7, 0)], [(0, 0), (0, 0)], fun xs ys s => fX1_partsOn_51 kb (xs.getD 0 0) (xs.getD 1 0) (xs.getD 2 0) (ys.getD 0 0) (ys.getD 1 0) s) :: tX1_partsOn_51 kb
noncomputable def tX1_partsOn_4 (kb : Co) : List Rw := (50, [(3, 1), (0, 0), (7, 0), (0, 0), (7, 0)], [(0, 0)], fun xs ys s => fX1_partsOn_50 kb (xs.getD 0 0) (xs.getD 1 0) (xs.getD 2 0) (ys.getD 0 0) s) :: tX1_partsOn_50 kb
noncomputable def tX1_partsOn_0 (kb : Co) : List Rw := (4, [(3, 1), (0, 0), (0, 0), (0, 0), (7, 0)], [], fun xs ys s => fX1_partsOn_4 kb (xs.getD 0 0) (xs.getD 1 0) (xs.getD 2 0) (xs.getD 3 0) s) :: tX1_partsOn_4 kb
noncomputable def rX1_partsOn (kb : Co) : List Rw := (0, [(3, 1), (0, 0), (7, 0), (7, 0), (7, 0)], [], fun xs ys s => fX1_partsOn_0 kb (xs.getD 0 0) (xs.getD 1 0) s) :: tX1_partsOn_0 kb
noncomputable def kX1_partsOn : Nat → Co
  | 0 => nk
  | n + 1 => fam (rX1_partsOn (kX1_partsOn n)) nk
noncomputable def FX1_partsOn (a0 a1 : Int) (s : St) : Res := fX1_partsOn_0 (kX1_partsOn 9999) a0 a1 s
noncomputable def gX1_partsOn : Fn := fun xs s => FX1_partsOn (xs.getD 0 0) (xs.getD 1 0) s
noncomputable def mdX1_partsOn : MD := ([(3, 1), (0, 0)], (0, 0), yX1_partsOn, cX1_partsOn, (5, (some .int), 2, 43, []))
-- Floatparade$Route.startAtPlace(I)I
noncomputable def fX3_startAtPlace_25 (kb : Co) (y0 : Int) (s : St) : Res := some (0, y0, s)
noncomputable def fX3_startAtPlace_24 (kb : Co) (s : St) : Res := fX3_startAtPlace_25 kb 0 s
noncomputable def fX3_startAtPlace_0 (kb : Co) (a0 a1 : Int) (s : St) : Res := bnd (FX11_isWithin a1 0 (wr (10 - 1)) s) fun x1 s1 => if x1 = 0 then fX3_startAtPlace_24 kb s1 else if 0 ≤ a1 ∧ a1 < 10 then fX3_startAtPlace_25 kb (gm s1 25 a0 a1) s1 else none
noncomputable def tX3_startAtPlace_25 (kb : Co) : List Rw := []
noncomputable def tX3_startAtPlace_24 (kb : Co) : List Rw := (25, [(7, 0), (7, 0)], [(0, 0)], fun xs ys s => fX3_startAtPlace_25 kb (ys.getD 0 0) s) :: tX3_startAtPlace_25 kb
noncomputable def tX3_startAtPlace_0 (kb : Co) : List Rw := (24, [(7, 0), (7, 0)], [], fun xs ys s => fX3_startAtPlace_24 kb s) :: tX3_startAtPlace_24 kb
noncomputable def rX3_startAtPlace (kb : Co) : List Rw := (0, [(3, 3), (0, 0)], [], fun xs ys s => fX3_startAtPlace_0 kb (xs.getD 0 0) (xs.getD 1 0) s) :: tX3_startAtPlace_0 kb
noncomputable def kX3_startAtPlace : Nat → Co
  | 0 => nk
  | n + 1 => fam (rX3_startAtPlace (kX3_startAtPlace n)) nk
noncomputable def FX3_startAtPlace (a0 a1 : Int) (s : St) : Res := fX3_startAtPlace_0 (kX3_startAtPlace 0) a0 a1 s
noncomputable def gX3_startAtPlace : Fn := fun xs s => FX3_startAtPlace (xs.getD 0 0) (xs.getD 1 0) s
noncomputable def mdX3_startAtPlace : MD := ([(3, 3), (0, 0)], (0, 0), yX3_startAtPlace, cX3_startAtPlace, (2, (some .int), 1, 22, []))
-- Floatparade$Route.cells()I
noncomputable def fX3_cells_0 (kb : Co) (a0 : Int) (s : St) : Res := bnd (FX3_startAtPlace a0 (wr ((gm s 3 a0 3) - 1)) s) fun x1 s1 => some (0, x1, s1)
noncomputable def tX3_cells_0 (kb : Co) : List Rw := []
noncomputable def rX3_cells (kb : Co) : List Rw := (0, [(3, 3)], [], fun xs ys s => fX3_cells_0 kb (xs.getD 0 0) s) :: tX3_cells_0 kb
noncomputable def kX3_cells : Nat → Co
  | 0 => nk
  | n + 1 => fam (rX3_cells (kX3_cells n)) nk
noncomputable def FX3_cells (a0 : Int) (s : St) : Res := fX3_cells_0 (kX3_cells 0) a0 s
noncomputable def gX3_cells : Fn := fun xs s => FX3_cells (xs.getD 0 0) s
noncomputable def mdX3_cells : MD := ([(3, 3)], (0, 0), yX3_cells, cX3_cells, (1, (some .int), 2, 43, []))
-- Floatparade$Part.isOut(I)Z
noncomputable def fX2_isOut_13 (kb : Co) (y0 : Int) (s : St) : Res := if (y0 : Int) = 0 ∨ (y0 : Int) = 1 then some (0, y0, s) else none
noncomputable def fX2_isOut_12 (kb : Co) (s : St) : Res := fX2_isOut_13 kb 0 s
noncomputable def fX2_isOut_0 (kb : Co) (a0 a1 : Int) (s : St) : Res := bnd (FX2_tail a0 s) fun x1 s1 => if x1 < a1 then fX2_isOut_12 kb s1 else fX2_isOut_13 kb 1 s1
noncomputable def tX2_isOut_13 (kb : Co) : List Rw := []
noncomputable def tX2_isOut_12 (kb : Co) : List Rw := (13, [(7, 0), (7, 0)], [(0, 0)], fun xs ys s => fX2_isOut_13 kb (ys.getD 0 0) s) :: tX2_isOut_13 kb
noncomputable def tX2_isOut_0 (kb : Co) : List Rw := (12, [(7, 0), (7, 0)], [], fun xs ys s => fX2_isOut_12 kb s) :: tX2_isOut_12 kb
noncomputable def rX2_isOut (kb : Co) : List Rw := (0, [(3, 2), (0, 0)], [], fun xs ys s => fX2_isOut_0 kb (xs.getD 0 0) (xs.getD 1 0) s) :: tX2_isOut_0 kb
noncomputable def kX2_isOut : Nat → Co
  | 0 => nk
  | n + 1 => fam (rX2_isOut (kX2_isOut n)) nk
noncomputable def FX2_isOut (a0 a1 : Int) (s : St) : Res := fX2_isOut_0 (kX2_isOut 0) a0 a1 s
noncomputable def gX2_isOut : Fn := fun xs s => FX2_isOut (xs.getD 0 0) (xs.getD 1 0) s
noncomputable def mdX2_isOut : MD := ([(3, 2), (0, 0)], (0, 0), yX2_isOut, cX2_isOut, (2, (some .boolean), 1, 20, []))
-- Floatparade$Part.isReady()Z
noncomputable def fX2_isReady_19 (kb : Co) (a0 y0 : Int) (s : St) : Res := if (0 : Int) = 0 ∨ (0 : Int) = 1 then if (y0 : Int) = 0 ∨ (y0 : Int) = 1 then some (0, y0, (pm s 2 a0 5 0)) else none else none
noncomputable def fX2_isReady_18 (kb : Co) (a0 : Int) (s : St) : Res := fX2_isReady_19 kb a0 0 s
noncomputable def fX2_isReady_0 (kb : Co) (a0 : Int) (s : St) : Res := if (gm s 2 a0 5) = 0 then (if (gm s 2 a0 4) = 0 then fX2_isReady_19 kb a0 1 s else fX2_isReady_18 kb a0 s) else fX2_isReady_18 kb a0 s
noncomputable def tX2_isReady_19 (kb : Co) : List Rw := []
noncomputable def tX2_isReady_18 (kb : Co) : List Rw := (19, [(3, 2), (7, 0)], [(0, 0)], fun xs ys s => fX2_isReady_19 kb (xs.getD 0 0) (ys.getD 0 0) s) :: tX2_isReady_19 kb
noncomputable def tX2_isReady_0 (kb : Co) : List Rw := (18, [(3, 2), (7, 0)], [], fun xs ys s => fX2_isReady_18 kb (xs.getD 0 0) s) :: tX2_isReady_18 kb
noncomputable def rX2_isReady (kb : Co) : List Rw := (0, [(3, 2), (7, 0)], [], fun xs ys s => fX2_isReady_0 kb (xs.getD 0 0) s) :: tX2_isReady_0 kb
noncomputable def kX2_isReady : Nat → Co
  | 0 => nk
  | n + 1 => fam (rX2_isReady (kX2_isReady n)) nk
noncomputable def FX2_isReady (a0 : Int) (s : St) : Res := fX2_isReady_0 (kX2_isReady 0) a0 s
noncomputable def gX2_isReady : Fn := fun xs s => FX2_isReady (xs.getD 0 0) s
noncomputable def mdX2_isReady : MD := ([(3, 2)], (0, 0), yX2_isReady, cX2_isReady, (2, (some .boolean), 0, 0, []))
-- Floatparade$Part.speed(Z)I
noncomputable def fX2_speed_17 (kb : Co) (y0 : Int) (s : St) : Res := some (0, y0, s)
noncomputable def fX2_speed_16 (kb : Co) (s : St) : Res := fX2_speed_17 kb 2 s
noncomputable def fX2_speed_0 (kb : Co) (a0 a1 : Int) (s : St) : Res := if (gm s 2 a0 1) = (-1) then (if a1 = 0 then fX2_speed_17 kb 3 s else fX2_speed_16 kb s) else fX2_speed_16 kb s
noncomputable def tX2_speed_17 (kb : Co) : List Rw := []
noncomputable def tX2_speed_16 (kb : Co) : List Rw := (17, [(7, 0), (7, 0)], [(0, 0)], fun xs ys s => fX2_speed_17 kb (ys.getD 0 0) s) :: tX2_speed_17 kb
noncomputable def tX2_speed_0 (kb : Co) : List Rw := (16, [(7, 0), (7, 0)], [], fun xs ys s => fX2_speed_16 kb s) :: tX2_speed_16 kb
noncomputable def rX2_speed (kb : Co) : List Rw := (0, [(3, 2), (0, 0)], [], fun xs ys s => fX2_speed_0 kb (xs.getD 0 0) (xs.getD 1 0) s) :: tX2_speed_0 kb
noncomputable def kX2_speed : Nat → Co
  | 0 => nk
  | n + 1 => fam (rX2_speed (kX2_speed n)) nk
noncomputable def FX2_speed (a0 a1 : Int) (s : St) : Res := fX2_speed_0 (kX2_speed 0) a0 a1 s
noncomputable def gX2_speed : Fn := fun xs s => FX2_speed (xs.getD 0 0) (xs.getD 1 0) s
noncomputable def mdX2_speed : MD := ([(3, 2), (0, 0)], (0, 0), yX2_speed, cX2_speed, (2, (some .int), 0, 0, []))
-- Floatparade$Route.cornerAt(I)I
noncomputable def fX3_cornerAt_33 (kb : Co) (y0 : Int) (s : St) : Res := some (0, y0, s)
noncomputable def fX3_cornerAt_32 (kb : Co) (s : St) : Res := fX3_cornerAt_33 kb (-1) s
noncomputable def fX3_cornerAt_0 (kb : Co) (a0 a1 : Int) (s : St) : Res := bnd (FX11_isWithin a1 0 (wr ((gm s 3 a0 3) - 1)) s) fun x1 s1 => if x1 = 0 then fX3_cornerAt_32 kb s1 else if a1 < 10 then (if 0 ≤ a1 ∧ a1 < 10 then fX3_cornerAt_33 kb (gm s1 24 a0 a1) s1 else none) else fX3_cornerAt_32 kb s1
noncomputable def tX3_cornerAt_33 (kb : Co) : List Rw := []
noncomputable def tX3_cornerAt_32 (kb : Co) : List Rw := (33, [(7, 0), (7, 0)], [(0, 0)], fun xs ys s => fX3_cornerAt_33 kb (ys.getD 0 0) s) :: tX3_cornerAt_33 kb
noncomputable def tX3_cornerAt_0 (kb : Co) : List Rw := (32, [(7, 0), (7, 0)], [], fun xs ys s => fX3_cornerAt_32 kb s) :: tX3_cornerAt_32 kb
noncomputable def rX3_cornerAt (kb : Co) : List Rw := (0, [(3, 3), (0, 0)], [], fun xs ys s => fX3_cornerAt_0 kb (xs.getD 0 0) (xs.getD 1 0) s) :: tX3_cornerAt_0 kb
noncomputable def kX3_cornerAt : Nat → Co
  | 0 => nk
  | n + 1 => fam (rX3_cornerAt (kX3_cornerAt n)) nk
noncomputable def FX3_cornerAt (a0 a1 : Int) (s : St) : Res := fX3_cornerAt_0 (kX3_cornerAt 0) a0 a1 s
noncomputable def gX3_cornerAt : Fn := fun xs s => FX3_cornerAt (xs.getD 0 0) (xs.getD 1 0) s
noncomputable def mdX3_cornerAt : MD := ([(3, 3), (0, 0)], (0, 0), yX3_cornerAt, cX3_cornerAt, (2, (some .int), 1, 22, []))
-- Floatparade$Route.cellAt(I)I
noncomputable def fX3_cellAt_25 (kb : Co) (y0 : Int) (s : St) : Res := some (0, y0, s)
noncomputable def fX3_cellAt_20 (kb : Co) (a0 a1 : Int) (s : St) : Res := bnd (FX3_startAtPlace a0 a1 s) fun x1 s1 => fX3_cellAt_25 kb x1 s1
noncomputable def fX3_cellAt_0 (kb : Co) (a0 a1 : Int) (s : St) : Res := if a1 = (wr ((gm s 3 a0 3) - 1)) then (bnd (FX3_startAtPlace a0 a1 s) fun x1 s1 => fX3_cellAt_25 kb (wr (x1 - 1)) s1) else fX3_cellAt_20 kb a0 a1 s
noncomputable def tX3_cellAt_25 (kb : Co) : List Rw := []
noncomputable def tX3_cellAt_20 (kb : Co) : List Rw := (25, [(7, 0), (7, 0)], [(0, 0)], fun xs ys s => fX3_cellAt_25 kb (ys.getD 0 0) s) :: tX3_cellAt_25 kb
noncomputable def tX3_cellAt_0 (kb : Co) : List Rw := (20, [(3, 3), (0, 0)], [], fun xs ys s => fX3_cellAt_20 kb (xs.getD 0 0) (xs.getD 1 0) s) :: tX3_cellAt_20 kb
noncomputable def rX3_cellAt (kb : Co) : List Rw := (0, [(3, 3), (0, 0)], [], fun xs ys s => fX3_cellAt_0 kb (xs.getD 0 0) (xs.getD 1 0) s) :: tX3_cellAt_0 kb
noncomputable def kX3_cellAt : Nat → Co
  | 0 => nk
  | n + 1 => fam (rX3_cellAt (kX3_cellAt n)) nk
noncomputable def FX3_cellAt (a0 a1 : Int) (s : St) : Res := fX3_cellAt_0 (kX3_cellAt 0) a0 a1 s
noncomputable def gX3_cellAt : Fn := fun xs s => FX3_cellAt (xs.getD 0 0) (xs.getD 1 0) s
noncomputable def mdX3_cellAt : MD := ([(3, 3), (0, 0)], (0, 0), yX3_cellAt, cX3_cellAt, (2, (some .int), 2, 43, []))
-- Floatparade$Line.cellBeforeHeld(ILFloatparade$Route;)I
noncomputable def fX1_cellBeforeHeld_57 (kb : Co) (a3 : Int) (s : St) : Res := some (0, a3, s)
noncomputable def fX1_cellBeforeHeld_51 (kb : Co) (a0 a1 a2 a3 a4 : Int) (s : St) : Res := kb 6 [(3, 1, a0), (0, 0, a1), (3, 3, a2), (0, 0, a3), (0, 0, (wr (a4 + 1)))] [] s
noncomputable def fX1_cellBeforeHeld_6 (kb : Co) (a0 a1 a2 a3 a4 : Int) (s : St) : Res := if a4 < (gm s 3 a2 3) then (bnd (FX3_cornerAt a2 a4 s) fun x1 s1 => bnd (FX1_isHeld a0 x1 s1) fun x2 s2 => if x2 = 0 then fX1_cellBeforeHeld_51 kb a0 a1 a2 a3 a4 s2 else bnd (FX3_cellAt a2 a4 s2) fun x3 s3 => if a1 < x3 then (bnd (FX3_cellAt a2 a4 s3) fun x4 s4 => bnd (FJ9_min_7cf53 a3 (wr (x4 - 1)) s4) fun x5 s5 => fX1_cellBeforeHeld_51 kb a0 a1 a2 x5 a4 s5) else fX1_cellBeforeHeld_51 kb a0 a1 a2 a3 a4 s3) else fX1_cellBeforeHeld_57 kb a3 s
noncomputable def fX1_cellBeforeHeld_0 (kb : Co) (a0 a1 a2 : Int) (s : St) : Res := fX1_cellBeforeHeld_6 kb a0 a1 a2 2147483647 0 s
noncomputable def tX1_cellBeforeHeld_57 (kb : Co) : List Rw := []
noncomputable def tX1_cellBeforeHeld_51 (kb : Co) : List Rw := (57, [(7, 0), (7, 0), (7, 0), (0, 0), (7, 0)], [], fun xs ys s => fX1_cellBeforeHeld_57 kb (xs.getD 0 0) s) :: tX1_cellBeforeHeld_57 kb
noncomputable def tX1_cellBeforeHeld_6 (kb : Co) : List Rw := (51, [(3, 1), (0, 0), (3, 3), (0, 0), (0, 0)], [], fun xs ys s => fX1_cellBeforeHeld_51 kb (xs.getD 0 0) (xs.getD 1 0) (xs.getD 2 0) (xs.getD 3 0) (xs.getD 4 0) s) :: tX1_cellBeforeHeld_51 kb
noncomputable def tX1_cellBeforeHeld_0 (kb : Co) : List Rw := (6, [(3, 1), (0, 0), (3, 3), (0, 0), (0, 0)], [], fun xs ys s => fX1_cellBeforeHeld_6 kb (xs.getD 0 0) (xs.getD 1 0) (xs.getD 2 0) (xs.getD 3 0) (xs.getD 4 0) s) :: tX1_cellBeforeHeld_6 kb
noncomputable def rX1_cellBeforeHeld (kb : Co) : List Rw := (0, [(3, 1), (0, 0), (3, 3), (7, 0), (7, 0)], [], fun xs ys s => fX1_cellBeforeHeld_0 kb (xs.getD 0 0) (xs.getD 1 0) (xs.getD 2 0) s) :: tX1_cellBeforeHeld_0 kb
noncomputable def kX1_cellBeforeHeld : Nat → Co
  | 0 => nk
  | n + 1 => fam (rX1_cellBeforeHeld (kX1_cellBeforeHeld n)) nk
noncomputable def FX1_cellBeforeHeld (a0 a1 a2 : Int) (s : St) : Res := fX1_cellBeforeHeld_0 (kX1_cellBeforeHeld 9999) a0 a1 a2 s
noncomputable def gX1_cellBeforeHeld : Fn := fun xs s => FX1_cellBeforeHeld (xs.getD 0 0) (xs.getD 1 0) (xs.getD 2 0) s
noncomputable def mdX1_cellBeforeHeld : MD := ([(3, 1), (0, 0), (3, 3)], (0, 0), yX1_cellBeforeHeld, cX1_cellBeforeHeld, (5, (some .int), 3, 64, []))
-- Floatparade$Town.hasJury(I)Z
noncomputable def fX9_hasJury_29 (kb : Co) (y0 : Int) (s : St) : Res := if (y0 : Int) = 0 ∨ (y0 : Int) = 1 then some (0, y0, s) else none
noncomputable def fX9_hasJury_28 (kb : Co) (s : St) : Res := fX9_hasJury_29 kb 0 s
noncomputable def fX9_hasJury_0 (kb : Co) (a0 a1 : Int) (s : St) : Res := bnd (FX11_isWithin a1 0 (wr (12 - 1)) s) fun x1 s1 => if x1 = 0 then fX9_hasJury_28 kb s1 else if 0 ≤ a1 ∧ a1 < 12 then if (gm s1 23 a0 a1) = 0 then fX9_hasJury_28 kb s1 else fX9_hasJury_29 kb 1 s1 else none
noncomputable def tX9_hasJury_29 (kb : Co) : List Rw := []
noncomputable def tX9_hasJury_28 (kb : Co) : List Rw := (29, [(7, 0), (7, 0)], [(0, 0)], fun xs ys s => fX9_hasJury_29 kb (ys.getD 0 0) s) :: tX9_hasJury_29 kb
noncomputable def tX9_hasJury_0 (kb : Co) : List Rw := (28, [(7, 0), (7, 0)], [], fun xs ys s => fX9_hasJury_28 kb s) :: tX9_hasJury_28 kb
noncomputable def rX9_hasJury (kb : Co) : List Rw := (0, [(3, 9), (0, 0)], [], fun xs ys s => fX9_hasJury_0 kb (xs.getD 0 0) (xs.getD 1 0) s) :: tX9_hasJury_0 kb
noncomputable def kX9_hasJury : Nat → Co
  | 0 => nk
  | n + 1 => fam (rX9_hasJury (kX9_hasJury n)) nk
noncomputable def FX9_hasJury (a0 a1 : Int) (s : St) : Res := fX9_hasJury_0 (kX9_hasJury 0) a0 a1 s
noncomputable def gX9_hasJury : Fn := fun xs s => FX9_hasJury (xs.getD 0 0) (xs.getD 1 0) s
noncomputable def mdX9_hasJury : MD := ([(3, 9), (0, 0)], (0, 0), yX9_hasJury, cX9_hasJury, (2, (some .boolean), 1, 22, []))
-- Floatparade$Line.nextJuryCell(ILFloatparade$Route;LFloatparade$Town;)I
noncomputable def fX1_nextJuryCell_55 (kb : Co) (a3 : Int) (s : St) : Res := some (0, a3, s)
noncomputable def fX1_nextJuryCell_49 (kb : Co) (a0 a1 a2 a3 a4 : Int) (s : St) : Res := kb 6 [(0, 0, a0), (3, 3, a1), (3, 9, a2), (0, 0, a3), (0, 0, (wr (a4 + 1)))] [] s
noncomputable def fX1_nextJuryCell_6 (kb : Co) (a0 a1 a2 a3 a4 : Int) (s : St) : Res := if a4 < (gm s 3 a1 3) then (bnd (FX3_cornerAt a1 a4 s) fun x1 s1 => bnd (FX9_hasJury a2 x1 s1) fun x2 s2 => if x2 = 0 then fX1_nextJuryCell_49 kb a0 a1 a2 a3 a4 s2 else bnd (FX3_cellAt a1 a4 s2) fun x3 s3 => if a0 < x3 then (bnd (FX3_cellAt a1 a4 s3) fun x4 s4 => bnd (FJ9_min_7cf53 a3 x4 s4) fun x5 s5 => fX1_nextJuryCell_49 kb a0 a1 a2 x5 a4 s5) else fX1_nextJuryCell_49 kb a0 a1 a2 a3 a4 s3) else fX1_nextJuryCell_55 kb a3 s
noncomputable def fX1_nextJuryCell_0 (kb : Co) (a0 a1 a2 : Int) (s : St) : Res := fX1_nextJuryCell_6 kb a0 a1 a2 2147483647 0 s
noncomputable def tX1_nextJuryCell_55 (kb : Co) : List Rw := []
noncomputable def tX1_nextJuryCell_49 (kb : Co) : List Rw := (55, [(7, 0), (7, 0), (7, 0), (0, 0), (7, 0)], [], fun xs ys s => fX1_nextJuryCell_55 kb (xs.getD 0 0) s) :: tX1_nextJuryCell_55 kb
noncomputable def tX1_nextJuryCell_6 (kb : Co) : List Rw := (49, [(0, 0), (3, 3), (3, 9), (0, 0), (0, 0)], [], fun xs ys s => fX1_nextJuryCell_49 kb (xs.getD 0 0) (xs.getD 1 0) (xs.getD 2 0) (xs.getD 3 0) (xs.getD 4 0) s) :: tX1_nextJuryCell_49 kb
noncomputable def tX1_nextJuryCell_0 (kb : Co) : List Rw := (6, [(0, 0), (3, 3), (3, 9), (0, 0), (0, 0)], [], fun xs ys s => fX1_nextJuryCell_6 kb (xs.getD 0 0) (xs.getD 1 0) (xs.getD 2 0) (xs.getD 3 0) (xs.getD 4 0) s) :: tX1_nextJuryCell_6 kb
noncomputable def rX1_nextJuryCell (kb : Co) : List Rw := (0, [(0, 0), (3, 3), (3, 9), (7, 0), (7, 0)], [], fun xs ys s => fX1_nextJuryCell_0 kb (xs.getD 0 0) (xs.getD 1 0) (xs.getD 2 0) s) :: tX1_nextJuryCell_0 kb
noncomputable def kX1_nextJuryCell : Nat → Co
  | 0 => nk
  | n + 1 => fam (rX1_nextJuryCell (kX1_nextJuryCell n)) nk
noncomputable def FX1_nextJuryCell (a0 a1 a2 : Int) (s : St) : Res := fX1_nextJuryCell_0 (kX1_nextJuryCell 9999) a0 a1 a2 s
noncomputable def gX1_nextJuryCell : Fn := fun xs s => FX1_nextJuryCell (xs.getD 0 0) (xs.getD 1 0) (xs.getD 2 0) s
noncomputable def mdX1_nextJuryCell : MD := ([(0, 0), (3, 3), (3, 9)], (0, 0), yX1_nextJuryCell, cX1_nextJuryCell, (5, (some .int), 3, 64, []))
-- Floatparade$Line.advance(ILFloatparade$Route;LFloatparade$Town;Z)V
noncomputable def fX1_advance_136 (kb : Co) (a5 a7 : Int) (s : St) : Res := if 0 ≤ a5 then bnd (FJ9_max_7cf53 (gm s 2 a5 2) a7 s) fun x1 s1 => if 0 ≤ a5 then some (0, 0, (pm s1 2 a5 2 x1)) else none else none
noncomputable def fX1_advance_90 (kb : Co) (a0 a2 a3 a5 a7 : Int) (s : St) : Res := if 0 ≤ a5 then bnd (FX1_cellBeforeHeld a0 (gm s 2 a5 2) a2 s) fun x1 s1 => bnd (FJ9_min_7cf53 a7 x1 s1) fun x2 s2 => if 0 ≤ a5 then bnd (FX1_nextJuryCell (gm s2 2 a5 2) a2 a3 s2) fun x3 s3 => if x2 < x3 then fX1_advance_136 kb a5 x2 s3 else if 0 ≤ a5 then if (1 : Int) = 0 ∨ (1 : Int) = 1 then fX1_advance_136 kb a5 x3 (pm s3 2 a5 5 1) else none else none else none else none
noncomputable def fX1_advance_37 (kb : Co) (a0 a1 a2 a3 a4 a5 a6 : Int) (s : St) : Res := if 0 ≤ a5 then if 0 ≤ a5 then bnd (FX2_speed a5 a4 s) fun x1 s1 => bnd (FX1_partAt a0 (wr (a1 - 1)) s1) fun x2 s2 => if x2 = (-1) then fX1_advance_90 kb a0 a2 a3 a5 (wr ((gm s 2 a5 2) + x1)) s2 else if 0 ≤ x2 then bnd (FX2_isOut x2 a6 s2) fun x3 s3 => if x3 = 0 then (if 0 ≤ x2 then bnd (FX2_tail x2 s3) fun x4 s4 => bnd (FJ9_min_7cf53 (wr ((gm s 2 a5 2) + x1)) (wr (x4 - 2)) s4) fun x5 s5 => fX1_advance_90 kb a0 a2 a3 a5 x5 s5 else none) else fX1_advance_90 kb a0 a2 a3 a5 (wr ((gm s 2 a5 2) + x1)) s3 else none else none else none
noncomputable def fX1_advance_36 (kb : Co) (s : St) : Res := some (0, 0, s)
noncomputable def fX1_advance_0 (kb : Co) (a0 a1 a2 a3 a4 : Int) (s : St) : Res := bnd (FX1_partAt a0 a1 s) fun x1 s1 => bnd (FX3_cells a2 s1) fun x2 s2 => if x1 = (-1) then fX1_advance_36 kb s2 else if 0 ≤ x1 then bnd (FX2_isOut x1 x2 s2) fun x3 s3 => if x3 = 0 then (if 0 ≤ x1 then bnd (FX2_isReady x1 s3) fun x4 s4 => if x4 = 0 then fX1_advance_36 kb s4 else fX1_advance_37 kb a0 a1 a2 a3 a4 x1 x2 s4 else none) else fX1_advance_36 kb s3 else none
noncomputable def tX1_advance_136 (kb : Co) : List Rw := []
noncomputable def tX1_advance_90 (kb : Co) : List Rw := (136, [(7, 0), (7, 0), (7, 0), (7, 0), (7, 0), (2, 2), (7, 0), (0, 0), (7, 0), (7, 0)], [], fun xs ys s => fX1_advance_136 kb (xs.getD 0 0) (xs.getD 1 0) s) :: tX1_advance_136 kb
noncomputable def tX1_advance_37 (kb : Co) : List Rw := (90, [(3, 1), (7, 0), (3, 3), (3, 9), (7, 0), (2, 2), (7, 0), (0, 0), (7, 0), (7, 0)], [], fun xs ys s => fX1_advance_90 kb (xs.getD 0 0) (xs.getD 1 0) (xs.getD 2 0) (xs.getD 3 0) (xs.getD 4 0) s) :: tX1_advance_90 kb
noncomputable def tX1_advance_36 (kb : Co) : List Rw := (37, [(3, 1), (0, 0), (3, 3), (3, 9), (0, 0), (2, 2), (0, 0), (7, 0), (7, 0), (7, 0)], [], fun xs ys s => fX1_advance_37 kb (xs.getD 0 0) (xs.getD 1 0) (xs.getD 2 0) (xs.getD 3 0) (xs.getD 4 0) (xs.getD 5 0) (xs.getD 6 0) s) :: tX1_advance_37 kb
noncomputable def tX1_advance_0 (kb : Co) : List Rw := (36, [(7, 0), (7, 0), (7, 0), (7, 0), (7, 0), (7, 0), (7, 0), (7, 0), (7, 0), (7, 0)], [], fun xs ys s => fX1_advance_36 kb s) :: tX1_advance_36 kb
noncomputable def rX1_advance (kb : Co) : List Rw := (0, [(3, 1), (0, 0), (3, 3), (3, 9), (0, 0), (7, 0), (7, 0), (7, 0), (7, 0), (7, 0)], [], fun xs ys s => fX1_advance_0 kb (xs.getD 0 0) (xs.getD 1 0) (xs.getD 2 0) (xs.getD 3 0) (xs.getD 4 0) s) :: tX1_advance_0 kb
noncomputable def kX1_advance : Nat → Co
  | 0 => nk
  | n + 1 => fam (rX1_advance (kX1_advance n)) nk
noncomputable def FX1_advance (a0 a1 a2 a3 a4 : Int) (s : St) : Res := fX1_advance_0 (kX1_advance 0) a0 a1 a2 a3 a4 s
noncomputable def gX1_advance : Fn := fun xs s => FX1_advance (xs.getD 0 0) (xs.getD 1 0) (xs.getD 2 0) (xs.getD 3 0) (xs.getD 4 0) s
noncomputable def mdX1_advance : MD := ([(3, 1), (0, 0), (3, 3), (3, 9), (0, 0)], (9, 0), yX1_advance, cX1_advance, (10, none, 4, 88, []))
-- Floatparade$Line.countGap(II)V
noncomputable def fX1_countGap_115 (kb : Co) (s : St) : Res := some (0, 0, s)
noncomputable def fX1_countGap_78 (kb : Co) (a3 a4 y0 : Int) (s : St) : Res := if y0 = 0 then fX1_countGap_115 kb s else if 0 ≤ a3 then bnd (FX2_tail a3 s) fun x1 s1 => if 0 ≤ a4 then if 6 < (wr ((wr (x1 - (gm s1 2 a4 2))) - 1)) then (if 0 ≤ a3 then if 0 ≤ (gm s1 2 a3 0) then if 0 ≤ (gm s1 2 a3 0) then fX1_countGap_115 kb (pm s1 6 (gm s1 2 a3 0) 14 (wr ((gm s1 6 (gm s1 2 a3 0) 14) + 1))) else none else none else none) else fX1_countGap_115 kb s1 else none else none
noncomputable def fX1_countGap_77 (kb : Co) (a3 a4 : Int) (s : St) : Res := fX1_countGap_78 kb a3 a4 0 s
noncomputable def fX1_countGap_44 (kb : Co) (a2 a3 a4 : Int) (s : St) : Res := if 0 ≤ a3 then bnd (FX11_isWithin (gm s 2 a3 2) 0 (wr (a2 - 1)) s) fun x1 s1 => if x1 = 0 then fX1_countGap_77 kb a3 a4 s1 else if 0 ≤ a4 then bnd (FX11_isWithin (gm s1 2 a4 2) 0 (wr (a2 - 1)) s1) fun x2 s2 => if x2 = 0 then fX1_countGap_77 kb a3 a4 s2 else fX1_countGap_78 kb a3 a4 1 s2 else none else none
noncomputable def fX1_countGap_43 (kb : Co) (s : St) : Res := some (0, 0, s)
noncomputable def fX1_countGap_0 (kb : Co) (a0 a1 a2 : Int) (s : St) : Res := bnd (FX1_partAt a0 a1 s) fun x1 s1 => bnd (FX1_partAt a0 (wr (a1 + 1)) s1) fun x2 s2 => if x1 = (-1) then fX1_countGap_43 kb s2 else if x2 = (-1) then fX1_countGap_43 kb s2 else if 0 ≤ x1 then if (gm s2 2 x1 0) = (-1) then fX1_countGap_43 kb s2 else if 0 ≤ x1 then if 0 ≤ x2 then if (gm s2 2 x1 0) = (gm s2 2 x2 0) then fX1_countGap_44 kb a2 x1 x2 s2 else fX1_countGap_43 kb s2 else none else none else none
noncomputable def tX1_countGap_115 (kb : Co) : List Rw := []
noncomputable def tX1_countGap_78 (kb : Co) : List Rw := (115, [(7, 0), (7, 0), (7, 0), (7, 0), (7, 0), (7, 0)], [], fun xs ys s => fX1_countGap_115 kb s) :: tX1_countGap_115 kb
noncomputable def tX1_countGap_77 (kb : Co) : List Rw := (78, [(7, 0), (7, 0), (7, 0), (2, 2), (2, 2), (7, 0)], [(0, 0)], fun xs ys s => fX1_countGap_78 kb (xs.getD 0 0) (xs.getD 1 0) (ys.getD 0 0) s) :: tX1_countGap_78 kb
noncomputable def tX1_countGap_44 (kb : Co) : List Rw := (77, [(7, 0), (7, 0), (7, 0), (2, 2), (2, 2), (7, 0)], [], fun xs ys s => fX1_countGap_77 kb (xs.getD 0 0) (xs.getD 1 0) s) :: tX1_countGap_77 kb
noncomputable def tX1_countGap_43 (kb : Co) : List Rw := (44, [(7, 0), (7, 0), (0, 0), (2, 2), (2, 2), (7, 0)], [], fun xs ys s => fX1_countGap_44 kb (xs.getD 0 0) (xs.getD 1 0) (xs.getD 2 0) s) :: tX1_countGap_44 kb
noncomputable def tX1_countGap_0 (kb : Co) : List Rw := (43, [(7, 0), (7, 0), (7, 0), (7, 0), (7, 0), (7, 0)], [], fun xs ys s => fX1_countGap_43 kb s) :: tX1_countGap_43 kb
noncomputable def rX1_countGap (kb : Co) : List Rw := (0, [(3, 1), (0, 0), (0, 0), (7, 0), (7, 0), (7, 0)], [], fun xs ys s => fX1_countGap_0 kb (xs.getD 0 0) (xs.getD 1 0) (xs.getD 2 0) s) :: tX1_countGap_0 kb
noncomputable def kX1_countGap : Nat → Co
  | 0 => nk
  | n + 1 => fam (rX1_countGap (kX1_countGap n)) nk
noncomputable def FX1_countGap (a0 a1 a2 : Int) (s : St) : Res := fX1_countGap_0 (kX1_countGap 0) a0 a1 a2 s
noncomputable def gX1_countGap : Fn := fun xs s => FX1_countGap (xs.getD 0 0) (xs.getD 1 0) (xs.getD 2 0) s
noncomputable def mdX1_countGap : MD := ([(3, 1), (0, 0), (0, 0)], (9, 0), yX1_countGap, cX1_countGap, (6, none, 2, 43, []))
-- Floatparade$Line.isOwner(ILFloatparade$Society;)Z
noncomputable def fX1_isOwner_23 (kb : Co) (y0 : Int) (s : St) : Res := if (y0 : Int) = 0 ∨ (y0 : Int) = 1 then some (0, y0, s) else none
noncomputable def fX1_isOwner_22 (kb : Co) (s : St) : Res := fX1_isOwner_23 kb 0 s
noncomputable def fX1_isOwner_0 (kb : Co) (a0 a1 a2 : Int) (s : St) : Res := bnd (FX1_partAt a0 a1 s) fun x1 s1 => if x1 = (-1) then fX1_isOwner_22 kb s1 else if 0 ≤ x1 then if (gm s1 2 x1 0) = a2 then fX1_isOwner_23 kb 1 s1 else fX1_isOwner_22 kb s1 else none
noncomputable def tX1_isOwner_23 (kb : Co) : List Rw := []
noncomputable def tX1_isOwner_22 (kb : Co) : List Rw := (23, [(7, 0), (7, 0), (7, 0), (7, 0)], [(0, 0)], fun xs ys s => fX1_isOwner_23 kb (ys.getD 0 0) s) :: tX1_isOwner_23 kb
noncomputable def tX1_isOwner_0 (kb : Co) : List Rw := (22, [(7, 0), (7, 0), (7, 0), (7, 0)], [], fun xs ys s => fX1_isOwner_22 kb s) :: tX1_isOwner_22 kb
noncomputable def rX1_isOwner (kb : Co) : List Rw := (0, [(3, 1), (0, 0), (2, 6), (7, 0)], [], fun xs ys s => fX1_isOwner_0 kb (xs.getD 0 0) (xs.getD 1 0) (xs.getD 2 0) s) :: tX1_isOwner_0 kb
noncomputable def kX1_isOwner : Nat → Co
  | 0 => nk
  | n + 1 => fam (rX1_isOwner (kX1_isOwner n)) nk
noncomputable def FX1_isOwner (a0 a1 a2 : Int) (s : St) : Res := fX1_isOwner_0 (kX1_isOwner 0) a0 a1 a2 s
noncomputable def gX1_isOwner : Fn := fun xs s => FX1_isOwner (xs.getD 0 0) (xs.getD 1 0) (xs.getD 2 0) s
noncomputable def mdX1_isOwner : MD := ([(3, 1), (0, 0), (2, 6)], (0, 0), yX1_isOwner, cX1_isOwner, (4, (some .boolean), 2, 43, []))
-- Floatparade$Line.readClock(II)V
noncomputable def fX1_readClock_101 (kb : Co) (s : St) : Res := some (0, 0, s)
noncomputable def fX1_readClock_63 (kb : Co) (a0 a1 a2 a3 a4 : Int) (s : St) : Res := if 0 ≤ a4 then if (gm s 6 a4 13) = (-1) then (if 0 ≤ a3 then bnd (FX2_isOut a3 a2 s) fun x1 s1 => if x1 = 0 then fX1_readClock_101 kb s1 else bnd (FX1_isOwner a0 (wr (a1 + 1)) a4 s1) fun x2 s2 => if x2 = 0 then (if 0 ≤ a4 then fX1_readClock_101 kb (pm s2 6 a4 13 (gm s2 1 a0 3)) else none) else fX1_readClock_101 kb s2 else none) else fX1_readClock_101 kb s else none
noncomputable def fX1_readClock_26 (kb : Co) (a0 a1 a2 a3 a4 : Int) (s : St) : Res := if 0 ≤ a4 then if (gm s 6 a4 12) = (-1) then (if 0 ≤ a3 then if (gm s 2 a3 2) < 0 then fX1_readClock_63 kb a0 a1 a2 a3 a4 s else bnd (FX1_isOwner a0 (wr (a1 - 1)) a4 s) fun x1 s1 => if x1 = 0 then (if 0 ≤ a4 then fX1_readClock_63 kb a0 a1 a2 a3 a4 (pm s1 6 a4 12 (gm s1 1 a0 3)) else none) else fX1_readClock_63 kb a0 a1 a2 a3 a4 s1 else none) else fX1_readClock_63 kb a0 a1 a2 a3 a4 s else none
noncomputable def fX1_readClock_18 (kb : Co) (a0 a1 a2 a3 y0 : Int) (s : St) : Res := if y0 = (-1) then some (0, 0, s) else fX1_readClock_26 kb a0 a1 a2 a3 y0 s
noncomputable def fX1_readClock_14 (kb : Co) (a0 a1 a2 a3 : Int) (s : St) : Res := if 0 ≤ a3 then fX1_readClock_18 kb a0 a1 a2 a3 (gm s 2 a3 0) s else none
noncomputable def fX1_readClock_0 (kb : Co) (a0 a1 a2 : Int) (s : St) : Res := bnd (FX1_partAt a0 a1 s) fun x1 s1 => if x1 = (-1) then fX1_readClock_18 kb a0 a1 a2 x1 (-1) s1 else fX1_readClock_14 kb a0 a1 a2 x1 s1
noncomputable def tX1_readClock_101 (kb : Co) : List Rw := []
noncomputable def tX1_readClock_63 (kb : Co) : List Rw := (101, [(7, 0), (7, 0), (7, 0), (7, 0), (7, 0)], [], fun xs ys s => fX1_readClock_101 kb s) :: tX1_readClock_101 kb
noncomputable def tX1_readClock_26 (kb : Co) : List Rw := (63, [(3, 1), (0, 0), (0, 0), (2, 2), (2, 6)], [], fun xs ys s => fX1_readClock_63 kb (xs.getD 0 0) (xs.getD 1 0) (xs.getD 2 0) (xs.getD 3 0) (xs.getD 4 0) s) :: tX1_readClock_63 kb
noncomputable def tX1_readClock_18 (kb : Co) : List Rw := (26, [(3, 1), (0, 0), (0, 0), (2, 2), (2, 6)], [], fun xs ys s => fX1_readClock_26 kb (xs.getD 0 0) (xs.getD 1 0) (xs.getD 2 0) (xs.getD 3 0) (xs.getD 4 0) s) :: tX1_readClock_26 kb
noncomputable def tX1_readClock_14 (kb : Co) : List Rw := (18, [(3, 1), (0, 0), (0, 0), (2, 2), (7, 0)], [(2, 6)], fun xs ys s => fX1_readClock_18 kb (xs.getD 0 0) (xs.getD 1 0) (xs.getD 2 0) (xs.getD 3 0) (ys.getD 0 0) s) :: tX1_readClock_18 kb
noncomputable def tX1_readClock_0 (kb : Co) : List Rw := (14, [(3, 1), (0, 0), (0, 0), (2, 2), (7, 0)], [], fun xs ys s => fX1_readClock_14 kb (xs.getD 0 0) (xs.getD 1 0) (xs.getD 2 0) (xs.getD 3 0) s) :: tX1_readClock_14 kb
noncomputable def rX1_readClock (kb : Co) : List Rw := (0, [(3, 1), (0, 0), (0, 0), (7, 0), (7, 0)], [], fun xs ys s => fX1_readClock_0 kb (xs.getD 0 0) (xs.getD 1 0) (xs.getD 2 0) s) :: tX1_readClock_0 kb
noncomputable def kX1_readClock : Nat → Co
  | 0 => nk
  | n + 1 => fam (rX1_readClock (kX1_readClock n)) nk
noncomputable def FX1_readClock (a0 a1 a2 : Int) (s : St) : Res := fX1_readClock_0 (kX1_readClock 0) a0 a1 a2 s
noncomputable def gX1_readClock : Fn := fun xs s => FX1_readClock (xs.getD 0 0) (xs.getD 1 0) (xs.getD 2 0) s
noncomputable def mdX1_readClock : MD := ([(3, 1), (0, 0), (0, 0)], (9, 0), yX1_readClock, cX1_readClock, (5, none, 3, 66, []))
-- Floatparade$Line.passHolds()V
noncomputable def fX1_passHolds_75 (kb : Co) (s : St) : Res := some (0, 0, s)
noncomputable def fX1_passHolds_42 (kb : Co) (a0 a1 : Int) (s : St) : Res := if a1 < 12 then (if 0 ≤ a1 ∧ a1 < 12 then bnd (FJ9_max_7cf53 0 (wr ((gm s 29 a0 a1) - 1)) s) fun x1 s1 => if 0 ≤ a1 ∧ a1 < 12 then kb 42 [(3, 1, a0), (0, 0, (wr (a1 + 1))), (7, 0, 0)] [] (pm s1 29 a0 a1 x1) else none else none) else fX1_passHolds_75 kb s
noncomputable def fX1_passHolds_40 (kb : Co) (a0 : Int) (s : St) : Res := fX1_passHolds_42 kb a0 0 s
noncomputable def fX1_passHolds_34 (kb : Co) (a0 a1 : Int) (s : St) : Res := kb 2 [(3, 1, a0), (0, 0, (wr (a1 + 1))), (7, 0, 0)] [] s
noncomputable def fX1_passHolds_2 (kb : Co) (a0 a1 : Int) (s : St) : Res := if a1 < (gm s 1 a0 2) then (bnd (FX1_partAt a0 a1 s) fun x1 s1 => if x1 = (-1) then fX1_passHolds_34 kb a0 a1 s1 else if 0 ≤ x1 then bnd (FJ9_max_7cf53 0 (wr ((gm s1 2 x1 4) - 1)) s1) fun x2 s2 => if 0 ≤ x1 then fX1_passHolds_34 kb a0 a1 (pm s2 2 x1 4 x2) else none else none) else fX1_passHolds_40 kb a0 s
noncomputable def fX1_passHolds_0 (kb : Co) (a0 : Int) (s : St) : Res := fX1_passHolds_2 kb a0 0 s
noncomputable def tX1_passHolds_75 (kb : Co) : List Rw := []
noncomputable def tX1_passHolds_42 (kb : Co) : List Rw := (75, [(7, 0), (7, 0), (7, 0)], [], fun xs ys s => fX1_passHolds_75 kb s) :: tX1_passHolds_75 kb
noncomputable def tX1_passHolds_40 (kb : Co) : List Rw := (42, [(3, 1), (0, 0), (7, 0)], [], fun xs ys s => fX1_passHolds_42 kb (xs.getD 0 0) (xs.getD 1 0) s) :: tX1_passHolds_42 kb
noncomputable def tX1_passHolds_34 (kb : Co) : List Rw := (40, [(3, 1), (7, 0), (7, 0)], [], fun xs ys s => fX1_passHolds_40 kb (xs.getD 0 0) s) :: tX1_passHolds_40 kb
noncomputable def tX1_passHolds_2 (kb : Co) : List Rw := (34, [(3, 1), (0, 0), (7, 0)], [], fun xs ys s => fX1_passHolds_34 kb (xs.getD 0 0) (xs.getD 1 0) s) :: tX1_passHolds_34 kb
noncomputable def tX1_passHolds_0 (kb : Co) : List Rw := (2, [(3, 1), (0, 0), (7, 0)], [], fun xs ys s => fX1_passHolds_2 kb (xs.getD 0 0) (xs.getD 1 0) s) :: tX1_passHolds_2 kb
noncomputable def rX1_passHolds (kb : Co) : List Rw := (0, [(3, 1), (7, 0), (7, 0)], [], fun xs ys s => fX1_passHolds_0 kb (xs.getD 0 0) s) :: tX1_passHolds_0 kb
noncomputable def kX1_passHolds : Nat → Co
  | 0 => nk
  | n + 1 => fam (rX1_passHolds (kX1_passHolds n)) nk
noncomputable def FX1_passHolds (a0 : Int) (s : St) : Res := fX1_passHolds_0 (kX1_passHolds 9999) a0 s
noncomputable def gX1_passHolds : Fn := fun xs s => FX1_passHolds (xs.getD 0 0) s
noncomputable def mdX1_passHolds : MD := ([(3, 1)], (9, 0), yX1_passHolds, cX1_passHolds, (3, none, 2, 43, []))
-- Floatparade$Society.time()I
noncomputable def fX6_time_23 (kb : Co) (y0 : Int) (s : St) : Res := some (0, y0, s)
noncomputable def fX6_time_12 (kb : Co) (a0 : Int) (s : St) : Res := fX6_time_23 kb (wr ((wr ((gm s 6 a0 13) - (gm s 6 a0 12))) + 1)) s
noncomputable def fX6_time_0 (kb : Co) (a0 : Int) (s : St) : Res := if (gm s 6 a0 13) = (-1) then fX6_time_23 kb (-1) s else fX6_time_12 kb a0 s
noncomputable def tX6_time_23 (kb : Co) : List Rw := []
noncomputable def tX6_time_12 (kb : Co) : List Rw := (23, [(7, 0)], [(0, 0)], fun xs ys s => fX6_time_23 kb (ys.getD 0 0) s) :: tX6_time_23 kb
noncomputable def tX6_time_0 (kb : Co) : List Rw := (12, [(3, 6)], [], fun xs ys s => fX6_time_12 kb (xs.getD 0 0) s) :: tX6_time_12 kb
noncomputable def rX6_time (kb : Co) : List Rw := (0, [(3, 6)], [], fun xs ys s => fX6_time_0 kb (xs.getD 0 0) s) :: tX6_time_0 kb
noncomputable def kX6_time : Nat → Co
  | 0 => nk
  | n + 1 => fam (rX6_time (kX6_time n)) nk
noncomputable def FX6_time (a0 : Int) (s : St) : Res := fX6_time_0 (kX6_time 0) a0 s
noncomputable def gX6_time : Fn := fun xs s => FX6_time (xs.getD 0 0) s
noncomputable def mdX6_time : MD := ([(3, 6)], (0, 0), yX6_time, cX6_time, (1, (some .int), 0, 0, []))
-- Floatparade$Score.punish(II)V
noncomputable def fX5_punish_16 (kb : Co) (a0 a1 a2 a3 : Int) (s : St) : Res := if 0 ≤ a3 ∧ a3 < 20 then if 0 ≤ a3 ∧ a3 < 20 then if (0 ≤ a3 ∧ a3 < 20) ∧ ((0 : Int) = 0 ∨ (0 : Int) = 1) then some (0, 0, (pm (pm (pm (pm s 19 a0 a3 a1) 20 a0 a3 a2) 21 a0 a3 0) 5 a0 4 (wr (a3 + 1)))) else none else none else none
noncomputable def fX5_punish_0 (kb : Co) (a0 a1 a2 : Int) (s : St) : Res := bnd (FX11_isWithin (gm s 5 a0 4) 0 19 s) fun x1 s1 => if x1 = 0 then some (0, 0, s1) else fX5_punish_16 kb a0 a1 a2 (gm s 5 a0 4) s1
noncomputable def tX5_punish_16 (kb : Co) : List Rw := []
noncomputable def tX5_punish_0 (kb : Co) : List Rw := (16, [(3, 5), (0, 0), (0, 0), (0, 0)], [], fun xs ys s => fX5_punish_16 kb (xs.getD 0 0) (xs.getD 1 0) (xs.getD 2 0) (xs.getD 3 0) s) :: tX5_punish_16 kb
noncomputable def rX5_punish (kb : Co) : List Rw := (0, [(3, 5), (0, 0), (0, 0), (7, 0)], [], fun xs ys s => fX5_punish_0 kb (xs.getD 0 0) (xs.getD 1 0) (xs.getD 2 0) s) :: tX5_punish_0 kb
noncomputable def kX5_punish : Nat → Co
  | 0 => nk
  | n + 1 => fam (rX5_punish (kX5_punish n)) nk
noncomputable def FX5_punish (a0 a1 a2 : Int) (s : St) : Res := fX5_punish_0 (kX5_punish 0) a0 a1 a2 s
noncomputable def gX5_punish : Fn := fun xs s => FX5_punish (xs.getD 0 0) (xs.getD 1 0) (xs.getD 2 0) s
noncomputable def mdX5_punish : MD := ([(3, 5), (0, 0), (0, 0)], (9, 0), yX5_punish, cX5_punish, (4, none, 1, 22, []))
-- Floatparade$Society.punishIfAny(II)V
noncomputable def fX6_punishIfAny_13 (kb : Co) (s : St) : Res := some (0, 0, s)
noncomputable def fX6_punishIfAny_0 (kb : Co) (a0 a1 a2 : Int) (s : St) : Res := if 0 < a2 then (bnd (FX5_punish a0 a1 a2 s) fun _ s1 => fX6_punishIfAny_13 kb s1) else fX6_punishIfAny_13 kb s
noncomputable def tX6_punishIfAny_13 (kb : Co) : List Rw := []
noncomputable def tX6_punishIfAny_0 (kb : Co) : List Rw := (13, [(7, 0), (7, 0), (7, 0)], [], fun xs ys s => fX6_punishIfAny_13 kb s) :: tX6_punishIfAny_13 kb
noncomputable def rX6_punishIfAny (kb : Co) : List Rw := (0, [(3, 6), (0, 0), (0, 0)], [], fun xs ys s => fX6_punishIfAny_0 kb (xs.getD 0 0) (xs.getD 1 0) (xs.getD 2 0) s) :: tX6_punishIfAny_0 kb
noncomputable def kX6_punishIfAny : Nat → Co
  | 0 => nk
  | n + 1 => fam (rX6_punishIfAny (kX6_punishIfAny n)) nk
noncomputable def FX6_punishIfAny (a0 a1 a2 : Int) (s : St) : Res := fX6_punishIfAny_0 (kX6_punishIfAny 0) a0 a1 a2 s
noncomputable def gX6_punishIfAny : Fn := fun xs s => FX6_punishIfAny (xs.getD 0 0) (xs.getD 1 0) (xs.getD 2 0) s
noncomputable def mdX6_punishIfAny : MD := ([(3, 6), (0, 0), (0, 0)], (9, 0), yX6_punishIfAny, cX6_punishIfAny, (3, none, 2, 45, []))
-- Floatparade$Society.punishForMarch(II)V
noncomputable def fX6_punishForMarch_0 (kb : Co) (a0 a1 a2 : Int) (s : St) : Res := bnd (FX6_time a0 s) fun x1 s1 => bnd (FX6_punishIfAny a0 1 (wr (2 * (wr (a1 - x1)))) s1) fun _ s2 => bnd (FX6_punishIfAny a0 2 (wr (2 * (wr (x1 - a2)))) s2) fun _ s3 => bnd (FX6_punishIfAny a0 3 (gm s3 6 a0 14) s3) fun _ s4 => some (0, 0, s4)
noncomputable def tX6_punishForMarch_0 (kb : Co) : List Rw := []
noncomputable def rX6_punishForMarch (kb : Co) : List Rw := (0, [(3, 6), (0, 0), (0, 0), (7, 0)], [], fun xs ys s => fX6_punishForMarch_0 kb (xs.getD 0 0) (xs.getD 1 0) (xs.getD 2 0) s) :: tX6_punishForMarch_0 kb
noncomputable def kX6_punishForMarch : Nat → Co
  | 0 => nk
  | n + 1 => fam (rX6_punishForMarch (kX6_punishForMarch n)) nk
noncomputable def FX6_punishForMarch (a0 a1 a2 : Int) (s : St) : Res := fX6_punishForMarch_0 (kX6_punishForMarch 0) a0 a1 a2 s
noncomputable def gX6_punishForMarch : Fn := fun xs s => FX6_punishForMarch (xs.getD 0 0) (xs.getD 1 0) (xs.getD 2 0) s
noncomputable def mdX6_punishForMarch : MD := ([(3, 6), (0, 0), (0, 0)], (9, 0), yX6_punishForMarch, cX6_punishForMarch, (4, none, 3, 67, []))
-- Floatparade$Line.end()V
noncomputable def fX1_end_67 (kb : Co) (s : St) : Res := some (0, 0, s)
noncomputable def fX1_end_61 (kb : Co) (a0 a1 : Int) (s : St) : Res := kb 7 [(3, 1, a0), (0, 0, (wr (a1 + 1))), (7, 0, 0)] [] s
noncomputable def fX1_end_7 (kb : Co) (a0 a1 : Int) (s : St) : Res := if a1 < (gm s 1 a0 2) then (bnd (FX1_partAt a0 a1 s) fun x1 s1 => if x1 = (-1) then fX1_end_61 kb a0 a1 s1 else if 0 ≤ x1 then if (gm s1 2 x1 0) = (-1) then fX1_end_61 kb a0 a1 s1 else if 0 ≤ x1 then bnd (FX1_isOwner a0 (wr (a1 - 1)) (gm s1 2 x1 0) s1) fun x2 s2 => if x2 = 0 then (if 0 ≤ x1 then if 0 ≤ (gm s2 2 x1 0) then bnd (FX6_punishForMarch (gm s2 2 x1 0) (gm s2 1 a0 4) (gm s2 1 a0 5) s2) fun _ s3 => fX1_end_61 kb a0 a1 s3 else none else none) else fX1_end_61 kb a0 a1 s2 else none else none) else fX1_end_67 kb s
noncomputable def fX1_end_0 (kb : Co) (a0 : Int) (s : St) : Res := if (1 : Int) = 0 ∨ (1 : Int) = 1 then fX1_end_7 kb a0 0 (pm s 1 a0 7 1) else none
noncomputable def tX1_end_67 (kb : Co) : List Rw := []
noncomputable def tX1_end_61 (kb : Co) : List Rw := (67, [(7, 0), (7, 0), (7, 0)], [], fun xs ys s => fX1_end_67 kb s) :: tX1_end_67 kb
noncomputable def tX1_end_7 (kb : Co) : List Rw := (61, [(3, 1), (0, 0), (7, 0)], [], fun xs ys s => fX1_end_61 kb (xs.getD 0 0) (xs.getD 1 0) s) :: tX1_end_61 kb
noncomputable def tX1_end_0 (kb : Co) : List Rw := (7, [(3, 1), (0, 0), (7, 0)], [], fun xs ys s => fX1_end_7 kb (xs.getD 0 0) (xs.getD 1 0) s) :: tX1_end_7 kb
noncomputable def rX1_end (kb : Co) : List Rw := (0, [(3, 1), (7, 0), (7, 0)], [], fun xs ys s => fX1_end_0 kb (xs.getD 0 0) s) :: tX1_end_0 kb
noncomputable def kX1_end : Nat → Co
  | 0 => nk
  | n + 1 => fam (rX1_end (kX1_end n)) nk
noncomputable def FX1_end (a0 : Int) (s : St) : Res := fX1_end_0 (kX1_end 9999) a0 s
noncomputable def gX1_end : Fn := fun xs s => FX1_end (xs.getD 0 0) s
noncomputable def mdX1_end : MD := ([(3, 1)], (9, 0), yX1_end, cX1_end, (3, none, 4, 90, []))
-- Floatparade$Line.passMinute(LFloatparade$Route;LFloatparade$Town;Z)V
noncomputable def fX1_passMinute_112 (kb : Co) (s : St) : Res := some (0, 0, s)
noncomputable def fX1_passMinute_108 (kb : Co) (a0 : Int) (s : St) : Res := bnd (FX1_end a0 s) fun _ s1 => fX1_passMinute_112 kb s1
noncomputable def fX1_passMinute_77 (kb : Co) (a0 a4 : Int) (s : St) : Res := bnd (FX1_passHolds a0 s) fun _ s1 => bnd (FX1_partAt a0 (wr ((gm s1 1 a0 2) - 1)) s1) fun x2 s2 => if x2 = (-1) then fX1_passMinute_108 kb a0 s2 else if 0 ≤ x2 then bnd (FX2_isOut x2 a4 s2) fun x3 s3 => if x3 = 0 then fX1_passMinute_112 kb s3 else fX1_passMinute_108 kb a0 s3 else none
noncomputable def fX1_passMinute_46 (kb : Co) (a0 a4 a5 : Int) (s : St) : Res := if a5 < (gm s 1 a0 2) then (bnd (FX1_countGap a0 a5 a4 s) fun _ s1 => bnd (FX1_readClock a0 a5 a4 s1) fun _ s2 => kb 46 [(3, 1, a0), (7, 0, 0), (7, 0, 0), (7, 0, 0), (0, 0, a4), (0, 0, (wr (a5 + 1)))] [] s2) else fX1_passMinute_77 kb a0 a4 s
noncomputable def fX1_passMinute_43 (kb : Co) (a0 a4 : Int) (s : St) : Res := fX1_passMinute_46 kb a0 a4 0 s
noncomputable def fX1_passMinute_19 (kb : Co) (a0 a1 a2 a3 a4 a5 : Int) (s : St) : Res := if a5 < (gm s 1 a0 2) then (bnd (FX1_advance a0 a5 a1 a2 a3 s) fun _ s1 => kb 19 [(3, 1, a0), (3, 3, a1), (3, 9, a2), (0, 0, a3), (0, 0, a4), (0, 0, (wr (a5 + 1)))] [] s1) else fX1_passMinute_43 kb a0 a4 s
noncomputable def fX1_passMinute_0 (kb : Co) (a0 a1 a2 a3 : Int) (s : St) : Res := bnd (FX3_cells a1 (pm s 1 a0 3 (wr ((gm s 1 a0 3) + 1)))) fun x1 s1 => fX1_passMinute_19 kb a0 a1 a2 a3 x1 0 s1
noncomputable def tX1_passMinute_112 (kb : Co) : List Rw := []
noncomputable def tX1_passMinute_108 (kb : Co) : List Rw := (112, [(7, 0), (7, 0), (7, 0), (7, 0), (7, 0), (7, 0)], [], fun xs ys s => fX1_passMinute_112 kb s) :: tX1_passMinute_112 kb
noncomputable def tX1_passMinute_77 (kb : Co) : List Rw := (108, [(3, 1), (7, 0), (7, 0), (7, 0), (7, 0), (7, 0)], [], fun xs ys s => fX1_passMinute_108 kb (xs.getD 0 0) s) :: tX1_passMinute_108 kb
noncomputable def tX1_passMinute_46 (kb : Co) : List Rw := (77, [(3, 1), (7, 0), (7, 0), (7, 0), (0, 0), (7, 0)], [], fun xs ys s => fX1_passMinute_77 kb (xs.getD 0 0) (xs.getD 1 0) s) :: tX1_passMinute_77 kb
noncomputable def tX1_passMinute_43 (kb : Co) : List Rw := (46, [(3, 1), (7, 0), (7, 0), (7, 0), (0, 0), (0, 0)], [], fun xs ys s => fX1_passMinute_46 kb (xs.getD 0 0) (xs.getD 1 0) (xs.getD 2 0) s) :: tX1_passMinute_46 kb
noncomputable def tX1_passMinute_19 (kb : Co) : List Rw := (43, [(3, 1), (7, 0), (7, 0), (7, 0), (0, 0), (7, 0)], [], fun xs ys s => fX1_passMinute_43 kb (xs.getD 0 0) (xs.getD 1 0) s) :: tX1_passMinute_43 kb
noncomputable def tX1_passMinute_0 (kb : Co) : List Rw := (19, [(3, 1), (3, 3), (3, 9), (0, 0), (0, 0), (0, 0)], [], fun xs ys s => fX1_passMinute_19 kb (xs.getD 0 0) (xs.getD 1 0) (xs.getD 2 0) (xs.getD 3 0) (xs.getD 4 0) (xs.getD 5 0) s) :: tX1_passMinute_19 kb
noncomputable def rX1_passMinute (kb : Co) : List Rw := (0, [(3, 1), (3, 3), (3, 9), (0, 0), (7, 0), (7, 0)], [], fun xs ys s => fX1_passMinute_0 kb (xs.getD 0 0) (xs.getD 1 0) (xs.getD 2 0) (xs.getD 3 0) s) :: tX1_passMinute_0 kb
noncomputable def kX1_passMinute : Nat → Co
  | 0 => nk
  | n + 1 => fam (rX1_passMinute (kX1_passMinute n)) nk
noncomputable def FX1_passMinute (a0 a1 a2 a3 : Int) (s : St) : Res := fX1_passMinute_0 (kX1_passMinute 9999) a0 a1 a2 a3 s
noncomputable def gX1_passMinute : Fn := fun xs s => FX1_passMinute (xs.getD 0 0) (xs.getD 1 0) (xs.getD 2 0) (xs.getD 3 0) s
noncomputable def mdX1_passMinute : MD := ([(3, 1), (3, 3), (3, 9), (0, 0)], (9, 0), yX1_passMinute, cX1_passMinute, (6, none, 5, 117, []))
-- Floatparade$Part.tell(II)I
noncomputable def fX2_tell_79 (kb : Co) (y0 : Int) (s : St) : Res := some (0, y0, s)
noncomputable def fX2_tell_78 (kb : Co) (s : St) : Res := fX2_tell_79 kb 0 s
noncomputable def fX2_tell_66 (kb : Co) (a0 a2 : Int) (s : St) : Res := bnd (FX2_isOut a0 a2 s) fun x1 s1 => if x1 = 0 then fX2_tell_78 kb s1 else fX2_tell_79 kb 1 s1
noncomputable def fX2_tell_61 (kb : Co) (a0 : Int) (s : St) : Res := some (0, (gm s 2 a0 3), s)
noncomputable def fX2_tell_56 (kb : Co) (a0 : Int) (s : St) : Res := some (0, (gm s 2 a0 2), s)
noncomputable def fX2_tell_51 (kb : Co) (a0 : Int) (s : St) : Res := some (0, (gm s 2 a0 1), s)
noncomputable def fX2_tell_50 (kb : Co) (y0 : Int) (s : St) : Res := some (0, y0, s)
noncomputable def fX2_tell_43 (kb : Co) (a0 : Int) (s : St) : Res := if 0 ≤ (gm s 2 a0 0) then fX2_tell_50 kb (gm s 6 (gm s 2 a0 0) 0) s else none
noncomputable def fX2_tell_32 (kb : Co) (a0 : Int) (s : St) : Res := if (gm s 2 a0 0) = (-1) then fX2_tell_50 kb (-1) s else fX2_tell_43 kb a0 s
noncomputable def fX2_tell_0 (kb : Co) (a0 a1 a2 : Int) (s : St) : Res := if a1 = 0 then fX2_tell_32 kb a0 s else if a1 = 1 then fX2_tell_51 kb a0 s else if a1 = 2 then fX2_tell_56 kb a0 s else if a1 = 3 then fX2_tell_61 kb a0 s else fX2_tell_66 kb a0 a2 s
noncomputable def tX2_tell_79 (kb : Co) : List Rw := []
noncomputable def tX2_tell_78 (kb : Co) : List Rw := (79, [(7, 0), (7, 0), (7, 0)], [(0, 0)], fun xs ys s => fX2_tell_79 kb (ys.getD 0 0) s) :: tX2_tell_79 kb
noncomputable def tX2_tell_66 (kb : Co) : List Rw := (78, [(7, 0), (7, 0), (7, 0)], [], fun xs ys s => fX2_tell_78 kb s) :: tX2_tell_78 kb
noncomputable def tX2_tell_61 (kb : Co) : List Rw := (66, [(3, 2), (7, 0), (0, 0)], [], fun xs ys s => fX2_tell_66 kb (xs.getD 0 0) (xs.getD 1 0) s) :: tX2_tell_66 kb
noncomputable def tX2_tell_56 (kb : Co) : List Rw := (61, [(3, 2), (7, 0), (7, 0)], [], fun xs ys s => fX2_tell_61 kb (xs.getD 0 0) s) :: tX2_tell_61 kb
noncomputable def tX2_tell_51 (kb : Co) : List Rw := (56, [(3, 2), (7, 0), (7, 0)], [], fun xs ys s => fX2_tell_56 kb (xs.getD 0 0) s) :: tX2_tell_56 kb
noncomputable def tX2_tell_50 (kb : Co) : List Rw := (51, [(3, 2), (7, 0), (7, 0)], [], fun xs ys s => fX2_tell_51 kb (xs.getD 0 0) s) :: tX2_tell_51 kb
noncomputable def tX2_tell_43 (kb : Co) : List Rw := (50, [(7, 0), (7, 0), (7, 0)], [(0, 0)], fun xs ys s => fX2_tell_50 kb (ys.getD 0 0) s) :: tX2_tell_50 kb
noncomputable def tX2_tell_32 (kb : Co) : List Rw := (43, [(3, 2), (7, 0), (7, 0)], [], fun xs ys s => fX2_tell_43 kb (xs.getD 0 0) s) :: tX2_tell_43 kb
noncomputable def tX2_tell_0 (kb : Co) : List Rw := (32, [(3, 2), (7, 0), (7, 0)], [], fun xs ys s => fX2_tell_32 kb (xs.getD 0 0) s) :: tX2_tell_32 kb
noncomputable def rX2_tell (kb : Co) : List Rw := (0, [(3, 2), (0, 0), (0, 0)], [], fun xs ys s => fX2_tell_0 kb (xs.getD 0 0) (xs.getD 1 0) (xs.getD 2 0) s) :: tX2_tell_0 kb
noncomputable def kX2_tell : Nat → Co
  | 0 => nk
  | n + 1 => fam (rX2_tell (kX2_tell n)) nk
noncomputable def FX2_tell (a0 a1 a2 : Int) (s : St) : Res := fX2_tell_0 (kX2_tell 0) a0 a1 a2 s
noncomputable def gX2_tell : Fn := fun xs s => FX2_tell (xs.getD 0 0) (xs.getD 1 0) (xs.getD 2 0) s
noncomputable def mdX2_tell : MD := ([(3, 2), (0, 0), (0, 0)], (0, 0), yX2_tell, cX2_tell, (3, (some .int), 2, 41, []))
-- Floatparade$Route.startAt(I)V
noncomputable def fX3_startAt_0 (kb : Co) (a0 a1 : Int) (s : St) : Res := if 0 ≤ 0 ∧ 0 < 10 then some (0, 0, (pm (pm s 24 a0 0 a1) 3 a0 3 1)) else none
noncomputable def tX3_startAt_0 (kb : Co) : List Rw := []
noncomputable def rX3_startAt (kb : Co) : List Rw := (0, [(3, 3), (0, 0)], [], fun xs ys s => fX3_startAt_0 kb (xs.getD 0 0) (xs.getD 1 0) s) :: tX3_startAt_0 kb
noncomputable def kX3_startAt : Nat → Co
  | 0 => nk
  | n + 1 => fam (rX3_startAt (kX3_startAt n)) nk
noncomputable def FX3_startAt (a0 a1 : Int) (s : St) : Res := fX3_startAt_0 (kX3_startAt 0) a0 a1 s
noncomputable def gX3_startAt : Fn := fun xs s => FX3_startAt (xs.getD 0 0) (xs.getD 1 0) s
noncomputable def mdX3_startAt : MD := ([(3, 3), (0, 0)], (9, 0), yX3_startAt, cX3_startAt, (2, none, 0, 0, []))
-- Floatparade$Route.streetTo(I)LFloatparade$Street;
noncomputable def fX3_streetTo_33 (kb : Co) (y0 : Int) (s : St) : Res := some (0, y0, s)
noncomputable def fX3_streetTo_32 (kb : Co) (s : St) : Res := fX3_streetTo_33 kb (-1) s
noncomputable def fX3_streetTo_0 (kb : Co) (a0 a1 : Int) (s : St) : Res := bnd (FX11_isWithin a1 1 (wr ((gm s 3 a0 3) - 1)) s) fun x1 s1 => if x1 = 0 then fX3_streetTo_32 kb s1 else if a1 < 10 then (if 0 ≤ a1 ∧ a1 < 10 then fX3_streetTo_33 kb (gm s1 26 a0 a1) s1 else none) else fX3_streetTo_32 kb s1
noncomputable def tX3_streetTo_33 (kb : Co) : List Rw := []
noncomputable def tX3_streetTo_32 (kb : Co) : List Rw := (33, [(7, 0), (7, 0)], [(2, 8)], fun xs ys s => fX3_streetTo_33 kb (ys.getD 0 0) s) :: tX3_streetTo_33 kb
noncomputable def tX3_streetTo_0 (kb : Co) : List Rw := (32, [(7, 0), (7, 0)], [], fun xs ys s => fX3_streetTo_32 kb s) :: tX3_streetTo_32 kb
noncomputable def rX3_streetTo (kb : Co) : List Rw := (0, [(3, 3), (0, 0)], [], fun xs ys s => fX3_streetTo_0 kb (xs.getD 0 0) (xs.getD 1 0) s) :: tX3_streetTo_0 kb
noncomputable def kX3_streetTo : Nat → Co
  | 0 => nk
  | n + 1 => fam (rX3_streetTo (kX3_streetTo n)) nk
noncomputable def FX3_streetTo (a0 a1 : Int) (s : St) : Res := fX3_streetTo_0 (kX3_streetTo 0) a0 a1 s
noncomputable def gX3_streetTo : Fn := fun xs s => FX3_streetTo (xs.getD 0 0) (xs.getD 1 0) s
noncomputable def mdX3_streetTo : MD := ([(3, 3), (0, 0)], (2, 8), yX3_streetTo, cX3_streetTo, (2, (some (.object "Floatparade$Street")), 1, 22, []))
-- Floatparade$Route.lastCorner()I
noncomputable def fX3_lastCorner_0 (kb : Co) (a0 : Int) (s : St) : Res := bnd (FX3_cornerAt a0 (wr ((gm s 3 a0 3) - 1)) s) fun x1 s1 => some (0, x1, s1)
noncomputable def tX3_lastCorner_0 (kb : Co) : List Rw := []
noncomputable def rX3_lastCorner (kb : Co) : List Rw := (0, [(3, 3)], [], fun xs ys s => fX3_lastCorner_0 kb (xs.getD 0 0) s) :: tX3_lastCorner_0 kb
noncomputable def kX3_lastCorner : Nat → Co
  | 0 => nk
  | n + 1 => fam (rX3_lastCorner (kX3_lastCorner n)) nk
noncomputable def FX3_lastCorner (a0 : Int) (s : St) : Res := fX3_lastCorner_0 (kX3_lastCorner 0) a0 s
noncomputable def gX3_lastCorner : Fn := fun xs s => FX3_lastCorner (xs.getD 0 0) s
noncomputable def mdX3_lastCorner : MD := ([(3, 3)], (0, 0), yX3_lastCorner, cX3_lastCorner, (1, (some .int), 2, 43, []))
-- Floatparade$Route.placeOf(I)I
noncomputable def fX3_placeOf_27 (kb : Co) (s : St) : Res := some (0, (-1), s)
noncomputable def fX3_placeOf_21 (kb : Co) (a0 a1 a2 : Int) (s : St) : Res := kb 2 [(3, 3, a0), (0, 0, a1), (0, 0, (wr (a2 + 1)))] [] s
noncomputable def fX3_placeOf_2 (kb : Co) (a0 a1 a2 : Int) (s : St) : Res := if a2 < (gm s 3 a0 3) then (bnd (FX3_cornerAt a0 a2 s) fun x1 s1 => if x1 = a1 then some (0, a2, s1) else fX3_placeOf_21 kb a0 a1 a2 s1) else fX3_placeOf_27 kb s
noncomputable def fX3_placeOf_0 (kb : Co) (a0 a1 : Int) (s : St) : Res := fX3_placeOf_2 kb a0 a1 0 s
noncomputable def tX3_placeOf_27 (kb : Co) : List Rw := []
noncomputable def tX3_placeOf_21 (kb : Co) : List Rw := (27, [(7, 0), (7, 0), (7, 0)], [], fun xs ys s => fX3_placeOf_27 kb s) :: tX3_placeOf_27 kb
noncomputable def tX3_placeOf_2 (kb : Co) : List Rw := (21, [(3, 3), (0, 0), (0, 0)], [], fun xs ys s => fX3_placeOf_21 kb (xs.getD 0 0) (xs.getD 1 0) (xs.getD 2 0) s) :: tX3_placeOf_21 kb
noncomputable def tX3_placeOf_0 (kb : Co) : List Rw := (2, [(3, 3), (0, 0), (0, 0)], [], fun xs ys s => fX3_placeOf_2 kb (xs.getD 0 0) (xs.getD 1 0) (xs.getD 2 0) s) :: tX3_placeOf_2 kb
noncomputable def rX3_placeOf (kb : Co) : List Rw := (0, [(3, 3), (0, 0), (7, 0)], [], fun xs ys s => fX3_placeOf_0 kb (xs.getD 0 0) (xs.getD 1 0) s) :: tX3_placeOf_0 kb
noncomputable def kX3_placeOf : Nat → Co
  | 0 => nk
  | n + 1 => fam (rX3_placeOf (kX3_placeOf n)) nk
noncomputable def FX3_placeOf (a0 a1 : Int) (s : St) : Res := fX3_placeOf_0 (kX3_placeOf 9999) a0 a1 s
noncomputable def gX3_placeOf : Fn := fun xs s => FX3_placeOf (xs.getD 0 0) (xs.getD 1 0) s
noncomputable def mdX3_placeOf : MD := ([(3, 3), (0, 0)], (0, 0), yX3_placeOf, cX3_placeOf, (3, (some .int), 2, 43, []))
-- Floatparade$Route.mayTake(I)Z
noncomputable def fX3_mayTake_30 (kb : Co) (y0 : Int) (s : St) : Res := if (y0 : Int) = 0 ∨ (y0 : Int) = 1 then some (0, y0, s) else none
noncomputable def fX3_mayTake_29 (kb : Co) (s : St) : Res := fX3_mayTake_30 kb 0 s
noncomputable def fX3_mayTake_0 (kb : Co) (a0 a1 : Int) (s : St) : Res := if 0 < (gm s 3 a0 3) then (if (gm s 3 a0 3) < 10 then (bnd (FX3_placeOf a0 a1 s) fun x1 s1 => if x1 = (-1) then fX3_mayTake_30 kb 1 s1 else fX3_mayTake_29 kb s1) else fX3_mayTake_29 kb s) else fX3_mayTake_29 kb s
noncomputable def tX3_mayTake_30 (kb : Co) : List Rw := []
noncomputable def tX3_mayTake_29 (kb : Co) : List Rw := (30, [(7, 0), (7, 0)], [(0, 0)], fun xs ys s => fX3_mayTake_30 kb (ys.getD 0 0) s) :: tX3_mayTake_30 kb
noncomputable def tX3_mayTake_0 (kb : Co) : List Rw := (29, [(7, 0), (7, 0)], [], fun xs ys s => fX3_mayTake_29 kb s) :: tX3_mayTake_29 kb
noncomputable def rX3_mayTake (kb : Co) : List Rw := (0, [(3, 3), (0, 0)], [], fun xs ys s => fX3_mayTake_0 kb (xs.getD 0 0) (xs.getD 1 0) s) :: tX3_mayTake_0 kb
noncomputable def kX3_mayTake : Nat → Co
  | 0 => nk
  | n + 1 => fam (rX3_mayTake (kX3_mayTake n)) nk
noncomputable def FX3_mayTake (a0 a1 : Int) (s : St) : Res := fX3_mayTake_0 (kX3_mayTake 0) a0 a1 s
noncomputable def gX3_mayTake : Fn := fun xs s => FX3_mayTake (xs.getD 0 0) (xs.getD 1 0) s
noncomputable def mdX3_mayTake : MD := ([(3, 3), (0, 0)], (0, 0), yX3_mayTake, cX3_mayTake, (2, (some .boolean), 3, 65, []))
-- Floatparade$Route.lead(ILFloatparade$Street;)I
noncomputable def fX3_lead_55 (kb : Co) (a0 : Int) (s : St) : Res := bnd (FX3_cells a0 s) fun x1 s1 => some (0, x1, s1)
noncomputable def fX3_lead_0 (kb : Co) (a0 a1 a2 : Int) (s : St) : Res := bnd (FX11_isWithin (gm s 3 a0 3) 1 9 s) fun x1 s1 => if x1 = 0 then fX3_lead_55 kb a0 s1 else if 0 ≤ (gm s 3 a0 3) ∧ (gm s 3 a0 3) < 10 then if 0 ≤ (gm s 3 a0 3) ∧ (gm s 3 a0 3) < 10 then if 0 ≤ (wr ((gm s 3 a0 3) - 1)) ∧ (wr ((gm s 3 a0 3) - 1)) < 10 then if 0 ≤ a2 then if 0 ≤ (gm s 3 a0 3) ∧ (gm s 3 a0 3) < 10 then fX3_lead_55 kb a0 (pm (pm (pm (pm s1 24 a0 (gm s 3 a0 3) a1) 26 a0 (gm s 3 a0 3) a2) 25 a0 (gm s 3 a0 3) (wr ((gm (pm (pm s1 24 a0 (gm s 3 a0 3) a1) 26 a0 (gm s 3 a0 3) a2) 25 a0 (wr ((gm s 3 a0 3) - 1))) + (gm (pm (pm s1 24 a0 (gm s 3 a0 3) a1) 26 a0 (gm s 3 a0 3) a2) 8 a2 2)))) 3 a0 3 (wr ((gm s 3 a0 3) + 1))) else none else none else none else none else none
noncomputable def tX3_lead_55 (kb : Co) : List Rw := []
noncomputable def tX3_lead_0 (kb : Co) : List Rw := (55, [(3, 3), (7, 0), (7, 0), (7, 0)], [], fun xs ys s => fX3_lead_55 kb (xs.getD 0 0) s) :: tX3_lead_55 kb
noncomputable def rX3_lead (kb : Co) : List Rw := (0, [(3, 3), (0, 0), (2, 8), (7, 0)], [], fun xs ys s => fX3_lead_0 kb (xs.getD 0 0) (xs.getD 1 0) (xs.getD 2 0) s) :: tX3_lead_0 kb
noncomputable def kX3_lead : Nat → Co
  | 0 => nk
  | n + 1 => fam (rX3_lead (kX3_lead n)) nk
noncomputable def FX3_lead (a0 a1 a2 : Int) (s : St) : Res := fX3_lead_0 (kX3_lead 0) a0 a1 a2 s
noncomputable def gX3_lead : Fn := fun xs s => FX3_lead (xs.getD 0 0) (xs.getD 1 0) (xs.getD 2 0) s
noncomputable def mdX3_lead : MD := ([(3, 3), (0, 0), (2, 8)], (0, 0), yX3_lead, cX3_lead, (4, (some .int), 3, 63, []))
-- Floatparade$Route.cellOf(I)I
noncomputable def fX3_cellOf_20 (kb : Co) (y0 : Int) (s : St) : Res := some (0, y0, s)
noncomputable def fX3_cellOf_15 (kb : Co) (a0 a2 : Int) (s : St) : Res := bnd (FX3_cellAt a0 a2 s) fun x1 s1 => fX3_cellOf_20 kb x1 s1
noncomputable def fX3_cellOf_0 (kb : Co) (a0 a1 : Int) (s : St) : Res := bnd (FX3_placeOf a0 a1 s) fun x1 s1 => if x1 = (-1) then fX3_cellOf_20 kb (-1) s1 else fX3_cellOf_15 kb a0 x1 s1
noncomputable def tX3_cellOf_20 (kb : Co) : List Rw := []
noncomputable def tX3_cellOf_15 (kb : Co) : List Rw := (20, [(7, 0), (7, 0), (7, 0)], [(0, 0)], fun xs ys s => fX3_cellOf_20 kb (ys.getD 0 0) s) :: tX3_cellOf_20 kb
noncomputable def tX3_cellOf_0 (kb : Co) : List Rw := (15, [(3, 3), (7, 0), (0, 0)], [], fun xs ys s => fX3_cellOf_15 kb (xs.getD 0 0) (xs.getD 1 0) s) :: tX3_cellOf_15 kb
noncomputable def rX3_cellOf (kb : Co) : List Rw := (0, [(3, 3), (0, 0), (7, 0)], [], fun xs ys s => fX3_cellOf_0 kb (xs.getD 0 0) (xs.getD 1 0) s) :: tX3_cellOf_0 kb
noncomputable def kX3_cellOf : Nat → Co
  | 0 => nk
  | n + 1 => fam (rX3_cellOf (kX3_cellOf n)) nk
noncomputable def FX3_cellOf (a0 a1 : Int) (s : St) : Res := fX3_cellOf_0 (kX3_cellOf 0) a0 a1 s
noncomputable def gX3_cellOf : Fn := fun xs s => FX3_cellOf (xs.getD 0 0) (xs.getD 1 0) s
noncomputable def mdX3_cellOf : MD := ([(3, 3), (0, 0)], (0, 0), yX3_cellOf, cX3_cellOf, (3, (some .int), 3, 65, []))
-- Floatparade$Street.lets(LFloatparade$Wagon;)Z
noncomputable def fX8_lets_42 (kb : Co) (y0 : Int) (s : St) : Res := if (y0 : Int) = 0 ∨ (y0 : Int) = 1 then some (0, y0, s) else none
noncomputable def fX8_lets_41 (kb : Co) (s : St) : Res := fX8_lets_42 kb 0 s
noncomputable def fX8_lets_0 (kb : Co) (a0 a1 : Int) (s : St) : Res := if 0 ≤ a1 then if (wr ((gm s 8 a0 3) - 2)) < (gm s 10 a1 0) then fX8_lets_41 kb s else if 0 ≤ a1 then if (wr ((gm s 8 a0 4) - 1)) < (gm s 10 a1 1) then fX8_lets_41 kb s else if 0 ≤ a1 then if (gm s 8 a0 5) < (gm s 10 a1 2) then fX8_lets_41 kb s else fX8_lets_42 kb 1 s else none else none else none
noncomputable def tX8_lets_42 (kb : Co) : List Rw := []
noncomputable def tX8_lets_41 (kb : Co) : List Rw := (42, [(7, 0), (7, 0)], [(0, 0)], fun xs ys s => fX8_lets_42 kb (ys.getD 0 0) s) :: tX8_lets_42 kb
noncomputable def tX8_lets_0 (kb : Co) : List Rw := (41, [(7, 0), (7, 0)], [], fun xs ys s => fX8_lets_41 kb s) :: tX8_lets_41 kb
noncomputable def rX8_lets (kb : Co) : List Rw := (0, [(3, 8), (2, 10)], [], fun xs ys s => fX8_lets_0 kb (xs.getD 0 0) (xs.getD 1 0) s) :: tX8_lets_0 kb
noncomputable def kX8_lets : Nat → Co
  | 0 => nk
  | n + 1 => fam (rX8_lets (kX8_lets n)) nk
noncomputable def FX8_lets (a0 a1 : Int) (s : St) : Res := fX8_lets_0 (kX8_lets 0) a0 a1 s
noncomputable def gX8_lets : Fn := fun xs s => FX8_lets (xs.getD 0 0) (xs.getD 1 0) s
noncomputable def mdX8_lets : MD := ([(3, 8), (2, 10)], (0, 0), yX8_lets, cX8_lets, (2, (some .boolean), 0, 0, []))
-- Floatparade$Route.lets(LFloatparade$Wagon;)Z
noncomputable def fX3_lets_80 (kb : Co) (y0 : Int) (s : St) : Res := if (y0 : Int) = 0 ∨ (y0 : Int) = 1 then some (0, y0, s) else none
noncomputable def fX3_lets_79 (kb : Co) (s : St) : Res := fX3_lets_80 kb 0 s
noncomputable def fX3_lets_67 (kb : Co) (a0 : Int) (s : St) : Res := if 1 < (gm s 3 a0 3) then fX3_lets_80 kb 1 s else fX3_lets_79 kb s
noncomputable def fX3_lets_61 (kb : Co) (a0 a1 a2 : Int) (s : St) : Res := kb 2 [(3, 3, a0), (2, 10, a1), (0, 0, (wr (a2 + 1))), (7, 0, 0), (7, 0, 0)] [] s
noncomputable def fX3_lets_59 (kb : Co) (s : St) : Res := if (0 : Int) = 0 ∨ (0 : Int) = 1 then some (0, 0, s) else none
noncomputable def fX3_lets_2 (kb : Co) (a0 a1 a2 : Int) (s : St) : Res := if a2 < (gm s 3 a0 3) then (bnd (FX3_streetTo a0 a2 s) fun x1 s1 => bnd (FX3_streetTo a0 (wr (a2 - 1)) s1) fun x2 s2 => if x1 = (-1) then fX3_lets_59 kb s2 else if 0 ≤ x1 then bnd (FX8_lets x1 a1 s2) fun x3 s3 => if x3 = 0 then fX3_lets_59 kb s3 else if x2 = (-1) then fX3_lets_61 kb a0 a1 a2 s3 else if 0 ≤ a1 then if 0 ≤ x2 then if 0 ≤ x1 then if (wr ((gm s3 8 x2 3) + (gm s3 8 x1 3))) < (gm s3 10 a1 3) then fX3_lets_59 kb s3 else fX3_lets_61 kb a0 a1 a2 s3 else none else none else none else none) else fX3_lets_67 kb a0 s
noncomputable def fX3_lets_0 (kb : Co) (a0 a1 : Int) (s : St) : Res := fX3_lets_2 kb a0 a1 1 s
noncomputable def tX3_lets_80 (kb : Co) : List Rw := []
noncomputable def tX3_lets_79 (kb : Co) : List Rw := (80, [(7, 0), (7, 0), (7, 0), (7, 0), (7, 0)], [(0, 0)], fun xs ys s => fX3_lets_80 kb (ys.getD 0 0) s) :: tX3_lets_80 kb
noncomputable def tX3_lets_67 (kb : Co) : List Rw := (79, [(7, 0), (7, 0), (7, 0), (7, 0), (7, 0)], [], fun xs ys s => fX3_lets_79 kb s) :: tX3_lets_79 kb
noncomputable def tX3_lets_61 (kb : Co) : List Rw := (67, [(3, 3), (7, 0), (7, 0), (7, 0), (7, 0)], [], fun xs ys s => fX3_lets_67 kb (xs.getD 0 0) s) :: tX3_lets_67 kb
noncomputable def tX3_lets_59 (kb : Co) : List Rw := (61, [(3, 3), (2, 10), (0, 0), (7, 0), (7, 0)], [], fun xs ys s => fX3_lets_61 kb (xs.getD 0 0) (xs.getD 1 0) (xs.getD 2 0) s) :: tX3_lets_61 kb
noncomputable def tX3_lets_2 (kb : Co) : List Rw := (59, [(7, 0), (7, 0), (7, 0), (7, 0), (7, 0)], [], fun xs ys s => fX3_lets_59 kb s) :: tX3_lets_59 kb
noncomputable def tX3_lets_0 (kb : Co) : List Rw := (2, [(3, 3), (2, 10), (0, 0), (7, 0), (7, 0)], [], fun xs ys s => fX3_lets_2 kb (xs.getD 0 0) (xs.getD 1 0) (xs.getD 2 0) s) :: tX3_lets_2 kb
noncomputable def rX3_lets (kb : Co) : List Rw := (0, [(3, 3), (2, 10), (7, 0), (7, 0), (7, 0)], [], fun xs ys s => fX3_lets_0 kb (xs.getD 0 0) (xs.getD 1 0) s) :: tX3_lets_0 kb
noncomputable def kX3_lets : Nat → Co
  | 0 => nk
  | n + 1 => fam (rX3_lets (kX3_lets n)) nk
noncomputable def FX3_lets (a0 a1 : Int) (s : St) : Res := fX3_lets_0 (kX3_lets 9999) a0 a1 s
noncomputable def gX3_lets : Fn := fun xs s => FX3_lets (xs.getD 0 0) (xs.getD 1 0) s
noncomputable def mdX3_lets : MD := ([(3, 3), (2, 10)], (0, 0), yX3_lets, cX3_lets, (5, (some .boolean), 2, 43, []))
-- Floatparade$Route.letsAll(LFloatparade$Society;)Z
noncomputable def fX3_letsAll_49 (kb : Co) (y0 : Int) (s : St) : Res := if (y0 : Int) = 0 ∨ (y0 : Int) = 1 then some (0, y0, s) else none
noncomputable def fX3_letsAll_48 (kb : Co) (s : St) : Res := fX3_letsAll_49 kb 0 s
noncomputable def fX3_letsAll_36 (kb : Co) (a0 : Int) (s : St) : Res := if 1 < (gm s 3 a0 3) then fX3_letsAll_49 kb 1 s else fX3_letsAll_48 kb s
noncomputable def fX3_letsAll_30 (kb : Co) (a0 a1 a2 : Int) (s : St) : Res := kb 2 [(3, 3, a0), (2, 6, a1), (0, 0, (wr (a2 + 1))), (7, 0, 0)] [] s
noncomputable def fX3_letsAll_2 (kb : Co) (a0 a1 a2 : Int) (s : St) : Res := if 0 ≤ a1 then if a2 < (gm s 6 a1 10) then (if 0 ≤ a1 then bnd (FX6_wagonAt a1 a2 s) fun x1 s1 => if x1 = (-1) then fX3_letsAll_30 kb a0 a1 a2 s1 else bnd (FX3_lets a0 x1 s1) fun x2 s2 => if x2 = 0 then (if (0 : Int) = 0 ∨ (0 : Int) = 1 then some (0, 0, s2) else none) else fX3_letsAll_30 kb a0 a1 a2 s2 else none) else fX3_letsAll_36 kb a0 s else none
noncomputable def fX3_letsAll_0 (kb : Co) (a0 a1 : Int) (s : St) : Res := fX3_letsAll_2 kb a0 a1 0 s
noncomputable def tX3_letsAll_49 (kb : Co) : List Rw := []
noncomputable def tX3_letsAll_48 (kb : Co) : List Rw := (49, [(7, 0), (7, 0), (7, 0), (7, 0)], [(0, 0)], fun xs ys s => fX3_letsAll_49 kb (ys.getD 0 0) s) :: tX3_letsAll_49 kb
noncomputable def tX3_letsAll_36 (kb : Co) : List Rw := (48, [(7, 0), (7, 0), (7, 0), (7, 0)], [], fun xs ys s => fX3_letsAll_48 kb s) :: tX3_letsAll_48 kb
noncomputable def tX3_letsAll_30 (kb : Co) : List Rw := (36, [(3, 3), (7, 0), (7, 0), (7, 0)], [], fun xs ys s => fX3_letsAll_36 kb (xs.getD 0 0) s) :: tX3_letsAll_36 kb
noncomputable def tX3_letsAll_2 (kb : Co) : List Rw := (30, [(3, 3), (2, 6), (0, 0), (7, 0)], [], fun xs ys s => fX3_letsAll_30 kb (xs.getD 0 0) (xs.getD 1 0) (xs.getD 2 0) s) :: tX3_letsAll_30 kb
noncomputable def tX3_letsAll_0 (kb : Co) : List Rw := (2, [(3, 3), (2, 6), (0, 0), (7, 0)], [], fun xs ys s => fX3_letsAll_2 kb (xs.getD 0 0) (xs.getD 1 0) (xs.getD 2 0) s) :: tX3_letsAll_2 kb
noncomputable def rX3_letsAll (kb : Co) : List Rw := (0, [(3, 3), (2, 6), (7, 0), (7, 0)], [], fun xs ys s => fX3_letsAll_0 kb (xs.getD 0 0) (xs.getD 1 0) s) :: tX3_letsAll_0 kb
noncomputable def kX3_letsAll : Nat → Co
  | 0 => nk
  | n + 1 => fam (rX3_letsAll (kX3_letsAll n)) nk
noncomputable def FX3_letsAll (a0 a1 : Int) (s : St) : Res := fX3_letsAll_0 (kX3_letsAll 9999) a0 a1 s
noncomputable def gX3_letsAll : Fn := fun xs s => FX3_letsAll (xs.getD 0 0) (xs.getD 1 0) s
noncomputable def mdX3_letsAll : MD := ([(3, 3), (2, 6)], (0, 0), yX3_letsAll, cX3_letsAll, (4, (some .boolean), 3, 67, []))
-- Floatparade$Row.placeOf(LFloatparade$Society;)I
noncomputable def fX4_placeOf_27 (kb : Co) (s : St) : Res := some (0, (-1), s)
noncomputable def fX4_placeOf_21 (kb : Co) (a0 a1 a2 : Int) (s : St) : Res := kb 2 [(3, 4, a0), (2, 6, a1), (0, 0, (wr (a2 + 1)))] [] s
noncomputable def fX4_placeOf_2 (kb : Co) (a0 a1 a2 : Int) (s : St) : Res := if a2 < (gm s 4 a0 1) then (bnd (FX4_at a0 a2 s) fun x1 s1 => if x1 = a1 then some (0, a2, s1) else fX4_placeOf_21 kb a0 a1 a2 s1) else fX4_placeOf_27 kb s
noncomputable def fX4_placeOf_0 (kb : Co) (a0 a1 : Int) (s : St) : Res := fX4_placeOf_2 kb a0 a1 0 s
noncomputable def tX4_placeOf_27 (kb : Co) : List Rw := []
noncomputable def tX4_placeOf_21 (kb : Co) : List Rw := (27, [(7, 0), (7, 0), (7, 0)], [], fun xs ys s => fX4_placeOf_27 kb s) :: tX4_placeOf_27 kb
noncomputable def tX4_placeOf_2 (kb : Co) : List Rw := (21, [(3, 4), (2, 6), (0, 0)], [], fun xs ys s => fX4_placeOf_21 kb (xs.getD 0 0) (xs.getD 1 0) (xs.getD 2 0) s) :: tX4_placeOf_21 kb
noncomputable def tX4_placeOf_0 (kb : Co) : List Rw := (2, [(3, 4), (2, 6), (0, 0)], [], fun xs ys s => fX4_placeOf_2 kb (xs.getD 0 0) (xs.getD 1 0) (xs.getD 2 0) s) :: tX4_placeOf_2 kb
noncomputable def rX4_placeOf (kb : Co) : List Rw := (0, [(3, 4), (2, 6), (7, 0)], [], fun xs ys s => fX4_placeOf_0 kb (xs.getD 0 0) (xs.getD 1 0) s) :: tX4_placeOf_0 kb
noncomputable def kX4_placeOf : Nat → Co
  | 0 => nk
  | n + 1 => fam (rX4_placeOf (kX4_placeOf n)) nk
noncomputable def FX4_placeOf (a0 a1 : Int) (s : St) : Res := fX4_placeOf_0 (kX4_placeOf 9999) a0 a1 s
noncomputable def gX4_placeOf : Fn := fun xs s => FX4_placeOf (xs.getD 0 0) (xs.getD 1 0) s
noncomputable def mdX4_placeOf : MD := ([(3, 4), (2, 6)], (0, 0), yX4_placeOf, cX4_placeOf, (3, (some .int), 2, 43, []))
-- Floatparade$Row.placeBefore(III)I
noncomputable def fX4_placeBefore_17 (kb : Co) (y0 : Int) (s : St) : Res := some (0, y0, s)
noncomputable def fX4_placeBefore_16 (kb : Co) (a0 : Int) (s : St) : Res := fX4_placeBefore_17 kb a0 s
noncomputable def fX4_placeBefore_7 (kb : Co) (a0 a1 a2 : Int) (s : St) : Res := if a0 = a2 then fX4_placeBefore_17 kb a1 s else fX4_placeBefore_16 kb a0 s
noncomputable def fX4_placeBefore_0 (kb : Co) (a0 a1 a2 : Int) (s : St) : Res := if a0 = a1 then some (0, a2, s) else fX4_placeBefore_7 kb a0 a1 a2 s
noncomputable def tX4_placeBefore_17 (kb : Co) : List Rw := []
noncomputable def tX4_placeBefore_16 (kb : Co) : List Rw := (17, [(7, 0), (7, 0), (7, 0)], [(0, 0)], fun xs ys s => fX4_placeBefore_17 kb (ys.getD 0 0) s) :: tX4_placeBefore_17 kb
noncomputable def tX4_placeBefore_7 (kb : Co) : List Rw := (16, [(0, 0), (7, 0), (7, 0)], [], fun xs ys s => fX4_placeBefore_16 kb (xs.getD 0 0) s) :: tX4_placeBefore_16 kb
noncomputable def tX4_placeBefore_0 (kb : Co) : List Rw := (7, [(0, 0), (0, 0), (0, 0)], [], fun xs ys s => fX4_placeBefore_7 kb (xs.getD 0 0) (xs.getD 1 0) (xs.getD 2 0) s) :: tX4_placeBefore_7 kb
noncomputable def rX4_placeBefore (kb : Co) : List Rw := (0, [(0, 0), (0, 0), (0, 0)], [], fun xs ys s => fX4_placeBefore_0 kb (xs.getD 0 0) (xs.getD 1 0) (xs.getD 2 0) s) :: tX4_placeBefore_0 kb
noncomputable def kX4_placeBefore : Nat → Co
  | 0 => nk
  | n + 1 => fam (rX4_placeBefore (kX4_placeBefore n)) nk
noncomputable def FX4_placeBefore (a0 a1 a2 : Int) (s : St) : Res := fX4_placeBefore_0 (kX4_placeBefore 0) a0 a1 a2 s
noncomputable def gX4_placeBefore : Fn := fun xs s => FX4_placeBefore (xs.getD 0 0) (xs.getD 1 0) (xs.getD 2 0) s
noncomputable def mdX4_placeBefore : MD := ([(0, 0), (0, 0), (0, 0)], (0, 0), yX4_placeBefore, cX4_placeBefore, (3, (some .int), 0, 0, []))
-- java/lang/Math.abs(I)I
noncomputable def fJ9_abs_0f7a4_10 (kb : Co) (y0 : Int) (s : St) : Res := some (0, y0, s)
noncomputable def fJ9_abs_0f7a4_9 (kb : Co) (a0 : Int) (s : St) : Res := fJ9_abs_0f7a4_10 kb a0 s
noncomputable def fJ9_abs_0f7a4_0 (kb : Co) (a0 : Int) (s : St) : Res := if a0 < 0 then fJ9_abs_0f7a4_10 kb (wr (-a0)) s else fJ9_abs_0f7a4_9 kb a0 s
noncomputable def tJ9_abs_0f7a4_10 (kb : Co) : List Rw := []
noncomputable def tJ9_abs_0f7a4_9 (kb : Co) : List Rw := (10, [(7, 0)], [(0, 0)], fun xs ys s => fJ9_abs_0f7a4_10 kb (ys.getD 0 0) s) :: tJ9_abs_0f7a4_10 kb
noncomputable def tJ9_abs_0f7a4_0 (kb : Co) : List Rw := (9, [(0, 0)], [], fun xs ys s => fJ9_abs_0f7a4_9 kb (xs.getD 0 0) s) :: tJ9_abs_0f7a4_9 kb
noncomputable def rJ9_abs_0f7a4 (kb : Co) : List Rw := (0, [(0, 0)], [], fun xs ys s => fJ9_abs_0f7a4_0 kb (xs.getD 0 0) s) :: tJ9_abs_0f7a4_0 kb
noncomputable def kJ9_abs_0f7a4 : Nat → Co
  | 0 => nk
  | n + 1 => fam (rJ9_abs_0f7a4 (kJ9_abs_0f7a4 n)) nk
noncomputable def FJ9_abs_0f7a4 (a0 : Int) (s : St) : Res := fJ9_abs_0f7a4_0 (kJ9_abs_0f7a4 0) a0 s
noncomputable def gJ9_abs_0f7a4 : Fn := fun xs s => FJ9_abs_0f7a4 (xs.getD 0 0) s
noncomputable def mdJ9_abs_0f7a4 : MD := ([(0, 0)], (0, 0), yJ9_abs_0f7a4, cJ9_abs_0f7a4, (1, (some .int), 0, 1, []))
-- Floatparade$Row.changePlaces(LFloatparade$Society;LFloatparade$Society;)Z
noncomputable def fX4_changePlaces_92 (kb : Co) (s : St) : Res := if (1 : Int) = 0 ∨ (1 : Int) = 1 then some (0, 1, s) else none
noncomputable def fX4_changePlaces_86 (kb : Co) (a0 a3 a4 a5 : Int) (s : St) : Res := kb 23 [(3, 4, a0), (7, 0, 0), (7, 0, 0), (0, 0, a3), (0, 0, a4), (0, 0, (wr (a5 + 1))), (7, 0, 0), (7, 0, 0)] [] s
noncomputable def fX4_changePlaces_23 (kb : Co) (a0 a3 a4 a5 : Int) (s : St) : Res := if (wr (a5 + 1)) < (gm s 4 a0 1) then (bnd (FX4_placeBefore a5 a3 a4 s) fun x1 s1 => bnd (FX4_placeBefore (wr (a5 + 1)) a3 a4 s1) fun x2 s2 => bnd (FX4_isFeudAt a0 a5 s2) fun x3 s3 => if x3 = 0 then fX4_changePlaces_86 kb a0 a3 a4 a5 s3 else bnd (FJ9_abs_0f7a4 (wr (x1 - x2)) s3) fun x4 s4 => if x4 = 1 then fX4_changePlaces_86 kb a0 a3 a4 a5 s4 else bnd (FX4_swap a0 a3 a4 s4) fun _ s5 => if (0 : Int) = 0 ∨ (0 : Int) = 1 then some (0, 0, s5) else none) else fX4_changePlaces_92 kb s
noncomputable def fX4_changePlaces_0 (kb : Co) (a0 a1 a2 : Int) (s : St) : Res := bnd (FX4_placeOf a0 a1 s) fun x1 s1 => bnd (FX4_placeOf a0 a2 s1) fun x2 s2 => bnd (FX4_swap a0 x1 x2 s2) fun _ s3 => fX4_changePlaces_23 kb a0 x1 x2 0 s3
noncomputable def tX4_changePlaces_92 (kb : Co) : List Rw := []
noncomputable def tX4_changePlaces_86 (kb : Co) : List Rw := (92, [(7, 0), (7, 0), (7, 0), (7, 0), (7, 0), (7, 0), (7, 0), (7, 0)], [], fun xs ys s => fX4_changePlaces_92 kb s) :: tX4_changePlaces_92 kb
noncomputable def tX4_changePlaces_23 (kb : Co) : List Rw := (86, [(3, 4), (7, 0), (7, 0), (0, 0), (0, 0), (0, 0), (7, 0), (7, 0)], [], fun xs ys s => fX4_changePlaces_86 kb (xs.getD 0 0) (xs.getD 1 0) (xs.getD 2 0) (xs.getD 3 0) s) :: tX4_changePlaces_86 kb
noncomputable def tX4_changePlaces_0 (kb : Co) : List Rw := (23, [(3, 4), (7, 0), (7, 0), (0, 0), (0, 0), (0, 0), (7, 0), (7, 0)], [], fun xs ys s => fX4_changePlaces_23 kb (xs.getD 0 0) (xs.getD 1 0) (xs.getD 2 0) (xs.getD 3 0) s) :: tX4_changePlaces_23 kb
noncomputable def rX4_changePlaces (kb : Co) : List Rw := (0, [(3, 4), (2, 6), (2, 6), (7, 0), (7, 0), (7, 0), (7, 0), (7, 0)], [], fun xs ys s => fX4_changePlaces_0 kb (xs.getD 0 0) (xs.getD 1 0) (xs.getD 2 0) s) :: tX4_changePlaces_0 kb
noncomputable def kX4_changePlaces : Nat → Co
  | 0 => nk
  | n + 1 => fam (rX4_changePlaces (kX4_changePlaces n)) nk
noncomputable def FX4_changePlaces (a0 a1 a2 : Int) (s : St) : Res := fX4_changePlaces_0 (kX4_changePlaces 9999) a0 a1 a2 s
noncomputable def gX4_changePlaces : Fn := fun xs s => FX4_changePlaces (xs.getD 0 0) (xs.getD 1 0) (xs.getD 2 0) s
noncomputable def mdX4_changePlaces : MD := ([(3, 4), (2, 6), (2, 6)], (0, 0), yX4_changePlaces, cX4_changePlaces, (8, (some .boolean), 3, 67, []))
-- Floatparade$Score.setNote(III)V
noncomputable def fX5_setNote_30 (kb : Co) (s : St) : Res := some (0, 0, s)
noncomputable def fX5_setNote_0 (kb : Co) (a0 a1 a2 a3 : Int) (s : St) : Res := if (wr ((wr (a1 * 5)) + a2)) < 0 then fX5_setNote_30 kb s else if (wr ((wr (a1 * 5)) + a2)) < 20 then (if 0 ≤ (wr ((wr (a1 * 5)) + a2)) ∧ (wr ((wr (a1 * 5)) + a2)) < 20 then fX5_setNote_30 kb (pm s 18 a0 (wr ((wr (a1 * 5)) + a2)) a3) else none) else fX5_setNote_30 kb s
noncomputable def tX5_setNote_30 (kb : Co) : List Rw := []
noncomputable def tX5_setNote_0 (kb : Co) : List Rw := (30, [(7, 0), (7, 0), (7, 0), (7, 0), (7, 0)], [], fun xs ys s => fX5_setNote_30 kb s) :: tX5_setNote_30 kb
noncomputable def rX5_setNote (kb : Co) : List Rw := (0, [(3, 5), (0, 0), (0, 0), (0, 0), (7, 0)], [], fun xs ys s => fX5_setNote_0 kb (xs.getD 0 0) (xs.getD 1 0) (xs.getD 2 0) (xs.getD 3 0) s) :: tX5_setNote_0 kb
noncomputable def kX5_setNote : Nat → Co
  | 0 => nk
  | n + 1 => fam (rX5_setNote (kX5_setNote n)) nk
noncomputable def FX5_setNote (a0 a1 a2 a3 : Int) (s : St) : Res := fX5_setNote_0 (kX5_setNote 0) a0 a1 a2 a3 s
noncomputable def gX5_setNote : Fn := fun xs s => FX5_setNote (xs.getD 0 0) (xs.getD 1 0) (xs.getD 2 0) (xs.getD 3 0) s
noncomputable def mdX5_setNote : MD := ([(3, 5), (0, 0), (0, 0), (0, 0)], (9, 0), yX5_setNote, cX5_setNote, (5, none, 0, 0, []))
-- Floatparade$Score.isDoubtful(II)Z
noncomputable def fX5_isDoubtful_74 (kb : Co) (y0 : Int) (s : St) : Res := if (y0 : Int) = 0 ∨ (y0 : Int) = 1 then some (0, y0, s) else none
noncomputable def fX5_isDoubtful_73 (kb : Co) (s : St) : Res := fX5_isDoubtful_74 kb 0 s
noncomputable def fX5_isDoubtful_48 (kb : Co) (a0 a1 a2 a3 a4 : Int) (s : St) : Res := if 0 < a4 then (bnd (FX5_noteBy a0 a1 a2 s) fun x1 s1 => if a4 = 0 then none else if x1 < (wr ((idv a3 a4) + 15)) then fX5_isDoubtful_73 kb s1 else fX5_isDoubtful_74 kb 1 s1) else fX5_isDoubtful_73 kb s
noncomputable def fX5_isDoubtful_42 (kb : Co) (a0 a1 a2 a3 a4 a5 : Int) (s : St) : Res := kb 8 [(3, 5, a0), (0, 0, a1), (0, 0, a2), (0, 0, a3), (0, 0, a4), (0, 0, (wr (a5 + 1))), (7, 0, 0)] [] s
noncomputable def fX5_isDoubtful_8 (kb : Co) (a0 a1 a2 a3 a4 a5 : Int) (s : St) : Res := if a5 < 4 then (bnd (FX5_noteBy a0 a5 a2 s) fun x1 s1 => if a5 = a1 then fX5_isDoubtful_42 kb a0 a1 a2 a3 a4 a5 s1 else if 0 < x1 then fX5_isDoubtful_42 kb a0 a1 a2 (wr (a3 + x1)) (wr (a4 + 1)) a5 s1 else fX5_isDoubtful_42 kb a0 a1 a2 a3 a4 a5 s1) else fX5_isDoubtful_48 kb a0 a1 a2 a3 a4 s
noncomputable def fX5_isDoubtful_0 (kb : Co) (a0 a1 a2 : Int) (s : St) : Res := fX5_isDoubtful_8 kb a0 a1 a2 0 0 0 s
noncomputable def tX5_isDoubtful_74 (kb : Co) : List Rw := []
noncomputable def tX5_isDoubtful_73 (kb : Co) : List Rw := (74, [(7, 0), (7, 0), (7, 0), (7, 0), (7, 0), (7, 0), (7, 0)], [(0, 0)], fun xs ys s => fX5_isDoubtful_74 kb (ys.getD 0 0) s) :: tX5_isDoubtful_74 kb
noncomputable def tX5_isDoubtful_48 (kb : Co) : List Rw := (73, [(7, 0), (7, 0), (7, 0), (7, 0), (7, 0), (7, 0), (7, 0)], [], fun xs ys s => fX5_isDoubtful_73 kb s) :: tX5_isDoubtful_73 kb
noncomputable def tX5_isDoubtful_42 (kb : Co) : List Rw := (48, [(3, 5), (0, 0), (0, 0), (0, 0), (0, 0), (7, 0), (7, 0)], [], fun xs ys s => fX5_isDoubtful_48 kb (xs.getD 0 0) (xs.getD 1 0) (xs.getD 2 0) (xs.getD 3 0) (xs.getD 4 0) s) :: tX5_isDoubtful_48 kb
noncomputable def tX5_isDoubtful_8 (kb : Co) : List Rw := (42, [(3, 5), (0, 0), (0, 0), (0, 0), (0, 0), (0, 0), (7, 0)], [], fun xs ys s => fX5_isDoubtful_42 kb (xs.getD 0 0) (xs.getD 1 0) (xs.getD 2 0) (xs.getD 3 0) (xs.getD 4 0) (xs.getD 5 0) s) :: tX5_isDoubtful_42 kb
noncomputable def tX5_isDoubtful_0 (kb : Co) : List Rw := (8, [(3, 5), (0, 0), (0, 0), (0, 0), (0, 0), (0, 0), (7, 0)], [], fun xs ys s => fX5_isDoubtful_8 kb (xs.getD 0 0) (xs.getD 1 0) (xs.getD 2 0) (xs.getD 3 0) (xs.getD 4 0) (xs.getD 5 0) s) :: tX5_isDoubtful_8 kb
noncomputable def rX5_isDoubtful (kb : Co) : List Rw := (0, [(3, 5), (0, 0), (0, 0), (7, 0), (7, 0), (7, 0), (7, 0)], [], fun xs ys s => fX5_isDoubtful_0 kb (xs.getD 0 0) (xs.getD 1 0) (xs.getD 2 0) s) :: tX5_isDoubtful_0 kb
noncomputable def kX5_isDoubtful : Nat → Co
  | 0 => nk
  | n + 1 => fam (rX5_isDoubtful (kX5_isDoubtful n)) nk
noncomputable def FX5_isDoubtful (a0 a1 a2 : Int) (s : St) : Res := fX5_isDoubtful_0 (kX5_isDoubtful 9999) a0 a1 a2 s
noncomputable def gX5_isDoubtful : Fn := fun xs s => FX5_isDoubtful (xs.getD 0 0) (xs.getD 1 0) (xs.getD 2 0) s
noncomputable def mdX5_isDoubtful : MD := ([(3, 5), (0, 0), (0, 0)], (0, 0), yX5_isDoubtful, cX5_isDoubtful, (7, (some .boolean), 1, 23, []))
-- Floatparade$Score.castsDoubtOn(I)Z
noncomputable def fX5_castsDoubtOn_42 (kb : Co) (y0 : Int) (s : St) : Res := if (y0 : Int) = 0 ∨ (y0 : Int) = 1 then some (0, y0, s) else none
noncomputable def fX5_castsDoubtOn_41 (kb : Co) (s : St) : Res := fX5_castsDoubtOn_42 kb 0 s
noncomputable def fX5_castsDoubtOn_32 (kb : Co) (a2 : Int) (s : St) : Res := if a2 < 3 then fX5_castsDoubtOn_41 kb s else fX5_castsDoubtOn_42 kb 1 s
noncomputable def fX5_castsDoubtOn_24 (kb : Co) (a0 a1 a3 y0 y1 : Int) (s : St) : Res := kb 4 [(3, 5, a0), (0, 0, a1), (0, 0, (wr (y1 + y0))), (0, 0, (wr (a3 + 1)))] [] s
noncomputable def fX5_castsDoubtOn_23 (kb : Co) (a0 a1 a3 y0 : Int) (s : St) : Res := fX5_castsDoubtOn_24 kb a0 a1 a3 0 y0 s
noncomputable def fX5_castsDoubtOn_4 (kb : Co) (a0 a1 a2 a3 : Int) (s : St) : Res := if a3 < 5 then (bnd (FX5_isDoubtful a0 a1 a3 s) fun x1 s1 => if x1 = 0 then fX5_castsDoubtOn_23 kb a0 a1 a3 a2 s1 else fX5_castsDoubtOn_24 kb a0 a1 a3 1 a2 s1) else fX5_castsDoubtOn_32 kb a2 s
noncomputable def fX5_castsDoubtOn_0 (kb : Co) (a0 a1 : Int) (s : St) : Res := fX5_castsDoubtOn_4 kb a0 a1 0 0 s
noncomputable def tX5_castsDoubtOn_42 (kb : Co) : List Rw := []
noncomputable def tX5_castsDoubtOn_41 (kb : Co) : List Rw := (42, [(7, 0), (7, 0), (7, 0), (7, 0)], [(0, 0)], fun xs ys s => fX5_castsDoubtOn_42 kb (ys.getD 0 0) s) :: tX5_castsDoubtOn_42 kb
noncomputable def tX5_castsDoubtOn_32 (kb : Co) : List Rw := (41, [(7, 0), (7, 0), (7, 0), (7, 0)], [], fun xs ys s => fX5_castsDoubtOn_41 kb s) :: tX5_castsDoubtOn_41 kb
noncomputable def tX5_castsDoubtOn_24 (kb : Co) : List Rw := (32, [(7, 0), (7, 0), (0, 0), (7, 0)], [], fun xs ys s => fX5_castsDoubtOn_32 kb (xs.getD 0 0) s) :: tX5_castsDoubtOn_32 kb
noncomputable def tX5_castsDoubtOn_23 (kb : Co) : List Rw := (24, [(3, 5), (0, 0), (7, 0), (0, 0)], [(0, 0), (0, 0)], fun xs ys s => fX5_castsDoubtOn_24 kb (xs.getD 0 0) (xs.getD 1 0) (xs.getD 2 0) (ys.getD 0 0) (ys.getD 1 0) s) :: tX5_castsDoubtOn_24 kb
noncomputable def tX5_castsDoubtOn_4 (kb : Co) : List Rw := (23, [(3, 5), (0, 0), (7, 0), (0, 0)], [(0, 0)], fun xs ys s => fX5_castsDoubtOn_23 kb (xs.getD 0 0) (xs.getD 1 0) (xs.getD 2 0) (ys.getD 0 0) s) :: tX5_castsDoubtOn_23 kb
noncomputable def tX5_castsDoubtOn_0 (kb : Co) : List Rw := (4, [(3, 5), (0, 0), (0, 0), (0, 0)], [], fun xs ys s => fX5_castsDoubtOn_4 kb (xs.getD 0 0) (xs.getD 1 0) (xs.getD 2 0) (xs.getD 3 0) s) :: tX5_castsDoubtOn_4 kb
noncomputable def rX5_castsDoubtOn (kb : Co) : List Rw := (0, [(3, 5), (0, 0), (7, 0), (7, 0)], [], fun xs ys s => fX5_castsDoubtOn_0 kb (xs.getD 0 0) (xs.getD 1 0) s) :: tX5_castsDoubtOn_0 kb
noncomputable def kX5_castsDoubtOn : Nat → Co
  | 0 => nk
  | n + 1 => fam (rX5_castsDoubtOn (kX5_castsDoubtOn n)) nk
noncomputable def FX5_castsDoubtOn (a0 a1 : Int) (s : St) : Res := fX5_castsDoubtOn_0 (kX5_castsDoubtOn 9999) a0 a1 s
noncomputable def gX5_castsDoubtOn : Fn := fun xs s => FX5_castsDoubtOn (xs.getD 0 0) (xs.getD 1 0) s
noncomputable def mdX5_castsDoubtOn : MD := ([(3, 5), (0, 0)], (0, 0), yX5_castsDoubtOn, cX5_castsDoubtOn, (4, (some .boolean), 2, 49, []))
-- Floatparade$Score.isFull()Z
noncomputable def fX5_isFull_14 (kb : Co) (y0 : Int) (s : St) : Res := if (y0 : Int) = 0 ∨ (y0 : Int) = 1 then some (0, y0, s) else none
noncomputable def fX5_isFull_13 (kb : Co) (s : St) : Res := fX5_isFull_14 kb 0 s
noncomputable def fX5_isFull_0 (kb : Co) (a0 : Int) (s : St) : Res := if (gm s 5 a0 4) < 20 then fX5_isFull_13 kb s else fX5_isFull_14 kb 1 s
noncomputable def tX5_isFull_14 (kb : Co) : List Rw := []
noncomputable def tX5_isFull_13 (kb : Co) : List Rw := (14, [(7, 0)], [(0, 0)], fun xs ys s => fX5_isFull_14 kb (ys.getD 0 0) s) :: tX5_isFull_14 kb
noncomputable def tX5_isFull_0 (kb : Co) : List Rw := (13, [(7, 0)], [], fun xs ys s => fX5_isFull_13 kb s) :: tX5_isFull_13 kb
noncomputable def rX5_isFull (kb : Co) : List Rw := (0, [(3, 5)], [], fun xs ys s => fX5_isFull_0 kb (xs.getD 0 0) s) :: tX5_isFull_0 kb
noncomputable def kX5_isFull : Nat → Co
  | 0 => nk
  | n + 1 => fam (rX5_isFull (kX5_isFull n)) nk
noncomputable def FX5_isFull (a0 : Int) (s : St) : Res := fX5_isFull_0 (kX5_isFull 0) a0 s
noncomputable def gX5_isFull : Fn := fun xs s => FX5_isFull (xs.getD 0 0) s
noncomputable def mdX5_isFull : MD := ([(3, 5)], (0, 0), yX5_isFull, cX5_isFull, (1, (some .boolean), 0, 0, []))
-- Floatparade$Score.isAppealed(I)Z
noncomputable def fX5_isAppealed_22 (kb : Co) (y0 : Int) (s : St) : Res := if (y0 : Int) = 0 ∨ (y0 : Int) = 1 then some (0, y0, s) else none
noncomputable def fX5_isAppealed_21 (kb : Co) (s : St) : Res := fX5_isAppealed_22 kb 0 s
noncomputable def fX5_isAppealed_0 (kb : Co) (a0 a1 : Int) (s : St) : Res := bnd (FX5_hasPenalty a0 a1 s) fun x1 s1 => if x1 = 0 then fX5_isAppealed_21 kb s1 else if 0 ≤ a1 ∧ a1 < 20 then if (gm s1 21 a0 a1) = 0 then fX5_isAppealed_21 kb s1 else fX5_isAppealed_22 kb 1 s1 else none
noncomputable def tX5_isAppealed_22 (kb : Co) : List Rw := []
noncomputable def tX5_isAppealed_21 (kb : Co) : List Rw := (22, [(7, 0), (7, 0)], [(0, 0)], fun xs ys s => fX5_isAppealed_22 kb (ys.getD 0 0) s) :: tX5_isAppealed_22 kb
noncomputable def tX5_isAppealed_0 (kb : Co) : List Rw := (21, [(7, 0), (7, 0)], [], fun xs ys s => fX5_isAppealed_21 kb s) :: tX5_isAppealed_21 kb
noncomputable def rX5_isAppealed (kb : Co) : List Rw := (0, [(3, 5), (0, 0)], [], fun xs ys s => fX5_isAppealed_0 kb (xs.getD 0 0) (xs.getD 1 0) s) :: tX5_isAppealed_0 kb
noncomputable def kX5_isAppealed : Nat → Co
  | 0 => nk
  | n + 1 => fam (rX5_isAppealed (kX5_isAppealed n)) nk
noncomputable def FX5_isAppealed (a0 a1 : Int) (s : St) : Res := fX5_isAppealed_0 (kX5_isAppealed 0) a0 a1 s
noncomputable def gX5_isAppealed : Fn := fun xs s => FX5_isAppealed (xs.getD 0 0) (xs.getD 1 0) s
noncomputable def mdX5_isAppealed : MD := ([(3, 5), (0, 0)], (0, 0), yX5_isAppealed, cX5_isAppealed, (2, (some .boolean), 2, 43, []))
-- Floatparade$Score.appealAway(I)V
noncomputable def fX5_appealAway_15 (kb : Co) (s : St) : Res := some (0, 0, s)
noncomputable def fX5_appealAway_0 (kb : Co) (a0 a1 : Int) (s : St) : Res := bnd (FX5_hasPenalty a0 a1 s) fun x1 s1 => if x1 = 0 then fX5_appealAway_15 kb s1 else if (0 ≤ a1 ∧ a1 < 20) ∧ ((1 : Int) = 0 ∨ (1 : Int) = 1) then fX5_appealAway_15 kb (pm s1 21 a0 a1 1) else none
noncomputable def tX5_appealAway_15 (kb : Co) : List Rw := []
noncomputable def tX5_appealAway_0 (kb : Co) : List Rw := (15, [(7, 0), (7, 0)], [], fun xs ys s => fX5_appealAway_15 kb s) :: tX5_appealAway_15 kb
noncomputable def rX5_appealAway (kb : Co) : List Rw := (0, [(3, 5), (0, 0)], [], fun xs ys s => fX5_appealAway_0 kb (xs.getD 0 0) (xs.getD 1 0) s) :: tX5_appealAway_0 kb
noncomputable def kX5_appealAway : Nat → Co
  | 0 => nk
  | n + 1 => fam (rX5_appealAway (kX5_appealAway n)) nk
noncomputable def FX5_appealAway (a0 a1 : Int) (s : St) : Res := fX5_appealAway_0 (kX5_appealAway 0) a0 a1 s
noncomputable def gX5_appealAway : Fn := fun xs s => FX5_appealAway (xs.getD 0 0) (xs.getD 1 0) s
noncomputable def mdX5_appealAway : MD := ([(3, 5), (0, 0)], (9, 0), yX5_appealAway, cX5_appealAway, (2, none, 2, 43, []))
-- Floatparade$Score.tellPenalty(II)I
noncomputable def fX5_tellPenalty_64 (kb : Co) (y0 : Int) (s : St) : Res := some (0, y0, s)
noncomputable def fX5_tellPenalty_63 (kb : Co) (s : St) : Res := fX5_tellPenalty_64 kb 0 s
noncomputable def fX5_tellPenalty_50 (kb : Co) (a0 a1 : Int) (s : St) : Res := if 0 ≤ a1 ∧ a1 < 20 then if (gm s 21 a0 a1) = 0 then fX5_tellPenalty_63 kb s else fX5_tellPenalty_64 kb 1 s else none
noncomputable def fX5_tellPenalty_43 (kb : Co) (a0 a1 : Int) (s : St) : Res := if 0 ≤ a1 ∧ a1 < 20 then some (0, (gm s 20 a0 a1), s) else none
noncomputable def fX5_tellPenalty_36 (kb : Co) (a0 a1 : Int) (s : St) : Res := if 0 ≤ a1 ∧ a1 < 20 then some (0, (gm s 19 a0 a1), s) else none
noncomputable def fX5_tellPenalty_10 (kb : Co) (a0 a1 a2 : Int) (s : St) : Res := if a2 = 0 then fX5_tellPenalty_36 kb a0 a1 s else if a2 = 1 then fX5_tellPenalty_43 kb a0 a1 s else fX5_tellPenalty_50 kb a0 a1 s
noncomputable def fX5_tellPenalty_0 (kb : Co) (a0 a1 a2 : Int) (s : St) : Res := bnd (FX5_hasPenalty a0 a1 s) fun x1 s1 => if x1 = 0 then some (0, (-1), s1) else fX5_tellPenalty_10 kb a0 a1 a2 s1
noncomputable def tX5_tellPenalty_64 (kb : Co) : List Rw := []
noncomputable def tX5_tellPenalty_63 (kb : Co) : List Rw := (64, [(7, 0), (7, 0), (7, 0)], [(0, 0)], fun xs ys s => fX5_tellPenalty_64 kb (ys.getD 0 0) s) :: tX5_tellPenalty_64 kb
noncomputable def tX5_tellPenalty_50 (kb : Co) : List Rw := (63, [(7, 0), (7, 0), (7, 0)], [], fun xs ys s => fX5_tellPenalty_63 kb s) :: tX5_tellPenalty_63 kb
noncomputable def tX5_tellPenalty_43 (kb : Co) : List Rw := (50, [(3, 5), (0, 0), (7, 0)], [], fun xs ys s => fX5_tellPenalty_50 kb (xs.getD 0 0) (xs.getD 1 0) s) :: tX5_tellPenalty_50 kb
noncomputable def tX5_tellPenalty_36 (kb : Co) : List Rw := (43, [(3, 5), (0, 0), (7, 0)], [], fun xs ys s => fX5_tellPenalty_43 kb (xs.getD 0 0) (xs.getD 1 0) s) :: tX5_tellPenalty_43 kb
noncomputable def tX5_tellPenalty_10 (kb : Co) : List Rw := (36, [(3, 5), (0, 0), (7, 0)], [], fun xs ys s => fX5_tellPenalty_36 kb (xs.getD 0 0) (xs.getD 1 0) s) :: tX5_tellPenalty_36 kb
noncomputable def tX5_tellPenalty_0 (kb : Co) : List Rw := (10, [(3, 5), (0, 0), (0, 0)], [], fun xs ys s => fX5_tellPenalty_10 kb (xs.getD 0 0) (xs.getD 1 0) (xs.getD 2 0) s) :: tX5_tellPenalty_10 kb
noncomputable def rX5_tellPenalty (kb : Co) : List Rw := (0, [(3, 5), (0, 0), (0, 0)], [], fun xs ys s => fX5_tellPenalty_0 kb (xs.getD 0 0) (xs.getD 1 0) (xs.getD 2 0) s) :: tX5_tellPenalty_0 kb
noncomputable def kX5_tellPenalty : Nat → Co
  | 0 => nk
  | n + 1 => fam (rX5_tellPenalty (kX5_tellPenalty n)) nk
noncomputable def FX5_tellPenalty (a0 a1 a2 : Int) (s : St) : Res := fX5_tellPenalty_0 (kX5_tellPenalty 0) a0 a1 a2 s
noncomputable def gX5_tellPenalty : Fn := fun xs s => FX5_tellPenalty (xs.getD 0 0) (xs.getD 1 0) (xs.getD 2 0) s
noncomputable def mdX5_tellPenalty : MD := ([(3, 5), (0, 0), (0, 0)], (0, 0), yX5_tellPenalty, cX5_tellPenalty, (3, (some .int), 2, 43, []))
-- Floatparade$Score.clear()V
noncomputable def fX5_clear_24 (kb : Co) (a0 : Int) (s : St) : Res := some (0, 0, (pm s 5 a0 4 0))
noncomputable def fX5_clear_2 (kb : Co) (a0 a1 : Int) (s : St) : Res := if a1 < 20 then (if 0 ≤ a1 ∧ a1 < 20 then kb 2 [(3, 5, a0), (0, 0, (wr (a1 + 1)))] [] (pm s 18 a0 a1 0) else none) else fX5_clear_24 kb a0 s
noncomputable def fX5_clear_0 (kb : Co) (a0 : Int) (s : St) : Res := fX5_clear_2 kb a0 0 s
noncomputable def tX5_clear_24 (kb : Co) : List Rw := []
noncomputable def tX5_clear_2 (kb : Co) : List Rw := (24, [(3, 5), (7, 0)], [], fun xs ys s => fX5_clear_24 kb (xs.getD 0 0) s) :: tX5_clear_24 kb
noncomputable def tX5_clear_0 (kb : Co) : List Rw := (2, [(3, 5), (0, 0)], [], fun xs ys s => fX5_clear_2 kb (xs.getD 0 0) (xs.getD 1 0) s) :: tX5_clear_2 kb
noncomputable def rX5_clear (kb : Co) : List Rw := (0, [(3, 5), (7, 0)], [], fun xs ys s => fX5_clear_0 kb (xs.getD 0 0) s) :: tX5_clear_0 kb
noncomputable def kX5_clear : Nat → Co
  | 0 => nk
  | n + 1 => fam (rX5_clear (kX5_clear n)) nk
noncomputable def FX5_clear (a0 : Int) (s : St) : Res := fX5_clear_0 (kX5_clear 9999) a0 s
noncomputable def gX5_clear : Fn := fun xs s => FX5_clear (xs.getD 0 0) s
noncomputable def mdX5_clear : MD := ([(3, 5)], (9, 0), yX5_clear, cX5_clear, (2, none, 0, 0, []))
-- Floatparade$Society.setFeud(LFloatparade$Society;Z)V
noncomputable def fX6_setFeud_29 (kb : Co) (y0 y1 : Int) (s : St) : Res := some (0, 0, (pm s 6 y1 7 y0))
noncomputable def fX6_setFeud_21 (kb : Co) (a0 a3 y0 : Int) (s : St) : Res := fX6_setFeud_29 kb (iand (gm s 6 a0 7) (ixor a3 (-1))) y0 s
noncomputable def fX6_setFeud_0 (kb : Co) (a0 a1 a2 : Int) (s : St) : Res := if 0 ≤ a1 then if a2 = 0 then fX6_setFeud_21 kb a0 (ishl 1 (gm s 6 a1 0)) a0 s else fX6_setFeud_29 kb (ior (gm s 6 a0 7) (ishl 1 (gm s 6 a1 0))) a0 s else none
noncomputable def tX6_setFeud_29 (kb : Co) : List Rw := []
noncomputable def tX6_setFeud_21 (kb : Co) : List Rw := (29, [(7, 0), (7, 0), (7, 0), (7, 0)], [(0, 0), (3, 6)], fun xs ys s => fX6_setFeud_29 kb (ys.getD 0 0) (ys.getD 1 0) s) :: tX6_setFeud_29 kb
noncomputable def tX6_setFeud_0 (kb : Co) : List Rw := (21, [(3, 6), (7, 0), (7, 0), (0, 0)], [(3, 6)], fun xs ys s => fX6_setFeud_21 kb (xs.getD 0 0) (xs.getD 1 0) (ys.getD 0 0) s) :: tX6_setFeud_21 kb
noncomputable def rX6_setFeud (kb : Co) : List Rw := (0, [(3, 6), (2, 6), (0, 0), (7, 0)], [], fun xs ys s => fX6_setFeud_0 kb (xs.getD 0 0) (xs.getD 1 0) (xs.getD 2 0) s) :: tX6_setFeud_0 kb
noncomputable def kX6_setFeud : Nat → Co
  | 0 => nk
  | n + 1 => fam (rX6_setFeud (kX6_setFeud n)) nk
noncomputable def FX6_setFeud (a0 a1 a2 : Int) (s : St) : Res := fX6_setFeud_0 (kX6_setFeud 0) a0 a1 a2 s
noncomputable def gX6_setFeud : Fn := fun xs s => FX6_setFeud (xs.getD 0 0) (xs.getD 1 0) (xs.getD 2 0) s
noncomputable def mdX6_setFeud : MD := ([(3, 6), (2, 6), (0, 0)], (9, 0), yX6_setFeud, cX6_setFeud, (4, none, 0, 0, []))
-- java/lang/Integer.bitCount(I)I
noncomputable def fJ6_bitCount_0f7a4_0 (kb : Co) (a0 : Int) (s : St) : Res := some (0, (iand (wr ((wr ((iand (wr ((wr ((iand (wr (a0 - (iand (iushr a0 1) 1431655765))) 858993459) + (iand (iushr (wr (a0 - (iand (iushr a0 1) 1431655765))) 2) 858993459))) + (iushr (wr ((iand (wr (a0 - (iand (iushr a0 1) 1431655765))) 858993459) + (iand (iushr (wr (a0 - (iand (iushr a0 1) 1431655765))) 2) 858993459))) 4))) 252645135) + (iushr (iand (wr ((wr ((iand (wr (a0 - (iand (iushr a0 1) 1431655765))) 858993459) + (iand (iushr (wr (a0 - (iand (iushr a0 1) 1431655765))) 2) 858993459))) + (iushr (wr ((iand (wr (a0 - (iand (iushr a0 1) 1431655765))) 858993459) + (iand (iushr (wr (a0 - (iand (iushr a0 1) 1431655765))) 2) 858993459))) 4))) 252645135) 8))) + (iushr (wr ((iand (wr ((wr ((iand (wr (a0 - (iand (iushr a0 1) 1431655765))) 858993459) + (iand (iushr (wr (a0 - (iand (iushr a0 1) 1431655765))) 2) 858993459))) + (iushr (wr ((iand (wr (a0 - (iand (iushr a0 1) 1431655765))) 858993459) + (iand (iushr (wr (a0 - (iand (iushr a0 1) 1431655765))) 2) 858993459))) 4))) 252645135) + (iushr (iand (wr ((wr ((iand (wr (a0 - (iand (iushr a0 1) 1431655765))) 858993459) + (iand (iushr (wr (a0 - (iand (iushr a0 1) 1431655765))) 2) 858993459))) + (iushr (wr ((iand (wr (a0 - (iand (iushr a0 1) 1431655765))) 858993459) + (iand (iushr (wr (a0 - (iand (iushr a0 1) 1431655765))) 2) 858993459))) 4))) 252645135) 8))) 16))) 63), s)
noncomputable def tJ6_bitCount_0f7a4_0 (kb : Co) : List Rw := []
noncomputable def rJ6_bitCount_0f7a4 (kb : Co) : List Rw := (0, [(0, 0)], [], fun xs ys s => fJ6_bitCount_0f7a4_0 kb (xs.getD 0 0) s) :: tJ6_bitCount_0f7a4_0 kb
noncomputable def kJ6_bitCount_0f7a4 : Nat → Co
  | 0 => nk
  | n + 1 => fam (rJ6_bitCount_0f7a4 (kJ6_bitCount_0f7a4 n)) nk
noncomputable def FJ6_bitCount_0f7a4 (a0 : Int) (s : St) : Res := fJ6_bitCount_0f7a4_0 (kJ6_bitCount_0f7a4 0) a0 s
noncomputable def gJ6_bitCount_0f7a4 : Fn := fun xs s => FJ6_bitCount_0f7a4 (xs.getD 0 0) s
noncomputable def mdJ6_bitCount_0f7a4 : MD := ([(0, 0)], (0, 0), yJ6_bitCount_0f7a4, cJ6_bitCount_0f7a4, (1, (some .int), 0, 0, []))
-- Floatparade$Society.isThemeLike(I)Z
noncomputable def fX6_isThemeLike_18 (kb : Co) (y0 : Int) (s : St) : Res := if (y0 : Int) = 0 ∨ (y0 : Int) = 1 then some (0, y0, s) else none
noncomputable def fX6_isThemeLike_17 (kb : Co) (s : St) : Res := fX6_isThemeLike_18 kb 0 s
noncomputable def fX6_isThemeLike_0 (kb : Co) (a0 a1 : Int) (s : St) : Res := bnd (FJ6_bitCount_0f7a4 (iand (gm s 6 a0 8) a1) s) fun x1 s1 => if x1 < 3 then fX6_isThemeLike_17 kb s1 else fX6_isThemeLike_18 kb 1 s1
noncomputable def tX6_isThemeLike_18 (kb : Co) : List Rw := []
noncomputable def tX6_isThemeLike_17 (kb : Co) : List Rw := (18, [(7, 0), (7, 0)], [(0, 0)], fun xs ys s => fX6_isThemeLike_18 kb (ys.getD 0 0) s) :: tX6_isThemeLike_18 kb
noncomputable def tX6_isThemeLike_0 (kb : Co) : List Rw := (17, [(7, 0), (7, 0)], [], fun xs ys s => fX6_isThemeLike_17 kb s) :: tX6_isThemeLike_17 kb
noncomputable def rX6_isThemeLike (kb : Co) : List Rw := (0, [(3, 6), (0, 0)], [], fun xs ys s => fX6_isThemeLike_0 kb (xs.getD 0 0) (xs.getD 1 0) s) :: tX6_isThemeLike_0 kb
noncomputable def kX6_isThemeLike : Nat → Co
  | 0 => nk
  | n + 1 => fam (rX6_isThemeLike (kX6_isThemeLike n)) nk
noncomputable def FX6_isThemeLike (a0 a1 : Int) (s : St) : Res := fX6_isThemeLike_0 (kX6_isThemeLike 0) a0 a1 s
noncomputable def gX6_isThemeLike : Fn := fun xs s => FX6_isThemeLike (xs.getD 0 0) (xs.getD 1 0) s
noncomputable def mdX6_isThemeLike : MD := ([(3, 6), (0, 0)], (0, 0), yX6_isThemeLike, cX6_isThemeLike, (2, (some .boolean), 1, 20, []))
-- Floatparade$Society.addWagon(LFloatparade$Wagon;)I
noncomputable def fX6_addWagon_22 (kb : Co) (a0 a1 a2 : Int) (s : St) : Res := if 0 ≤ a2 ∧ a2 < 3 then some (0, a2, (pm (pm s 15 a0 a2 a1) 6 a0 10 (wr (a2 + 1)))) else none
noncomputable def fX6_addWagon_0 (kb : Co) (a0 a1 : Int) (s : St) : Res := bnd (FX11_isWithin (gm s 6 a0 10) 0 (wr (3 - 1)) s) fun x1 s1 => if x1 = 0 then some (0, (-1), s1) else fX6_addWagon_22 kb a0 a1 (gm s 6 a0 10) s1
noncomputable def tX6_addWagon_22 (kb : Co) : List Rw := []
noncomputable def tX6_addWagon_0 (kb : Co) : List Rw := (22, [(3, 6), (2, 10), (0, 0)], [], fun xs ys s => fX6_addWagon_22 kb (xs.getD 0 0) (xs.getD 1 0) (xs.getD 2 0) s) :: tX6_addWagon_22 kb
noncomputable def rX6_addWagon (kb : Co) : List Rw := (0, [(3, 6), (2, 10), (7, 0)], [], fun xs ys s => fX6_addWagon_0 kb (xs.getD 0 0) (xs.getD 1 0) s) :: tX6_addWagon_0 kb
noncomputable def kX6_addWagon : Nat → Co
  | 0 => nk
  | n + 1 => fam (rX6_addWagon (kX6_addWagon n)) nk
noncomputable def FX6_addWagon (a0 a1 : Int) (s : St) : Res := fX6_addWagon_0 (kX6_addWagon 0) a0 a1 s
noncomputable def gX6_addWagon : Fn := fun xs s => FX6_addWagon (xs.getD 0 0) (xs.getD 1 0) s
noncomputable def mdX6_addWagon : MD := ([(3, 6), (2, 10)], (0, 0), yX6_addWagon, cX6_addWagon, (3, (some .int), 1, 22, []))
-- Floatparade$Songs.has(I)Z
noncomputable def fX7_has_37 (kb : Co) (y0 : Int) (s : St) : Res := if (y0 : Int) = 0 ∨ (y0 : Int) = 1 then some (0, y0, s) else none
noncomputable def fX7_has_36 (kb : Co) (s : St) : Res := fX7_has_37 kb 0 s
noncomputable def fX7_has_0 (kb : Co) (a0 a1 : Int) (s : St) : Res := bnd (FX11_isWithin a1 0 (wr ((gm s 7 a0 2) - 1)) s) fun x1 s1 => if x1 = 0 then fX7_has_36 kb s1 else if a1 < 6 then (if a1 < 6 then fX7_has_37 kb 1 s1 else fX7_has_36 kb s1) else fX7_has_36 kb s1
noncomputable def tX7_has_37 (kb : Co) : List Rw := []
noncomputable def tX7_has_36 (kb : Co) : List Rw := (37, [(7, 0), (7, 0)], [(0, 0)], fun xs ys s => fX7_has_37 kb (ys.getD 0 0) s) :: tX7_has_37 kb
noncomputable def tX7_has_0 (kb : Co) : List Rw := (36, [(7, 0), (7, 0)], [], fun xs ys s => fX7_has_36 kb s) :: tX7_has_36 kb
noncomputable def rX7_has (kb : Co) : List Rw := (0, [(3, 7), (0, 0)], [], fun xs ys s => fX7_has_0 kb (xs.getD 0 0) (xs.getD 1 0) s) :: tX7_has_0 kb
noncomputable def kX7_has : Nat → Co
  | 0 => nk
  | n + 1 => fam (rX7_has (kX7_has n)) nk
noncomputable def FX7_has (a0 a1 : Int) (s : St) : Res := fX7_has_0 (kX7_has 0) a0 a1 s
noncomputable def gX7_has : Fn := fun xs s => FX7_has (xs.getD 0 0) (xs.getD 1 0) s
noncomputable def mdX7_has : MD := ([(3, 7), (0, 0)], (0, 0), yX7_has, cX7_has, (2, (some .boolean), 1, 22, []))
-- Floatparade$Songs.isStruck(I)Z
noncomputable def fX7_isStruck_22 (kb : Co) (y0 : Int) (s : St) : Res := if (y0 : Int) = 0 ∨ (y0 : Int) = 1 then some (0, y0, s) else none
noncomputable def fX7_isStruck_21 (kb : Co) (s : St) : Res := fX7_isStruck_22 kb 0 s
noncomputable def fX7_isStruck_0 (kb : Co) (a0 a1 : Int) (s : St) : Res := bnd (FX7_has a0 a1 s) fun x1 s1 => if x1 = 0 then fX7_isStruck_21 kb s1 else if 0 ≤ a1 ∧ a1 < 6 then if (gm s1 17 a0 a1) = 0 then fX7_isStruck_21 kb s1 else fX7_isStruck_22 kb 1 s1 else none
noncomputable def tX7_isStruck_22 (kb : Co) : List Rw := []
noncomputable def tX7_isStruck_21 (kb : Co) : List Rw := (22, [(7, 0), (7, 0)], [(0, 0)], fun xs ys s => fX7_isStruck_22 kb (ys.getD 0 0) s) :: tX7_isStruck_22 kb
noncomputable def tX7_isStruck_0 (kb : Co) : List Rw := (21, [(7, 0), (7, 0)], [], fun xs ys s => fX7_isStruck_21 kb s) :: tX7_isStruck_21 kb
noncomputable def rX7_isStruck (kb : Co) : List Rw := (0, [(3, 7), (0, 0)], [], fun xs ys s => fX7_isStruck_0 kb (xs.getD 0 0) (xs.getD 1 0) s) :: tX7_isStruck_0 kb
noncomputable def kX7_isStruck : Nat → Co
  | 0 => nk
  | n + 1 => fam (rX7_isStruck (kX7_isStruck n)) nk
noncomputable def FX7_isStruck (a0 a1 : Int) (s : St) : Res := fX7_isStruck_0 (kX7_isStruck 0) a0 a1 s
noncomputable def gX7_isStruck : Fn := fun xs s => FX7_isStruck (xs.getD 0 0) (xs.getD 1 0) s
noncomputable def mdX7_isStruck : MD := ([(3, 7), (0, 0)], (0, 0), yX7_isStruck, cX7_isStruck, (2, (some .boolean), 2, 43, []))
-- Floatparade$Songs.left()I
noncomputable def fX7_left_34 (kb : Co) (a1 : Int) (s : St) : Res := some (0, a1, s)
noncomputable def fX7_left_26 (kb : Co) (a0 a2 y0 y1 : Int) (s : St) : Res := kb 4 [(3, 7, a0), (0, 0, (wr (y1 + y0))), (0, 0, (wr (a2 + 1)))] [] s
noncomputable def fX7_left_25 (kb : Co) (a0 a2 y0 : Int) (s : St) : Res := fX7_left_26 kb a0 a2 1 y0 s
noncomputable def fX7_left_4 (kb : Co) (a0 a1 a2 : Int) (s : St) : Res := if a2 < (gm s 7 a0 2) then (bnd (FX7_isStruck a0 a2 s) fun x1 s1 => if x1 = 0 then fX7_left_25 kb a0 a2 a1 s1 else fX7_left_26 kb a0 a2 0 a1 s1) else fX7_left_34 kb a1 s
noncomputable def fX7_left_0 (kb : Co) (a0 : Int) (s : St) : Res := fX7_left_4 kb a0 0 0 s
noncomputable def tX7_left_34 (kb : Co) : List Rw := []
noncomputable def tX7_left_26 (kb : Co) : List Rw := (34, [(7, 0), (0, 0), (7, 0)], [], fun xs ys s => fX7_left_34 kb (xs.getD 0 0) s) :: tX7_left_34 kb
noncomputable def tX7_left_25 (kb : Co) : List Rw := (26, [(3, 7), (7, 0), (0, 0)], [(0, 0), (0, 0)], fun xs ys s => fX7_left_26 kb (xs.getD 0 0) (xs.getD 1 0) (ys.getD 0 0) (ys.getD 1 0) s) :: tX7_left_26 kb
noncomputable def tX7_left_4 (kb : Co) : List Rw := (25, [(3, 7), (7, 0), (0, 0)], [(0, 0)], fun xs ys s => fX7_left_25 kb (xs.getD 0 0) (xs.getD 1 0) (ys.getD 0 0) s) :: tX7_left_25 kb
noncomputable def tX7_left_0 (kb : Co) : List Rw := (4, [(3, 7), (0, 0), (0, 0)], [], fun xs ys s => fX7_left_4 kb (xs.getD 0 0) (xs.getD 1 0) (xs.getD 2 0) s) :: tX7_left_4 kb
noncomputable def rX7_left (kb : Co) : List Rw := (0, [(3, 7), (7, 0), (7, 0)], [], fun xs ys s => fX7_left_0 kb (xs.getD 0 0) s) :: tX7_left_0 kb
noncomputable def kX7_left : Nat → Co
  | 0 => nk
  | n + 1 => fam (rX7_left (kX7_left n)) nk
noncomputable def FX7_left (a0 : Int) (s : St) : Res := fX7_left_0 (kX7_left 9999) a0 s
noncomputable def gX7_left : Fn := fun xs s => FX7_left (xs.getD 0 0) s
noncomputable def mdX7_left : MD := ([(3, 7)], (0, 0), yX7_left, cX7_left, (3, (some .int), 3, 64, []))
-- Floatparade$Songs.chosen()I
noncomputable def fX7_chosen_42 (kb : Co) (a1 : Int) (s : St) : Res := some (0, a1, s)
noncomputable def fX7_chosen_35 (kb : Co) (a0 a2 y0 : Int) (s : St) : Res := kb 14 [(3, 7, a0), (0, 0, y0), (0, 0, (wr (a2 + 1)))] [] s
noncomputable def fX7_chosen_34 (kb : Co) (a0 a2 : Int) (s : St) : Res := fX7_chosen_35 kb a0 a2 a2 s
noncomputable def fX7_chosen_14 (kb : Co) (a0 a1 a2 : Int) (s : St) : Res := if a2 < (gm s 7 a0 2) then (bnd (FX7_isStruck a0 a2 s) fun x1 s1 => if x1 = 0 then fX7_chosen_34 kb a0 a2 s1 else fX7_chosen_35 kb a0 a2 a1 s1) else fX7_chosen_42 kb a1 s
noncomputable def fX7_chosen_10 (kb : Co) (a0 : Int) (s : St) : Res := fX7_chosen_14 kb a0 (-1) 0 s
noncomputable def fX7_chosen_0 (kb : Co) (a0 : Int) (s : St) : Res := bnd (FX7_left a0 s) fun x1 s1 => if x1 = 1 then fX7_chosen_10 kb a0 s1 else some (0, (-1), s1)
noncomputable def tX7_chosen_42 (kb : Co) : List Rw := []
noncomputable def tX7_chosen_35 (kb : Co) : List Rw := (42, [(7, 0), (0, 0), (7, 0)], [], fun xs ys s => fX7_chosen_42 kb (xs.getD 0 0) s) :: tX7_chosen_42 kb
noncomputable def tX7_chosen_34 (kb : Co) : List Rw := (35, [(3, 7), (7, 0), (0, 0)], [(0, 0)], fun xs ys s => fX7_chosen_35 kb (xs.getD 0 0) (xs.getD 1 0) (ys.getD 0 0) s) :: tX7_chosen_35 kb
noncomputable def tX7_chosen_14 (kb : Co) : List Rw := (34, [(3, 7), (7, 0), (0, 0)], [], fun xs ys s => fX7_chosen_34 kb (xs.getD 0 0) (xs.getD 1 0) s) :: tX7_chosen_34 kb
noncomputable def tX7_chosen_10 (kb : Co) : List Rw := (14, [(3, 7), (0, 0), (0, 0)], [], fun xs ys s => fX7_chosen_14 kb (xs.getD 0 0) (xs.getD 1 0) (xs.getD 2 0) s) :: tX7_chosen_14 kb
noncomputable def tX7_chosen_0 (kb : Co) : List Rw := (10, [(3, 7), (7, 0), (7, 0)], [], fun xs ys s => fX7_chosen_10 kb (xs.getD 0 0) s) :: tX7_chosen_10 kb
noncomputable def rX7_chosen (kb : Co) : List Rw := (0, [(3, 7), (7, 0), (7, 0)], [], fun xs ys s => fX7_chosen_0 kb (xs.getD 0 0) s) :: tX7_chosen_0 kb
noncomputable def kX7_chosen : Nat → Co
  | 0 => nk
  | n + 1 => fam (rX7_chosen (kX7_chosen n)) nk
noncomputable def FX7_chosen (a0 : Int) (s : St) : Res := fX7_chosen_0 (kX7_chosen 9999) a0 s
noncomputable def gX7_chosen : Fn := fun xs s => FX7_chosen (xs.getD 0 0) s
noncomputable def mdX7_chosen : MD := ([(3, 7)], (0, 0), yX7_chosen, cX7_chosen, (3, (some .int), 4, 86, []))
-- Floatparade$Society.tell(I)I
noncomputable def fX6_tell_102 (kb : Co) (a0 : Int) (s : St) : Res := some (0, (gm s 5 a0 4), s)
noncomputable def fX6_tell_101 (kb : Co) (y0 : Int) (s : St) : Res := some (0, y0, s)
noncomputable def fX6_tell_100 (kb : Co) (s : St) : Res := fX6_tell_101 kb 0 s
noncomputable def fX6_tell_89 (kb : Co) (a0 : Int) (s : St) : Res := if (gm s 6 a0 15) = 0 then fX6_tell_100 kb s else fX6_tell_101 kb 1 s
noncomputable def fX6_tell_84 (kb : Co) (a0 : Int) (s : St) : Res := some (0, (gm s 6 a0 6), s)
noncomputable def fX6_tell_76 (kb : Co) (a0 : Int) (s : St) : Res := bnd (FX5_points a0 s) fun x1 s1 => some (0, x1, s1)
noncomputable def fX6_tell_71 (kb : Co) (a0 : Int) (s : St) : Res := some (0, (gm s 6 a0 10), s)
noncomputable def fX6_tell_63 (kb : Co) (a0 : Int) (s : St) : Res := bnd (FX7_chosen a0 s) fun x1 s1 => some (0, x1, s1)
noncomputable def fX6_tell_58 (kb : Co) (a0 : Int) (s : St) : Res := some (0, (gm s 6 a0 8), s)
noncomputable def fX6_tell_53 (kb : Co) (a0 : Int) (s : St) : Res := some (0, (gm s 6 a0 1), s)
noncomputable def fX6_tell_48 (kb : Co) (a0 : Int) (s : St) : Res := some (0, (gm s 6 a0 5), s)
noncomputable def fX6_tell_0 (kb : Co) (a0 a1 : Int) (s : St) : Res := if a1 = 0 then fX6_tell_48 kb a0 s else if a1 = 1 then fX6_tell_53 kb a0 s else if a1 = 2 then fX6_tell_58 kb a0 s else if a1 = 3 then fX6_tell_63 kb a0 s else if a1 = 4 then fX6_tell_71 kb a0 s else if a1 = 5 then fX6_tell_76 kb a0 s else if a1 = 6 then fX6_tell_84 kb a0 s else if a1 = 7 then fX6_tell_89 kb a0 s else fX6_tell_102 kb a0 s
noncomputable def tX6_tell_102 (kb : Co) : List Rw := []
noncomputable def tX6_tell_101 (kb : Co) : List Rw := (102, [(3, 6), (7, 0)], [], fun xs ys s => fX6_tell_102 kb (xs.getD 0 0) s) :: tX6_tell_102 kb
noncomputable def tX6_tell_100 (kb : Co) : List Rw := (101, [(7, 0), (7, 0)], [(0, 0)], fun xs ys s => fX6_tell_101 kb (ys.getD 0 0) s) :: tX6_tell_101 kb
noncomputable def tX6_tell_89 (kb : Co) : List Rw := (100, [(7, 0), (7, 0)], [], fun xs ys s => fX6_tell_100 kb s) :: tX6_tell_100 kb
noncomputable def tX6_tell_84 (kb : Co) : List Rw := (89, [(3, 6), (7, 0)], [], fun xs ys s => fX6_tell_89 kb (xs.getD 0 0) s) :: tX6_tell_89 kb
noncomputable def tX6_tell_76 (kb : Co) : List Rw := (84, [(3, 6), (7, 0)], [], fun xs ys s => fX6_tell_84 kb (xs.getD 0 0) s) :: tX6_tell_84 kb
noncomputable def tX6_tell_71 (kb : Co) : List Rw := (76, [(3, 6), (7, 0)], [], fun xs ys s => fX6_tell_76 kb (xs.getD 0 0) s) :: tX6_tell_76 kb
noncomputable def tX6_tell_63 (kb : Co) : List Rw := (71, [(3, 6), (7, 0)], [], fun xs ys s => fX6_tell_71 kb (xs.getD 0 0) s) :: tX6_tell_71 kb
noncomputable def tX6_tell_58 (kb : Co) : List Rw := (63, [(3, 6), (7, 0)], [], fun xs ys s => fX6_tell_63 kb (xs.getD 0 0) s) :: tX6_tell_63 kb
noncomputable def tX6_tell_53 (kb : Co) : List Rw := (58, [(3, 6), (7, 0)], [], fun xs ys s => fX6_tell_58 kb (xs.getD 0 0) s) :: tX6_tell_58 kb
noncomputable def tX6_tell_48 (kb : Co) : List Rw := (53, [(3, 6), (7, 0)], [], fun xs ys s => fX6_tell_53 kb (xs.getD 0 0) s) :: tX6_tell_53 kb
noncomputable def tX6_tell_0 (kb : Co) : List Rw := (48, [(3, 6), (7, 0)], [], fun xs ys s => fX6_tell_48 kb (xs.getD 0 0) s) :: tX6_tell_48 kb
noncomputable def rX6_tell (kb : Co) : List Rw := (0, [(3, 6), (0, 0)], [], fun xs ys s => fX6_tell_0 kb (xs.getD 0 0) (xs.getD 1 0) s) :: tX6_tell_0 kb
noncomputable def kX6_tell : Nat → Co
  | 0 => nk
  | n + 1 => fam (rX6_tell (kX6_tell n)) nk
noncomputable def FX6_tell (a0 a1 : Int) (s : St) : Res := fX6_tell_0 (kX6_tell 0) a0 a1 s
noncomputable def gX6_tell : Fn := fun xs s => FX6_tell (xs.getD 0 0) (xs.getD 1 0) s
noncomputable def mdX6_tell : MD := ([(3, 6), (0, 0)], (0, 0), yX6_tell, cX6_tell, (2, (some .int), 5, 108, []))
-- Floatparade$Songs.clear()V
noncomputable def fX7_clear_0 (kb : Co) (a0 : Int) (s : St) : Res := if (0 : Int) = 0 ∨ (0 : Int) = 1 then some (0, 0, (pm (pm s 7 a0 2 0) 7 a0 3 0)) else none
noncomputable def tX7_clear_0 (kb : Co) : List Rw := []
noncomputable def rX7_clear (kb : Co) : List Rw := (0, [(3, 7)], [], fun xs ys s => fX7_clear_0 kb (xs.getD 0 0) s) :: tX7_clear_0 kb
noncomputable def kX7_clear : Nat → Co
  | 0 => nk
  | n + 1 => fam (rX7_clear (kX7_clear n)) nk
noncomputable def FX7_clear (a0 : Int) (s : St) : Res := fX7_clear_0 (kX7_clear 0) a0 s
noncomputable def gX7_clear : Fn := fun xs s => FX7_clear (xs.getD 0 0) s
noncomputable def mdX7_clear : MD := ([(3, 7)], (9, 0), yX7_clear, cX7_clear, (1, none, 0, 0, []))
-- Floatparade$Society.forgetYear()V
noncomputable def fX6_forgetYear_0 (kb : Co) (a0 : Int) (s : St) : Res := bnd (FX7_clear a0 s) fun _ s1 => bnd (FX5_clear a0 s1) fun _ s2 => if (0 : Int) = 0 ∨ (0 : Int) = 1 then some (0, 0, (pm (pm (pm (pm (pm (pm (pm (pm s2 6 a0 8 0) 6 a0 9 0) 6 a0 10 0) 6 a0 11 0) 6 a0 12 (-1)) 6 a0 13 (-1)) 6 a0 14 0) 6 a0 15 0)) else none
noncomputable def tX6_forgetYear_0 (kb : Co) : List Rw := []
noncomputable def rX6_forgetYear (kb : Co) : List Rw := (0, [(3, 6)], [], fun xs ys s => fX6_forgetYear_0 kb (xs.getD 0 0) s) :: tX6_forgetYear_0 kb
noncomputable def kX6_forgetYear : Nat → Co
  | 0 => nk
  | n + 1 => fam (rX6_forgetYear (kX6_forgetYear n)) nk
noncomputable def FX6_forgetYear (a0 : Int) (s : St) : Res := fX6_forgetYear_0 (kX6_forgetYear 0) a0 s
noncomputable def gX6_forgetYear : Fn := fun xs s => FX6_forgetYear (xs.getD 0 0) s
noncomputable def mdX6_forgetYear : MD := ([(3, 6)], (9, 0), yX6_forgetYear, cX6_forgetYear, (1, none, 1, 21, []))
-- Floatparade$Songs.mayGrow()Z
noncomputable def fX7_mayGrow_21 (kb : Co) (y0 : Int) (s : St) : Res := if (y0 : Int) = 0 ∨ (y0 : Int) = 1 then some (0, y0, s) else none
noncomputable def fX7_mayGrow_20 (kb : Co) (s : St) : Res := fX7_mayGrow_21 kb 0 s
noncomputable def fX7_mayGrow_0 (kb : Co) (a0 : Int) (s : St) : Res := if (gm s 7 a0 2) < 6 then (if (gm s 7 a0 3) = 0 then fX7_mayGrow_21 kb 1 s else fX7_mayGrow_20 kb s) else fX7_mayGrow_20 kb s
noncomputable def tX7_mayGrow_21 (kb : Co) : List Rw := []
noncomputable def tX7_mayGrow_20 (kb : Co) : List Rw := (21, [(7, 0)], [(0, 0)], fun xs ys s => fX7_mayGrow_21 kb (ys.getD 0 0) s) :: tX7_mayGrow_21 kb
noncomputable def tX7_mayGrow_0 (kb : Co) : List Rw := (20, [(7, 0)], [], fun xs ys s => fX7_mayGrow_20 kb s) :: tX7_mayGrow_20 kb
noncomputable def rX7_mayGrow (kb : Co) : List Rw := (0, [(3, 7)], [], fun xs ys s => fX7_mayGrow_0 kb (xs.getD 0 0) s) :: tX7_mayGrow_0 kb
noncomputable def kX7_mayGrow : Nat → Co
  | 0 => nk
  | n + 1 => fam (rX7_mayGrow (kX7_mayGrow n)) nk
noncomputable def FX7_mayGrow (a0 : Int) (s : St) : Res := fX7_mayGrow_0 (kX7_mayGrow 0) a0 s
noncomputable def gX7_mayGrow : Fn := fun xs s => FX7_mayGrow (xs.getD 0 0) s
noncomputable def mdX7_mayGrow : MD := ([(3, 7)], (0, 0), yX7_mayGrow, cX7_mayGrow, (1, (some .boolean), 0, 0, []))
-- Floatparade$Songs.add()I
noncomputable def fX7_add_37 (kb : Co) (a1 : Int) (s : St) : Res := some (0, a1, s)
noncomputable def fX7_add_0 (kb : Co) (a0 : Int) (s : St) : Res := bnd (FX7_has a0 (gm s 7 a0 2) (pm s 7 a0 2 (wr ((gm s 7 a0 2) + 1)))) fun x1 s1 => if x1 = 0 then fX7_add_37 kb (gm s 7 a0 2) s1 else if 0 ≤ (gm s 7 a0 2) ∧ (gm s 7 a0 2) < 6 then if (0 ≤ (gm s 7 a0 2) ∧ (gm s 7 a0 2) < 6) ∧ ((0 : Int) = 0 ∨ (0 : Int) = 1) then fX7_add_37 kb (gm s 7 a0 2) (pm (pm s1 16 a0 (gm s 7 a0 2) 0) 17 a0 (gm s 7 a0 2) 0) else none else none
noncomputable def tX7_add_37 (kb : Co) : List Rw := []
noncomputable def tX7_add_0 (kb : Co) : List Rw := (37, [(7, 0), (0, 0)], [], fun xs ys s => fX7_add_37 kb (xs.getD 0 0) s) :: tX7_add_37 kb
noncomputable def rX7_add (kb : Co) : List Rw := (0, [(3, 7), (7, 0)], [], fun xs ys s => fX7_add_0 kb (xs.getD 0 0) s) :: tX7_add_0 kb
noncomputable def kX7_add : Nat → Co
  | 0 => nk
  | n + 1 => fam (rX7_add (kX7_add n)) nk
noncomputable def FX7_add (a0 : Int) (s : St) : Res := fX7_add_0 (kX7_add 0) a0 s
noncomputable def gX7_add : Fn := fun xs s => FX7_add (xs.getD 0 0) s
noncomputable def mdX7_add : MD := ([(3, 7)], (0, 0), yX7_add, cX7_add, (2, (some .int), 2, 43, []))
-- Floatparade$Songs.addVotes(II)I
noncomputable def fX7_addVotes_10 (kb : Co) (a0 a1 a2 : Int) (s : St) : Res := if 0 ≤ a1 ∧ a1 < 6 then if 0 ≤ a1 ∧ a1 < 6 then if 0 ≤ a1 ∧ a1 < 6 then some (0, (gm (pm s 16 a0 a1 (wr ((gm s 16 a0 a1) + a2))) 16 a0 a1), (pm s 16 a0 a1 (wr ((gm s 16 a0 a1) + a2)))) else none else none else none
noncomputable def fX7_addVotes_0 (kb : Co) (a0 a1 a2 : Int) (s : St) : Res := bnd (FX7_has a0 a1 s) fun x1 s1 => if x1 = 0 then some (0, 0, s1) else fX7_addVotes_10 kb a0 a1 a2 s1
noncomputable def tX7_addVotes_10 (kb : Co) : List Rw := []
noncomputable def tX7_addVotes_0 (kb : Co) : List Rw := (10, [(3, 7), (0, 0), (0, 0)], [], fun xs ys s => fX7_addVotes_10 kb (xs.getD 0 0) (xs.getD 1 0) (xs.getD 2 0) s) :: tX7_addVotes_10 kb
noncomputable def rX7_addVotes (kb : Co) : List Rw := (0, [(3, 7), (0, 0), (0, 0)], [], fun xs ys s => fX7_addVotes_0 kb (xs.getD 0 0) (xs.getD 1 0) (xs.getD 2 0) s) :: tX7_addVotes_0 kb
noncomputable def kX7_addVotes : Nat → Co
  | 0 => nk
  | n + 1 => fam (rX7_addVotes (kX7_addVotes n)) nk
noncomputable def FX7_addVotes (a0 a1 a2 : Int) (s : St) : Res := fX7_addVotes_0 (kX7_addVotes 0) a0 a1 a2 s
noncomputable def gX7_addVotes : Fn := fun xs s => FX7_addVotes (xs.getD 0 0) (xs.getD 1 0) (xs.getD 2 0) s
noncomputable def mdX7_addVotes : MD := ([(3, 7), (0, 0), (0, 0)], (0, 0), yX7_addVotes, cX7_addVotes, (3, (some .int), 2, 43, []))
-- Floatparade$Songs.strikeWeakest()I
noncomputable def fX7_strikeWeakest_99 (kb : Co) (a0 a1 : Int) (s : St) : Res := if (1 : Int) = 0 ∨ (1 : Int) = 1 then some (0, a1, (pm s 7 a0 3 1)) else none
noncomputable def fX7_strikeWeakest_77 (kb : Co) (a0 a1 a2 : Int) (s : St) : Res := if a2 < 6 then (if 0 ≤ a2 ∧ a2 < 6 then kb 77 [(3, 7, a0), (0, 0, a1), (0, 0, (wr (a2 + 1)))] [] (pm s 16 a0 a2 0) else none) else fX7_strikeWeakest_99 kb a0 a1 s
noncomputable def fX7_strikeWeakest_75 (kb : Co) (a0 a1 : Int) (s : St) : Res := fX7_strikeWeakest_77 kb a0 a1 0 s
noncomputable def fX7_strikeWeakest_60 (kb : Co) (a0 a1 : Int) (s : St) : Res := bnd (FX7_has a0 a1 s) fun x1 s1 => if x1 = 0 then fX7_strikeWeakest_75 kb a0 a1 s1 else if (0 ≤ a1 ∧ a1 < 6) ∧ ((1 : Int) = 0 ∨ (1 : Int) = 1) then fX7_strikeWeakest_75 kb a0 a1 (pm s1 17 a0 a1 1) else none
noncomputable def fX7_strikeWeakest_54 (kb : Co) (a0 a1 a2 : Int) (s : St) : Res := kb 4 [(3, 7, a0), (0, 0, a1), (0, 0, (wr (a2 + 1)))] [] s
noncomputable def fX7_strikeWeakest_52 (kb : Co) (a0 a2 : Int) (s : St) : Res := fX7_strikeWeakest_54 kb a0 a2 a2 s
noncomputable def fX7_strikeWeakest_4 (kb : Co) (a0 a1 a2 : Int) (s : St) : Res := if a2 < (gm s 7 a0 2) then (bnd (FX7_has a0 a2 s) fun x1 s1 => if x1 = 0 then fX7_strikeWeakest_54 kb a0 a1 a2 s1 else if 0 ≤ a2 ∧ a2 < 6 then if (gm s1 17 a0 a2) = 0 then (bnd (FX7_has a0 a1 s1) fun x2 s2 => if x2 = 0 then fX7_strikeWeakest_52 kb a0 a2 s2 else if 0 ≤ a2 ∧ a2 < 6 then if 0 ≤ a1 ∧ a1 < 6 then if (gm s2 16 a0 a1) < (gm s2 16 a0 a2) then fX7_strikeWeakest_54 kb a0 a1 a2 s2 else fX7_strikeWeakest_52 kb a0 a2 s2 else none else none) else fX7_strikeWeakest_54 kb a0 a1 a2 s1 else none) else fX7_strikeWeakest_60 kb a0 a1 s
noncomputable def fX7_strikeWeakest_0 (kb : Co) (a0 : Int) (s : St) : Res := fX7_strikeWeakest_4 kb a0 (-1) 0 s
noncomputable def tX7_strikeWeakest_99 (kb : Co) : List Rw := []
noncomputable def tX7_strikeWeakest_77 (kb : Co) : List Rw := (99, [(3, 7), (0, 0), (7, 0)], [], fun xs ys s => fX7_strikeWeakest_99 kb (xs.getD 0 0) (xs.getD 1 0) s) :: tX7_strikeWeakest_99 kb
noncomputable def tX7_strikeWeakest_75 (kb : Co) : List Rw := (77, [(3, 7), (0, 0), (0, 0)], [], fun xs ys s => fX7_strikeWeakest_77 kb (xs.getD 0 0) (xs.getD 1 0) (xs.getD 2 0) s) :: tX7_strikeWeakest_77 kb
noncomputable def tX7_strikeWeakest_60 (kb : Co) : List Rw := (75, [(3, 7), (0, 0), (7, 0)], [], fun xs ys s => fX7_strikeWeakest_75 kb (xs.getD 0 0) (xs.getD 1 0) s) :: tX7_strikeWeakest_75 kb
noncomputable def tX7_strikeWeakest_54 (kb : Co) : List Rw := (60, [(3, 7), (0, 0), (7, 0)], [], fun xs ys s => fX7_strikeWeakest_60 kb (xs.getD 0 0) (xs.getD 1 0) s) :: tX7_strikeWeakest_60 kb
noncomputable def tX7_strikeWeakest_52 (kb : Co) : List Rw := (54, [(3, 7), (0, 0), (0, 0)], [], fun xs ys s => fX7_strikeWeakest_54 kb (xs.getD 0 0) (xs.getD 1 0) (xs.getD 2 0) s) :: tX7_strikeWeakest_54 kb
noncomputable def tX7_strikeWeakest_4 (kb : Co) : List Rw := (52, [(3, 7), (7, 0), (0, 0)], [], fun xs ys s => fX7_strikeWeakest_52 kb (xs.getD 0 0) (xs.getD 1 0) s) :: tX7_strikeWeakest_52 kb
noncomputable def tX7_strikeWeakest_0 (kb : Co) : List Rw := (4, [(3, 7), (0, 0), (0, 0)], [], fun xs ys s => fX7_strikeWeakest_4 kb (xs.getD 0 0) (xs.getD 1 0) (xs.getD 2 0) s) :: tX7_strikeWeakest_4 kb
noncomputable def rX7_strikeWeakest (kb : Co) : List Rw := (0, [(3, 7), (7, 0), (7, 0)], [], fun xs ys s => fX7_strikeWeakest_0 kb (xs.getD 0 0) s) :: tX7_strikeWeakest_0 kb
noncomputable def kX7_strikeWeakest : Nat → Co
  | 0 => nk
  | n + 1 => fam (rX7_strikeWeakest (kX7_strikeWeakest n)) nk
noncomputable def FX7_strikeWeakest (a0 : Int) (s : St) : Res := fX7_strikeWeakest_0 (kX7_strikeWeakest 9999) a0 s
noncomputable def gX7_strikeWeakest : Fn := fun xs s => FX7_strikeWeakest (xs.getD 0 0) s
noncomputable def mdX7_strikeWeakest : MD := ([(3, 7)], (0, 0), yX7_strikeWeakest, cX7_strikeWeakest, (3, (some .int), 2, 43, []))
-- Floatparade$Street.joins(II)Z
noncomputable def fX8_joins_37 (kb : Co) (y0 : Int) (s : St) : Res := if (y0 : Int) = 0 ∨ (y0 : Int) = 1 then some (0, y0, s) else none
noncomputable def fX8_joins_36 (kb : Co) (s : St) : Res := fX8_joins_37 kb 0 s
noncomputable def fX8_joins_32 (kb : Co) (s : St) : Res := fX8_joins_37 kb 1 s
noncomputable def fX8_joins_16 (kb : Co) (a0 a1 a2 : Int) (s : St) : Res := if (gm s 8 a0 0) = a2 then (if (gm s 8 a0 1) = a1 then fX8_joins_32 kb s else fX8_joins_36 kb s) else fX8_joins_36 kb s
noncomputable def fX8_joins_0 (kb : Co) (a0 a1 a2 : Int) (s : St) : Res := if (gm s 8 a0 0) = a1 then (if (gm s 8 a0 1) = a2 then fX8_joins_32 kb s else fX8_joins_16 kb a0 a1 a2 s) else fX8_joins_16 kb a0 a1 a2 s
noncomputable def tX8_joins_37 (kb : Co) : List Rw := []
noncomputable def tX8_joins_36 (kb : Co) : List Rw := (37, [(7, 0), (7, 0), (7, 0)], [(0, 0)], fun xs ys s => fX8_joins_37 kb (ys.getD 0 0) s) :: tX8_joins_37 kb
noncomputable def tX8_joins_32 (kb : Co) : List Rw := (36, [(7, 0), (7, 0), (7, 0)], [], fun xs ys s => fX8_joins_36 kb s) :: tX8_joins_36 kb
noncomputable def tX8_joins_16 (kb : Co) : List Rw := (32, [(7, 0), (7, 0), (7, 0)], [], fun xs ys s => fX8_joins_32 kb s) :: tX8_joins_32 kb
noncomputable def tX8_joins_0 (kb : Co) : List Rw := (16, [(3, 8), (0, 0), (0, 0)], [], fun xs ys s => fX8_joins_16 kb (xs.getD 0 0) (xs.getD 1 0) (xs.getD 2 0) s) :: tX8_joins_16 kb
noncomputable def rX8_joins (kb : Co) : List Rw := (0, [(3, 8), (0, 0), (0, 0)], [], fun xs ys s => fX8_joins_0 kb (xs.getD 0 0) (xs.getD 1 0) (xs.getD 2 0) s) :: tX8_joins_0 kb
noncomputable def kX8_joins : Nat → Co
  | 0 => nk
  | n + 1 => fam (rX8_joins (kX8_joins n)) nk
noncomputable def FX8_joins (a0 a1 a2 : Int) (s : St) : Res := fX8_joins_0 (kX8_joins 0) a0 a1 a2 s
noncomputable def gX8_joins : Fn := fun xs s => FX8_joins (xs.getD 0 0) (xs.getD 1 0) (xs.getD 2 0) s
noncomputable def mdX8_joins : MD := ([(3, 8), (0, 0), (0, 0)], (0, 0), yX8_joins, cX8_joins, (3, (some .boolean), 0, 0, []))
-- Floatparade$Town.isFull()Z
noncomputable def fX9_isFull_17 (kb : Co) (y0 : Int) (s : St) : Res := if (y0 : Int) = 0 ∨ (y0 : Int) = 1 then some (0, y0, s) else none
noncomputable def fX9_isFull_16 (kb : Co) (s : St) : Res := fX9_isFull_17 kb 0 s
noncomputable def fX9_isFull_0 (kb : Co) (a0 : Int) (s : St) : Res := if (gm s 9 a0 2) < 16 then fX9_isFull_16 kb s else fX9_isFull_17 kb 1 s
noncomputable def tX9_isFull_17 (kb : Co) : List Rw := []
noncomputable def tX9_isFull_16 (kb : Co) : List Rw := (17, [(7, 0)], [(0, 0)], fun xs ys s => fX9_isFull_17 kb (ys.getD 0 0) s) :: tX9_isFull_17 kb
noncomputable def tX9_isFull_0 (kb : Co) : List Rw := (16, [(7, 0)], [], fun xs ys s => fX9_isFull_16 kb s) :: tX9_isFull_16 kb
noncomputable def rX9_isFull (kb : Co) : List Rw := (0, [(3, 9)], [], fun xs ys s => fX9_isFull_0 kb (xs.getD 0 0) s) :: tX9_isFull_0 kb
noncomputable def kX9_isFull : Nat → Co
  | 0 => nk
  | n + 1 => fam (rX9_isFull (kX9_isFull n)) nk
noncomputable def FX9_isFull (a0 : Int) (s : St) : Res := fX9_isFull_0 (kX9_isFull 0) a0 s
noncomputable def gX9_isFull : Fn := fun xs s => FX9_isFull (xs.getD 0 0) s
noncomputable def mdX9_isFull : MD := ([(3, 9)], (0, 0), yX9_isFull, cX9_isFull, (1, (some .boolean), 0, 0, []))
-- Floatparade$Town.between(II)LFloatparade$Street;
noncomputable def fX9_between_43 (kb : Co) (s : St) : Res := some (0, (-1), s)
noncomputable def fX9_between_37 (kb : Co) (a0 a1 a2 a3 : Int) (s : St) : Res := kb 2 [(3, 9, a0), (0, 0, a1), (0, 0, a2), (0, 0, (wr (a3 + 1))), (7, 0, 0)] [] s
noncomputable def fX9_between_2 (kb : Co) (a0 a1 a2 a3 : Int) (s : St) : Res := if a3 < 16 then (if 0 ≤ a3 ∧ a3 < 16 then if (gm s 22 a0 a3) = (-1) then fX9_between_37 kb a0 a1 a2 a3 s else if 0 ≤ (gm s 22 a0 a3) then bnd (FX8_joins (gm s 22 a0 a3) a1 a2 s) fun x1 s1 => if x1 = 0 then fX9_between_37 kb a0 a1 a2 a3 s1 else some (0, (gm s 22 a0 a3), s1) else none else none) else fX9_between_43 kb s
noncomputable def fX9_between_0 (kb : Co) (a0 a1 a2 : Int) (s : St) : Res := fX9_between_2 kb a0 a1 a2 0 s
noncomputable def tX9_between_43 (kb : Co) : List Rw := []
noncomputable def tX9_between_37 (kb : Co) : List Rw := (43, [(7, 0), (7, 0), (7, 0), (7, 0), (7, 0)], [], fun xs ys s => fX9_between_43 kb s) :: tX9_between_43 kb
noncomputable def tX9_between_2 (kb : Co) : List Rw := (37, [(3, 9), (0, 0), (0, 0), (0, 0), (7, 0)], [], fun xs ys s => fX9_between_37 kb (xs.getD 0 0) (xs.getD 1 0) (xs.getD 2 0) (xs.getD 3 0) s) :: tX9_between_37 kb
noncomputable def tX9_between_0 (kb : Co) : List Rw := (2, [(3, 9), (0, 0), (0, 0), (0, 0), (7, 0)], [], fun xs ys s => fX9_between_2 kb (xs.getD 0 0) (xs.getD 1 0) (xs.getD 2 0) (xs.getD 3 0) s) :: tX9_between_2 kb
noncomputable def rX9_between (kb : Co) : List Rw := (0, [(3, 9), (0, 0), (0, 0), (7, 0), (7, 0)], [], fun xs ys s => fX9_between_0 kb (xs.getD 0 0) (xs.getD 1 0) (xs.getD 2 0) s) :: tX9_between_0 kb
noncomputable def kX9_between : Nat → Co
  | 0 => nk
  | n + 1 => fam (rX9_between (kX9_between n)) nk
noncomputable def FX9_between (a0 a1 a2 : Int) (s : St) : Res := fX9_between_0 (kX9_between 9999) a0 a1 a2 s
noncomputable def gX9_between : Fn := fun xs s => FX9_between (xs.getD 0 0) (xs.getD 1 0) (xs.getD 2 0) s
noncomputable def mdX9_between : MD := ([(3, 9), (0, 0), (0, 0)], (2, 8), yX9_between, cX9_between, (5, (some (.object "Floatparade$Street")), 1, 22, []))
-- Floatparade$Town.lay(LFloatparade$Street;)I
noncomputable def fX9_lay_38 (kb : Co) (a0 : Int) (s : St) : Res := some (0, (gm s 9 a0 2), s)
noncomputable def fX9_lay_0 (kb : Co) (a0 a1 : Int) (s : St) : Res := bnd (FX11_isWithin (gm s 9 a0 2) 0 (wr (16 - 1)) s) fun x1 s1 => if x1 = 0 then fX9_lay_38 kb a0 s1 else if 0 ≤ (gm s1 9 a0 2) ∧ (gm s1 9 a0 2) < 16 then fX9_lay_38 kb a0 (pm (pm s1 22 a0 (gm s1 9 a0 2) a1) 9 a0 2 (wr ((gm (pm s1 22 a0 (gm s1 9 a0 2) a1) 9 a0 2) + 1))) else none
noncomputable def tX9_lay_38 (kb : Co) : List Rw := []
noncomputable def tX9_lay_0 (kb : Co) : List Rw := (38, [(3, 9), (7, 0)], [], fun xs ys s => fX9_lay_38 kb (xs.getD 0 0) s) :: tX9_lay_38 kb
noncomputable def rX9_lay (kb : Co) : List Rw := (0, [(3, 9), (2, 8)], [], fun xs ys s => fX9_lay_0 kb (xs.getD 0 0) (xs.getD 1 0) s) :: tX9_lay_0 kb
noncomputable def kX9_lay : Nat → Co
  | 0 => nk
  | n + 1 => fam (rX9_lay (kX9_lay n)) nk
noncomputable def FX9_lay (a0 a1 : Int) (s : St) : Res := fX9_lay_0 (kX9_lay 0) a0 a1 s
noncomputable def gX9_lay : Fn := fun xs s => FX9_lay (xs.getD 0 0) (xs.getD 1 0) s
noncomputable def mdX9_lay : MD := ([(3, 9), (2, 8)], (0, 0), yX9_lay, cX9_lay, (2, (some .int), 1, 22, []))
-- Floatparade$Town.setJury(IZ)Z
noncomputable def fX9_setJury_28 (kb : Co) (a3 : Int) (s : St) : Res := if (a3 : Int) = 0 ∨ (a3 : Int) = 1 then some (0, a3, s) else none
noncomputable def fX9_setJury_0 (kb : Co) (a0 a1 a2 : Int) (s : St) : Res := bnd (FX9_hasJury a0 a1 s) fun x1 s1 => bnd (FX11_isWithin a1 0 (wr (12 - 1)) s1) fun x2 s2 => if x2 = 0 then fX9_setJury_28 kb x1 s2 else if (0 ≤ a1 ∧ a1 < 12) ∧ ((a2 : Int) = 0 ∨ (a2 : Int) = 1) then fX9_setJury_28 kb x1 (pm s2 23 a0 a1 a2) else none
noncomputable def tX9_setJury_28 (kb : Co) : List Rw := []
noncomputable def tX9_setJury_0 (kb : Co) : List Rw := (28, [(7, 0), (7, 0), (7, 0), (0, 0)], [], fun xs ys s => fX9_setJury_28 kb (xs.getD 0 0) s) :: tX9_setJury_28 kb
noncomputable def rX9_setJury (kb : Co) : List Rw := (0, [(3, 9), (0, 0), (0, 0), (7, 0)], [], fun xs ys s => fX9_setJury_0 kb (xs.getD 0 0) (xs.getD 1 0) (xs.getD 2 0) s) :: tX9_setJury_0 kb
noncomputable def kX9_setJury : Nat → Co
  | 0 => nk
  | n + 1 => fam (rX9_setJury (kX9_setJury n)) nk
noncomputable def FX9_setJury (a0 a1 a2 : Int) (s : St) : Res := fX9_setJury_0 (kX9_setJury 0) a0 a1 a2 s
noncomputable def gX9_setJury : Fn := fun xs s => FX9_setJury (xs.getD 0 0) (xs.getD 1 0) (xs.getD 2 0) s
noncomputable def mdX9_setJury : MD := ([(3, 9), (0, 0), (0, 0)], (0, 0), yX9_setJury, cX9_setJury, (4, (some .boolean), 2, 43, []))
-- Floatparade$Wagon.sum()I
noncomputable def fX10_sum_0 (kb : Co) (a0 : Int) (s : St) : Res := some (0, (wr ((wr ((wr ((gm s 10 a0 0) + (gm s 10 a0 1))) + (gm s 10 a0 2))) + (gm s 10 a0 3))), s)
noncomputable def tX10_sum_0 (kb : Co) : List Rw := []
noncomputable def rX10_sum (kb : Co) : List Rw := (0, [(3, 10)], [], fun xs ys s => fX10_sum_0 kb (xs.getD 0 0) s) :: tX10_sum_0 kb
noncomputable def kX10_sum : Nat → Co
  | 0 => nk
  | n + 1 => fam (rX10_sum (kX10_sum n)) nk
noncomputable def FX10_sum (a0 : Int) (s : St) : Res := fX10_sum_0 (kX10_sum 0) a0 s
noncomputable def gX10_sum : Fn := fun xs s => FX10_sum (xs.getD 0 0) s
noncomputable def mdX10_sum : MD := ([(3, 10)], (0, 0), yX10_sum, cX10_sum, (1, (some .int), 0, 0, []))
-- Floatparade$Wagon.shrink(IIII)I
noncomputable def fX10_shrink_0 (kb : Co) (a0 a1 a2 a3 a4 : Int) (s : St) : Res := bnd (FX10_sum a0 s) fun x1 s1 => bnd (FX10_sum a0 (pm (pm (pm (pm s1 10 a0 0 a1) 10 a0 1 a2) 10 a0 2 a3) 10 a0 3 a4)) fun x2 s2 => some (0, (wr (x1 - x2)), s2)
noncomputable def tX10_shrink_0 (kb : Co) : List Rw := []
noncomputable def rX10_shrink (kb : Co) : List Rw := (0, [(3, 10), (0, 0), (0, 0), (0, 0), (0, 0), (7, 0)], [], fun xs ys s => fX10_shrink_0 kb (xs.getD 0 0) (xs.getD 1 0) (xs.getD 2 0) (xs.getD 3 0) (xs.getD 4 0) s) :: tX10_shrink_0 kb
noncomputable def kX10_shrink : Nat → Co
  | 0 => nk
  | n + 1 => fam (rX10_shrink (kX10_shrink n)) nk
noncomputable def FX10_shrink (a0 a1 a2 a3 a4 : Int) (s : St) : Res := fX10_shrink_0 (kX10_shrink 0) a0 a1 a2 a3 a4 s
noncomputable def gX10_shrink : Fn := fun xs s => FX10_shrink (xs.getD 0 0) (xs.getD 1 0) (xs.getD 2 0) (xs.getD 3 0) (xs.getD 4 0) s
noncomputable def mdX10_shrink : MD := ([(3, 10), (0, 0), (0, 0), (0, 0), (0, 0)], (0, 0), yX10_shrink, cX10_shrink, (6, (some .int), 1, 20, []))
-- Floatparade.isLeague(I)Z
noncomputable def fX11_isLeague_0 (kb : Co) (a0 : Int) (s : St) : Res := bnd (FX11_isWithin a0 0 1 s) fun x1 s1 => if (x1 : Int) = 0 ∨ (x1 : Int) = 1 then some (0, x1, s1) else none
noncomputable def tX11_isLeague_0 (kb : Co) : List Rw := []
noncomputable def rX11_isLeague (kb : Co) : List Rw := (0, [(0, 0)], [], fun xs ys s => fX11_isLeague_0 kb (xs.getD 0 0) s) :: tX11_isLeague_0 kb
noncomputable def kX11_isLeague : Nat → Co
  | 0 => nk
  | n + 1 => fam (rX11_isLeague (kX11_isLeague n)) nk
noncomputable def FX11_isLeague (a0 : Int) (s : St) : Res := fX11_isLeague_0 (kX11_isLeague 0) a0 s
noncomputable def gX11_isLeague : Fn := fun xs s => FX11_isLeague (xs.getD 0 0) s
noncomputable def mdX11_isLeague : MD := ([(0, 0)], (0, 0), yX11_isLeague, cX11_isLeague, (1, (some .boolean), 1, 22, []))
-- Floatparade.society(II)I
noncomputable def fX11_society_56 (kb : Co) (a0 a1 a2 a3 : Int) (s : St) : Res := if 0 ≤ a3 ∧ a3 < 10 then some (0, a3, (pm (pm (alc 6 [a3, a1, a2] s) 13 a0 a3 (s.2 6)) 11 a0 3 (wr (a3 + 1)))) else none
noncomputable def fX11_society_46 (kb : Co) (s : St) : Res := some (2, 0, thw s)
noncomputable def fX11_society_28 (kb : Co) (a0 a1 a2 : Int) (s : St) : Res := if (gm s 11 a0 3) < 0 then fX11_society_46 kb s else if (gm s 11 a0 3) < 10 then fX11_society_56 kb a0 a1 a2 (gm s 11 a0 3) s else fX11_society_46 kb s
noncomputable def fX11_society_18 (kb : Co) (s : St) : Res := some (1, 0, thw s)
noncomputable def fX11_society_0 (kb : Co) (a0 a1 a2 : Int) (s : St) : Res := bnd (FX11_isLeague a1 s) fun x1 s1 => if x1 = 0 then fX11_society_18 kb s1 else bnd (FX11_isWithin a2 1 200 s1) fun x2 s2 => if x2 = 0 then fX11_society_18 kb s2 else fX11_society_28 kb a0 a1 a2 s2
noncomputable def tX11_society_56 (kb : Co) : List Rw := []
noncomputable def tX11_society_46 (kb : Co) : List Rw := (56, [(3, 11), (0, 0), (0, 0), (0, 0)], [], fun xs ys s => fX11_society_56 kb (xs.getD 0 0) (xs.getD 1 0) (xs.getD 2 0) (xs.getD 3 0) s) :: tX11_society_56 kb
noncomputable def tX11_society_28 (kb : Co) : List Rw := (46, [(7, 0), (7, 0), (7, 0), (7, 0)], [], fun xs ys s => fX11_society_46 kb s) :: tX11_society_46 kb
noncomputable def tX11_society_18 (kb : Co) : List Rw := (28, [(3, 11), (0, 0), (0, 0), (7, 0)], [], fun xs ys s => fX11_society_28 kb (xs.getD 0 0) (xs.getD 1 0) (xs.getD 2 0) s) :: tX11_society_28 kb
noncomputable def tX11_society_0 (kb : Co) : List Rw := (18, [(7, 0), (7, 0), (7, 0), (7, 0)], [], fun xs ys s => fX11_society_18 kb s) :: tX11_society_18 kb
noncomputable def rX11_society (kb : Co) : List Rw := (0, [(3, 11), (0, 0), (0, 0), (7, 0)], [], fun xs ys s => fX11_society_0 kb (xs.getD 0 0) (xs.getD 1 0) (xs.getD 2 0) s) :: tX11_society_0 kb
noncomputable def kX11_society : Nat → Co
  | 0 => nk
  | n + 1 => fam (rX11_society (kX11_society n)) nk
noncomputable def FX11_society (a0 a1 a2 : Int) (s : St) : Res := fX11_society_0 (kX11_society 0) a0 a1 a2 s
noncomputable def gX11_society : Fn := fun xs s => FX11_society (xs.getD 0 0) (xs.getD 1 0) (xs.getD 2 0) s
noncomputable def mdX11_society : MD := ([(3, 11), (0, 0), (0, 0)], (0, 0), yX11_society, cX11_society, (4, (some .int), 6, 90, []))
-- Floatparade.societyAt(I)LFloatparade$Society;
noncomputable def fX11_societyAt_25 (kb : Co) (y0 : Int) (s : St) : Res := some (0, y0, s)
noncomputable def fX11_societyAt_24 (kb : Co) (s : St) : Res := fX11_societyAt_25 kb (-1) s
noncomputable def fX11_societyAt_0 (kb : Co) (a0 a1 : Int) (s : St) : Res := bnd (FX11_isWithin a1 0 (wr (10 - 1)) s) fun x1 s1 => if x1 = 0 then fX11_societyAt_24 kb s1 else if 0 ≤ a1 ∧ a1 < 10 then fX11_societyAt_25 kb (gm s1 13 a0 a1) s1 else none
noncomputable def tX11_societyAt_25 (kb : Co) : List Rw := []
noncomputable def tX11_societyAt_24 (kb : Co) : List Rw := (25, [(7, 0), (7, 0)], [(2, 6)], fun xs ys s => fX11_societyAt_25 kb (ys.getD 0 0) s) :: tX11_societyAt_25 kb
noncomputable def tX11_societyAt_0 (kb : Co) : List Rw := (24, [(7, 0), (7, 0)], [], fun xs ys s => fX11_societyAt_24 kb s) :: tX11_societyAt_24 kb
noncomputable def rX11_societyAt (kb : Co) : List Rw := (0, [(3, 11), (0, 0)], [], fun xs ys s => fX11_societyAt_0 kb (xs.getD 0 0) (xs.getD 1 0) s) :: tX11_societyAt_0 kb
noncomputable def kX11_societyAt : Nat → Co
  | 0 => nk
  | n + 1 => fam (rX11_societyAt (kX11_societyAt n)) nk
noncomputable def FX11_societyAt (a0 a1 : Int) (s : St) : Res := fX11_societyAt_0 (kX11_societyAt 0) a0 a1 s
noncomputable def gX11_societyAt : Fn := fun xs s => FX11_societyAt (xs.getD 0 0) (xs.getD 1 0) s
noncomputable def mdX11_societyAt : MD := ([(3, 11), (0, 0)], (2, 6), yX11_societyAt, cX11_societyAt, (2, (some (.object "Floatparade$Society")), 1, 22, []))
-- Floatparade.feud(IIZ)Z
noncomputable def fX11_feud_49 (kb : Co) (a3 a4 a5 : Int) (s : St) : Res := if 0 ≤ a4 then bnd (FX6_hasFeudWith a4 a5 s) fun x1 s1 => if 0 ≤ a4 then bnd (FX6_setFeud a4 a5 a3 s1) fun _ s2 => if 0 ≤ a5 then bnd (FX6_setFeud a5 a4 a3 s2) fun _ s3 => if (x1 : Int) = 0 ∨ (x1 : Int) = 1 then some (0, x1, s3) else none else none else none else none
noncomputable def fX11_feud_34 (kb : Co) (a1 a2 a3 a4 a5 : Int) (s : St) : Res := if a1 = a2 then some (1, 0, thw s) else fX11_feud_49 kb a3 a4 a5 s
noncomputable def fX11_feud_24 (kb : Co) (s : St) : Res := some (3, 0, thw s)
noncomputable def fX11_feud_0 (kb : Co) (a0 a1 a2 a3 : Int) (s : St) : Res := bnd (FX11_societyAt a0 a1 s) fun x1 s1 => bnd (FX11_societyAt a0 a2 s1) fun x2 s2 => if x1 = (-1) then fX11_feud_24 kb s2 else if x2 = (-1) then fX11_feud_24 kb s2 else fX11_feud_34 kb a1 a2 a3 x1 x2 s2
noncomputable def tX11_feud_49 (kb : Co) : List Rw := []
noncomputable def tX11_feud_34 (kb : Co) : List Rw := (49, [(7, 0), (7, 0), (7, 0), (0, 0), (2, 6), (2, 6), (7, 0)], [], fun xs ys s => fX11_feud_49 kb (xs.getD 0 0) (xs.getD 1 0) (xs.getD 2 0) s) :: tX11_feud_49 kb
noncomputable def tX11_feud_24 (kb : Co) : List Rw := (34, [(7, 0), (0, 0), (0, 0), (0, 0), (2, 6), (2, 6), (7, 0)], [], fun xs ys s => fX11_feud_34 kb (xs.getD 0 0) (xs.getD 1 0) (xs.getD 2 0) (xs.getD 3 0) (xs.getD 4 0) s) :: tX11_feud_34 kb
noncomputable def tX11_feud_0 (kb : Co) : List Rw := (24, [(7, 0), (7, 0), (7, 0), (7, 0), (7, 0), (7, 0), (7, 0)], [], fun xs ys s => fX11_feud_24 kb s) :: tX11_feud_24 kb
noncomputable def rX11_feud (kb : Co) : List Rw := (0, [(3, 11), (0, 0), (0, 0), (0, 0), (7, 0), (7, 0), (7, 0)], [], fun xs ys s => fX11_feud_0 kb (xs.getD 0 0) (xs.getD 1 0) (xs.getD 2 0) (xs.getD 3 0) s) :: tX11_feud_0 kb
noncomputable def kX11_feud : Nat → Co
  | 0 => nk
  | n + 1 => fam (rX11_feud (kX11_feud n)) nk
noncomputable def FX11_feud (a0 a1 a2 a3 : Int) (s : St) : Res := fX11_feud_0 (kX11_feud 0) a0 a1 a2 a3 s
noncomputable def gX11_feud : Fn := fun xs s => FX11_feud (xs.getD 0 0) (xs.getD 1 0) (xs.getD 2 0) (xs.getD 3 0) s
noncomputable def mdX11_feud : MD := ([(3, 11), (0, 0), (0, 0), (0, 0)], (0, 0), yX11_feud, cX11_feud, (7, (some .boolean), 6, 90, []))
-- Floatparade.isThemeRefused(II)Z
noncomputable def fX11_isThemeRefused_50 (kb : Co) (s : St) : Res := if (0 : Int) = 0 ∨ (0 : Int) = 1 then some (0, 0, s) else none
noncomputable def fX11_isThemeRefused_44 (kb : Co) (a0 a1 a2 a3 : Int) (s : St) : Res := kb 2 [(3, 11, a0), (0, 0, a1), (0, 0, a2), (0, 0, (wr (a3 + 1))), (7, 0, 0)] [] s
noncomputable def fX11_isThemeRefused_2 (kb : Co) (a0 a1 a2 a3 : Int) (s : St) : Res := if a3 < 10 then (if 0 ≤ a3 ∧ a3 < 10 then if (gm s 13 a0 a3) = (-1) then fX11_isThemeRefused_44 kb a0 a1 a2 a3 s else if 0 ≤ (gm s 13 a0 a3) then bnd (FX6_isThemeLike (gm s 13 a0 a3) a1 s) fun x1 s1 => if x1 = 0 then fX11_isThemeRefused_44 kb a0 a1 a2 a3 s1 else if 0 ≤ (gm s 13 a0 a3) then if a2 < (gm s1 6 (gm s 13 a0 a3) 9) then fX11_isThemeRefused_44 kb a0 a1 a2 a3 s1 else if (1 : Int) = 0 ∨ (1 : Int) = 1 then some (0, 1, s1) else none else none else none else none) else fX11_isThemeRefused_50 kb s
noncomputable def fX11_isThemeRefused_0 (kb : Co) (a0 a1 a2 : Int) (s : St) : Res := fX11_isThemeRefused_2 kb a0 a1 a2 0 s
noncomputable def tX11_isThemeRefused_50 (kb : Co) : List Rw := []
noncomputable def tX11_isThemeRefused_44 (kb : Co) : List Rw := (50, [(7, 0), (7, 0), (7, 0), (7, 0), (7, 0)], [], fun xs ys s => fX11_isThemeRefused_50 kb s) :: tX11_isThemeRefused_50 kb
noncomputable def tX11_isThemeRefused_2 (kb : Co) : List Rw := (44, [(3, 11), (0, 0), (0, 0), (0, 0), (7, 0)], [], fun xs ys s => fX11_isThemeRefused_44 kb (xs.getD 0 0) (xs.getD 1 0) (xs.getD 2 0) (xs.getD 3 0) s) :: tX11_isThemeRefused_44 kb
noncomputable def tX11_isThemeRefused_0 (kb : Co) : List Rw := (2, [(3, 11), (0, 0), (0, 0), (0, 0), (7, 0)], [], fun xs ys s => fX11_isThemeRefused_2 kb (xs.getD 0 0) (xs.getD 1 0) (xs.getD 2 0) (xs.getD 3 0) s) :: tX11_isThemeRefused_2 kb
noncomputable def rX11_isThemeRefused (kb : Co) : List Rw := (0, [(3, 11), (0, 0), (0, 0), (7, 0), (7, 0)], [], fun xs ys s => fX11_isThemeRefused_0 kb (xs.getD 0 0) (xs.getD 1 0) (xs.getD 2 0) s) :: tX11_isThemeRefused_0 kb
noncomputable def kX11_isThemeRefused : Nat → Co
  | 0 => nk
  | n + 1 => fam (rX11_isThemeRefused (kX11_isThemeRefused n)) nk
noncomputable def FX11_isThemeRefused (a0 a1 a2 : Int) (s : St) : Res := fX11_isThemeRefused_0 (kX11_isThemeRefused 9999) a0 a1 a2 s
noncomputable def gX11_isThemeRefused : Fn := fun xs s => FX11_isThemeRefused (xs.getD 0 0) (xs.getD 1 0) (xs.getD 2 0) s
noncomputable def mdX11_isThemeRefused : MD := ([(3, 11), (0, 0), (0, 0)], (0, 0), yX11_isThemeRefused, cX11_isThemeRefused, (5, (some .boolean), 2, 41, []))
-- Floatparade.takeThemesAway(I)I
noncomputable def fX11_takeThemesAway_50 (kb : Co) (a2 : Int) (s : St) : Res := some (0, a2, s)
noncomputable def fX11_takeThemesAway_44 (kb : Co) (a0 a1 a2 a3 : Int) (s : St) : Res := kb 4 [(3, 11, a0), (0, 0, a1), (0, 0, a2), (0, 0, (wr (a3 + 1))), (7, 0, 0)] [] s
noncomputable def fX11_takeThemesAway_4 (kb : Co) (a0 a1 a2 a3 : Int) (s : St) : Res := if a3 < 10 then (if 0 ≤ a3 ∧ a3 < 10 then if (gm s 13 a0 a3) = (-1) then fX11_takeThemesAway_44 kb a0 a1 a2 a3 s else if 0 ≤ (gm s 13 a0 a3) then bnd (FX6_isThemeLike (gm s 13 a0 a3) a1 s) fun x1 s1 => if x1 = 0 then fX11_takeThemesAway_44 kb a0 a1 a2 a3 s1 else if 0 ≤ (gm s 13 a0 a3) then fX11_takeThemesAway_44 kb a0 a1 (wr (a2 + 1)) a3 (pm s1 6 (gm s 13 a0 a3) 8 0) else none else none else none) else fX11_takeThemesAway_50 kb a2 s
noncomputable def fX11_takeThemesAway_0 (kb : Co) (a0 a1 : Int) (s : St) : Res := fX11_takeThemesAway_4 kb a0 a1 0 0 s
noncomputable def tX11_takeThemesAway_50 (kb : Co) : List Rw := []
noncomputable def tX11_takeThemesAway_44 (kb : Co) : List Rw := (50, [(7, 0), (7, 0), (0, 0), (7, 0), (7, 0)], [], fun xs ys s => fX11_takeThemesAway_50 kb (xs.getD 0 0) s) :: tX11_takeThemesAway_50 kb
noncomputable def tX11_takeThemesAway_4 (kb : Co) : List Rw := (44, [(3, 11), (0, 0), (0, 0), (0, 0), (7, 0)], [], fun xs ys s => fX11_takeThemesAway_44 kb (xs.getD 0 0) (xs.getD 1 0) (xs.getD 2 0) (xs.getD 3 0) s) :: tX11_takeThemesAway_44 kb
noncomputable def tX11_takeThemesAway_0 (kb : Co) : List Rw := (4, [(3, 11), (0, 0), (0, 0), (0, 0), (7, 0)], [], fun xs ys s => fX11_takeThemesAway_4 kb (xs.getD 0 0) (xs.getD 1 0) (xs.getD 2 0) (xs.getD 3 0) s) :: tX11_takeThemesAway_4 kb
noncomputable def rX11_takeThemesAway (kb : Co) : List Rw := (0, [(3, 11), (0, 0), (7, 0), (7, 0), (7, 0)], [], fun xs ys s => fX11_takeThemesAway_0 kb (xs.getD 0 0) (xs.getD 1 0) s) :: tX11_takeThemesAway_0 kb
noncomputable def kX11_takeThemesAway : Nat → Co
  | 0 => nk
  | n + 1 => fam (rX11_takeThemesAway (kX11_takeThemesAway n)) nk
noncomputable def FX11_takeThemesAway (a0 a1 : Int) (s : St) : Res := fX11_takeThemesAway_0 (kX11_takeThemesAway 9999) a0 a1 s
noncomputable def gX11_takeThemesAway : Fn := fun xs s => FX11_takeThemesAway (xs.getD 0 0) (xs.getD 1 0) s
noncomputable def mdX11_takeThemesAway : MD := ([(3, 11), (0, 0)], (0, 0), yX11_takeThemesAway, cX11_takeThemesAway, (5, (some .int), 2, 41, []))
-- Floatparade.theme(III)I
noncomputable def fX11_theme_70 (kb : Co) (a0 a2 a3 a4 : Int) (s : St) : Res := bnd (FX11_takeThemesAway a0 a2 s) fun x1 s1 => if 0 ≤ a4 then if 0 ≤ a4 then some (0, x1, (pm (pm s1 6 a4 8 a2) 6 a4 9 a3)) else none else none
noncomputable def fX11_theme_53 (kb : Co) (a0 a2 a3 a4 : Int) (s : St) : Res := if 0 ≤ a4 then bnd (FX11_isThemeRefused a0 a2 a3 (pm s 6 a4 8 0)) fun x1 s1 => if x1 = 0 then fX11_theme_70 kb a0 a2 a3 a4 s1 else some (0, (-1), s1) else none
noncomputable def fX11_theme_43 (kb : Co) (s : St) : Res := some (1, 0, thw s)
noncomputable def fX11_theme_22 (kb : Co) (a0 a2 a3 a4 : Int) (s : St) : Res := bnd (FX11_isWithin a2 1 4095 s) fun x1 s1 => if x1 = 0 then fX11_theme_43 kb s1 else bnd (FX11_isWithin a3 1 99 s1) fun x2 s2 => if x2 = 0 then fX11_theme_43 kb s2 else fX11_theme_53 kb a0 a2 a3 a4 s2
noncomputable def fX11_theme_0 (kb : Co) (a0 a1 a2 a3 : Int) (s : St) : Res := bnd (FX11_societyAt a0 a1 s) fun x1 s1 => if x1 = (-1) then some (3, 0, thw s1) else fX11_theme_22 kb a0 a2 a3 x1 s1
noncomputable def tX11_theme_70 (kb : Co) : List Rw := []
noncomputable def tX11_theme_53 (kb : Co) : List Rw := (70, [(3, 11), (7, 0), (0, 0), (0, 0), (2, 6), (7, 0)], [], fun xs ys s => fX11_theme_70 kb (xs.getD 0 0) (xs.getD 1 0) (xs.getD 2 0) (xs.getD 3 0) s) :: tX11_theme_70 kb
noncomputable def tX11_theme_43 (kb : Co) : List Rw := (53, [(3, 11), (7, 0), (0, 0), (0, 0), (2, 6), (7, 0)], [], fun xs ys s => fX11_theme_53 kb (xs.getD 0 0) (xs.getD 1 0) (xs.getD 2 0) (xs.getD 3 0) s) :: tX11_theme_53 kb
noncomputable def tX11_theme_22 (kb : Co) : List Rw := (43, [(7, 0), (7, 0), (7, 0), (7, 0), (7, 0), (7, 0)], [], fun xs ys s => fX11_theme_43 kb s) :: tX11_theme_43 kb
noncomputable def tX11_theme_0 (kb : Co) : List Rw := (22, [(3, 11), (7, 0), (0, 0), (0, 0), (2, 6), (7, 0)], [], fun xs ys s => fX11_theme_22 kb (xs.getD 0 0) (xs.getD 1 0) (xs.getD 2 0) (xs.getD 3 0) s) :: tX11_theme_22 kb
noncomputable def rX11_theme (kb : Co) : List Rw := (0, [(3, 11), (0, 0), (0, 0), (0, 0), (7, 0), (7, 0)], [], fun xs ys s => fX11_theme_0 kb (xs.getD 0 0) (xs.getD 1 0) (xs.getD 2 0) (xs.getD 3 0) s) :: tX11_theme_0 kb
noncomputable def kX11_theme : Nat → Co
  | 0 => nk
  | n + 1 => fam (rX11_theme (kX11_theme n)) nk
noncomputable def FX11_theme (a0 a1 a2 a3 : Int) (s : St) : Res := fX11_theme_0 (kX11_theme 0) a0 a1 a2 a3 s
noncomputable def gX11_theme : Fn := fun xs s => FX11_theme (xs.getD 0 0) (xs.getD 1 0) (xs.getD 2 0) (xs.getD 3 0) s
noncomputable def mdX11_theme : MD := ([(3, 11), (0, 0), (0, 0), (0, 0)], (0, 0), yX11_theme, cX11_theme, (6, (some .int), 6, 90, []))
-- Floatparade.song(I)I
noncomputable def fX11_song_40 (kb : Co) (a2 : Int) (s : St) : Res := if 0 ≤ a2 then bnd (FX7_add a2 s) fun x1 s1 => some (0, x1, s1) else none
noncomputable def fX11_song_20 (kb : Co) (a2 : Int) (s : St) : Res := if 0 ≤ a2 then bnd (FX7_mayGrow a2 s) fun x1 s1 => if x1 = 0 then some (2, 0, thw s1) else fX11_song_40 kb a2 s1 else none
noncomputable def fX11_song_0 (kb : Co) (a0 a1 : Int) (s : St) : Res := bnd (FX11_societyAt a0 a1 s) fun x1 s1 => if x1 = (-1) then some (3, 0, thw s1) else fX11_song_20 kb x1 s1
noncomputable def tX11_song_40 (kb : Co) : List Rw := []
noncomputable def tX11_song_20 (kb : Co) : List Rw := (40, [(7, 0), (7, 0), (2, 6)], [], fun xs ys s => fX11_song_40 kb (xs.getD 0 0) s) :: tX11_song_40 kb
noncomputable def tX11_song_0 (kb : Co) : List Rw := (20, [(7, 0), (7, 0), (2, 6)], [], fun xs ys s => fX11_song_20 kb (xs.getD 0 0) s) :: tX11_song_20 kb
noncomputable def rX11_song (kb : Co) : List Rw := (0, [(3, 11), (0, 0), (7, 0)], [], fun xs ys s => fX11_song_0 kb (xs.getD 0 0) (xs.getD 1 0) s) :: tX11_song_0 kb
noncomputable def kX11_song : Nat → Co
  | 0 => nk
  | n + 1 => fam (rX11_song (kX11_song n)) nk
noncomputable def FX11_song (a0 a1 : Int) (s : St) : Res := fX11_song_0 (kX11_song 0) a0 a1 s
noncomputable def gX11_song : Fn := fun xs s => FX11_song (xs.getD 0 0) (xs.getD 1 0) s
noncomputable def mdX11_song : MD := ([(3, 11), (0, 0)], (0, 0), yX11_song, cX11_song, (3, (some .int), 6, 90, []))
-- Floatparade.vote(III)I
noncomputable def fX11_vote_88 (kb : Co) (a2 a3 a4 : Int) (s : St) : Res := if 0 ≤ a4 then bnd (FX7_addVotes a4 a2 a3 s) fun x1 s1 => some (0, x1, s1) else none
noncomputable def fX11_vote_78 (kb : Co) (s : St) : Res := some (2, 0, thw s)
noncomputable def fX11_vote_54 (kb : Co) (a2 a3 a4 : Int) (s : St) : Res := if 0 ≤ a4 then bnd (FX7_isStruck a4 a2 s) fun x1 s1 => if x1 = 0 then (if 0 ≤ a4 then bnd (FX7_chosen a4 s1) fun x2 s2 => if x2 = (-1) then fX11_vote_88 kb a2 a3 a4 s2 else fX11_vote_78 kb s2 else none) else fX11_vote_78 kb s1 else none
noncomputable def fX11_vote_34 (kb : Co) (a2 a3 a4 : Int) (s : St) : Res := bnd (FX11_isWithin a3 1 99 s) fun x1 s1 => if x1 = 0 then some (1, 0, thw s1) else fX11_vote_54 kb a2 a3 a4 s1
noncomputable def fX11_vote_24 (kb : Co) (s : St) : Res := some (3, 0, thw s)
noncomputable def fX11_vote_0 (kb : Co) (a0 a1 a2 a3 : Int) (s : St) : Res := bnd (FX11_societyAt a0 a1 s) fun x1 s1 => if x1 = (-1) then fX11_vote_24 kb s1 else if 0 ≤ x1 then bnd (FX7_has x1 a2 s1) fun x2 s2 => if x2 = 0 then fX11_vote_24 kb s2 else fX11_vote_34 kb a2 a3 x1 s2 else none
noncomputable def tX11_vote_88 (kb : Co) : List Rw := []
noncomputable def tX11_vote_78 (kb : Co) : List Rw := (88, [(7, 0), (7, 0), (0, 0), (0, 0), (2, 6)], [], fun xs ys s => fX11_vote_88 kb (xs.getD 0 0) (xs.getD 1 0) (xs.getD 2 0) s) :: tX11_vote_88 kb
noncomputable def tX11_vote_54 (kb : Co) : List Rw := (78, [(7, 0), (7, 0), (7, 0), (7, 0), (7, 0)], [], fun xs ys s => fX11_vote_78 kb s) :: tX11_vote_78 kb
noncomputable def tX11_vote_34 (kb : Co) : List Rw := (54, [(7, 0), (7, 0), (0, 0), (0, 0), (2, 6)], [], fun xs ys s => fX11_vote_54 kb (xs.getD 0 0) (xs.getD 1 0) (xs.getD 2 0) s) :: tX11_vote_54 kb
noncomputable def tX11_vote_24 (kb : Co) : List Rw := (34, [(7, 0), (7, 0), (0, 0), (0, 0), (2, 6)], [], fun xs ys s => fX11_vote_34 kb (xs.getD 0 0) (xs.getD 1 0) (xs.getD 2 0) s) :: tX11_vote_34 kb
noncomputable def tX11_vote_0 (kb : Co) : List Rw := (24, [(7, 0), (7, 0), (7, 0), (7, 0), (7, 0)], [], fun xs ys s => fX11_vote_24 kb s) :: tX11_vote_24 kb
noncomputable def rX11_vote (kb : Co) : List Rw := (0, [(3, 11), (0, 0), (0, 0), (0, 0), (7, 0)], [], fun xs ys s => fX11_vote_0 kb (xs.getD 0 0) (xs.getD 1 0) (xs.getD 2 0) (xs.getD 3 0) s) :: tX11_vote_0 kb
noncomputable def kX11_vote : Nat → Co
  | 0 => nk
  | n + 1 => fam (rX11_vote (kX11_vote n)) nk
noncomputable def FX11_vote (a0 a1 a2 a3 : Int) (s : St) : Res := fX11_vote_0 (kX11_vote 0) a0 a1 a2 a3 s
noncomputable def gX11_vote : Fn := fun xs s => FX11_vote (xs.getD 0 0) (xs.getD 1 0) (xs.getD 2 0) (xs.getD 3 0) s
noncomputable def mdX11_vote : MD := ([(3, 11), (0, 0), (0, 0), (0, 0)], (0, 0), yX11_vote, cX11_vote, (5, (some .int), 6, 108, []))
-- Floatparade.round(I)I
noncomputable def fX11_round_41 (kb : Co) (a2 : Int) (s : St) : Res := if 0 ≤ a2 then bnd (FX7_strikeWeakest a2 s) fun x1 s1 => some (0, x1, s1) else none
noncomputable def fX11_round_20 (kb : Co) (a2 : Int) (s : St) : Res := if 0 ≤ a2 then bnd (FX7_left a2 s) fun x1 s1 => if x1 < 2 then some (2, 0, thw s1) else fX11_round_41 kb a2 s1 else none
noncomputable def fX11_round_0 (kb : Co) (a0 a1 : Int) (s : St) : Res := bnd (FX11_societyAt a0 a1 s) fun x1 s1 => if x1 = (-1) then some (3, 0, thw s1) else fX11_round_20 kb x1 s1
noncomputable def tX11_round_41 (kb : Co) : List Rw := []
noncomputable def tX11_round_20 (kb : Co) : List Rw := (41, [(7, 0), (7, 0), (2, 6)], [], fun xs ys s => fX11_round_41 kb (xs.getD 0 0) s) :: tX11_round_41 kb
noncomputable def tX11_round_0 (kb : Co) : List Rw := (20, [(7, 0), (7, 0), (2, 6)], [], fun xs ys s => fX11_round_20 kb (xs.getD 0 0) s) :: tX11_round_20 kb
noncomputable def rX11_round (kb : Co) : List Rw := (0, [(3, 11), (0, 0), (7, 0)], [], fun xs ys s => fX11_round_0 kb (xs.getD 0 0) (xs.getD 1 0) s) :: tX11_round_0 kb
noncomputable def kX11_round : Nat → Co
  | 0 => nk
  | n + 1 => fam (rX11_round (kX11_round n)) nk
noncomputable def FX11_round (a0 a1 : Int) (s : St) : Res := fX11_round_0 (kX11_round 0) a0 a1 s
noncomputable def gX11_round : Fn := fun xs s => FX11_round (xs.getD 0 0) (xs.getD 1 0) s
noncomputable def mdX11_round : MD := ([(3, 11), (0, 0)], (0, 0), yX11_round, cX11_round, (3, (some .int), 6, 90, []))
-- Floatparade.isCorner(I)Z
noncomputable def fX11_isCorner_0 (kb : Co) (a0 : Int) (s : St) : Res := bnd (FX11_isWithin a0 0 11 s) fun x1 s1 => if (x1 : Int) = 0 ∨ (x1 : Int) = 1 then some (0, x1, s1) else none
noncomputable def tX11_isCorner_0 (kb : Co) : List Rw := []
noncomputable def rX11_isCorner (kb : Co) : List Rw := (0, [(0, 0)], [], fun xs ys s => fX11_isCorner_0 kb (xs.getD 0 0) s) :: tX11_isCorner_0 kb
noncomputable def kX11_isCorner : Nat → Co
  | 0 => nk
  | n + 1 => fam (rX11_isCorner (kX11_isCorner n)) nk
noncomputable def FX11_isCorner (a0 : Int) (s : St) : Res := fX11_isCorner_0 (kX11_isCorner 0) a0 s
noncomputable def gX11_isCorner : Fn := fun xs s => FX11_isCorner (xs.getD 0 0) s
noncomputable def mdX11_isCorner : MD := ([(0, 0)], (0, 0), yX11_isCorner, cX11_isCorner, (1, (some .boolean), 1, 22, []))
-- Floatparade.street(IIIIII)I
noncomputable def fX11_street_114 (kb : Co) (a0 a1 a2 a3 a4 a5 a6 : Int) (s : St) : Res := bnd (FX9_lay a0 (s.2 8) (alc 8 [a1, a2, a3, a4, a5, a6] s)) fun x1 s1 => some (0, x1, s1)
noncomputable def fX11_street_104 (kb : Co) (s : St) : Res := some (2, 0, thw s)
noncomputable def fX11_street_82 (kb : Co) (a0 a1 a2 a3 a4 a5 a6 : Int) (s : St) : Res := bnd (FX9_isFull a0 s) fun x1 s1 => if x1 = 0 then (bnd (FX9_between a0 a1 a2 s1) fun x2 s2 => if x2 = (-1) then fX11_street_114 kb a0 a1 a2 a3 a4 a5 a6 s2 else fX11_street_104 kb s2) else fX11_street_104 kb s1
noncomputable def fX11_street_72 (kb : Co) (s : St) : Res := some (1, 0, thw s)
noncomputable def fX11_street_24 (kb : Co) (a0 a1 a2 a3 a4 a5 a6 : Int) (s : St) : Res := if a1 = a2 then fX11_street_72 kb s else bnd (FX11_isWithin a3 1 30 s) fun x1 s1 => if x1 = 0 then fX11_street_72 kb s1 else bnd (FX11_isWithin a4 3 30 s1) fun x2 s2 => if x2 = 0 then fX11_street_72 kb s2 else bnd (FX11_isWithin a5 2 30 s2) fun x3 s3 => if x3 = 0 then fX11_street_72 kb s3 else bnd (FX11_isWithin a6 1 99 s3) fun x4 s4 => if x4 = 0 then fX11_street_72 kb s4 else fX11_street_82 kb a0 a1 a2 a3 a4 a5 a6 s4
noncomputable def fX11_street_14 (kb : Co) (s : St) : Res := some (3, 0, thw s)
noncomputable def fX11_street_0 (kb : Co) (a0 a1 a2 a3 a4 a5 a6 : Int) (s : St) : Res := bnd (FX11_isCorner a1 s) fun x1 s1 => if x1 = 0 then fX11_street_14 kb s1 else bnd (FX11_isCorner a2 s1) fun x2 s2 => if x2 = 0 then fX11_street_14 kb s2 else fX11_street_24 kb a0 a1 a2 a3 a4 a5 a6 s2
noncomputable def tX11_street_114 (kb : Co) : List Rw := []
noncomputable def tX11_street_104 (kb : Co) : List Rw := (114, [(3, 11), (0, 0), (0, 0), (0, 0), (0, 0), (0, 0), (0, 0)], [], fun xs ys s => fX11_street_114 kb (xs.getD 0 0) (xs.getD 1 0) (xs.getD 2 0) (xs.getD 3 0) (xs.getD 4 0) (xs.getD 5 0) (xs.getD 6 0) s) :: tX11_street_114 kb
noncomputable def tX11_street_82 (kb : Co) : List Rw := (104, [(7, 0), (7, 0), (7, 0), (7, 0), (7, 0), (7, 0), (7, 0)], [], fun xs ys s => fX11_street_104 kb s) :: tX11_street_104 kb
noncomputable def tX11_street_72 (kb : Co) : List Rw := (82, [(3, 11), (0, 0), (0, 0), (0, 0), (0, 0), (0, 0), (0, 0)], [], fun xs ys s => fX11_street_82 kb (xs.getD 0 0) (xs.getD 1 0) (xs.getD 2 0) (xs.getD 3 0) (xs.getD 4 0) (xs.getD 5 0) (xs.getD 6 0) s) :: tX11_street_82 kb
noncomputable def tX11_street_24 (kb : Co) : List Rw := (72, [(7, 0), (7, 0), (7, 0), (7, 0), (7, 0), (7, 0), (7, 0)], [], fun xs ys s => fX11_street_72 kb s) :: tX11_street_72 kb
noncomputable def tX11_street_14 (kb : Co) : List Rw := (24, [(3, 11), (0, 0), (0, 0), (0, 0), (0, 0), (0, 0), (0, 0)], [], fun xs ys s => fX11_street_24 kb (xs.getD 0 0) (xs.getD 1 0) (xs.getD 2 0) (xs.getD 3 0) (xs.getD 4 0) (xs.getD 5 0) (xs.getD 6 0) s) :: tX11_street_24 kb
noncomputable def tX11_street_0 (kb : Co) : List Rw := (14, [(7, 0), (7, 0), (7, 0), (7, 0), (7, 0), (7, 0), (7, 0)], [], fun xs ys s => fX11_street_14 kb s) :: tX11_street_14 kb
noncomputable def rX11_street (kb : Co) : List Rw := (0, [(3, 11), (0, 0), (0, 0), (0, 0), (0, 0), (0, 0), (0, 0)], [], fun xs ys s => fX11_street_0 kb (xs.getD 0 0) (xs.getD 1 0) (xs.getD 2 0) (xs.getD 3 0) (xs.getD 4 0) (xs.getD 5 0) (xs.getD 6 0) s) :: tX11_street_0 kb
noncomputable def kX11_street : Nat → Co
  | 0 => nk
  | n + 1 => fam (rX11_street (kX11_street n)) nk
noncomputable def FX11_street (a0 a1 a2 a3 a4 a5 a6 : Int) (s : St) : Res := fX11_street_0 (kX11_street 0) a0 a1 a2 a3 a4 a5 a6 s
noncomputable def gX11_street : Fn := fun xs s => FX11_street (xs.getD 0 0) (xs.getD 1 0) (xs.getD 2 0) (xs.getD 3 0) (xs.getD 4 0) (xs.getD 5 0) (xs.getD 6 0) s
noncomputable def mdX11_street : MD := ([(3, 11), (0, 0), (0, 0), (0, 0), (0, 0), (0, 0), (0, 0)], (0, 0), yX11_street, cX11_street, (7, (some .int), 6, 90, []))
-- Floatparade.leagueAt(I)LFloatparade$League;
noncomputable def fX11_leagueAt_25 (kb : Co) (y0 : Int) (s : St) : Res := some (0, y0, s)
noncomputable def fX11_leagueAt_24 (kb : Co) (s : St) : Res := fX11_leagueAt_25 kb (-1) s
noncomputable def fX11_leagueAt_0 (kb : Co) (a0 a1 : Int) (s : St) : Res := bnd (FX11_isWithin a1 0 (wr (2 - 1)) s) fun x1 s1 => if x1 = 0 then fX11_leagueAt_24 kb s1 else if 0 ≤ a1 ∧ a1 < 2 then fX11_leagueAt_25 kb (gm s1 14 a0 a1) s1 else none
noncomputable def tX11_leagueAt_25 (kb : Co) : List Rw := []
noncomputable def tX11_leagueAt_24 (kb : Co) : List Rw := (25, [(7, 0), (7, 0)], [(2, 0)], fun xs ys s => fX11_leagueAt_25 kb (ys.getD 0 0) s) :: tX11_leagueAt_25 kb
noncomputable def tX11_leagueAt_0 (kb : Co) : List Rw := (24, [(7, 0), (7, 0)], [], fun xs ys s => fX11_leagueAt_24 kb s) :: tX11_leagueAt_24 kb
noncomputable def rX11_leagueAt (kb : Co) : List Rw := (0, [(3, 11), (0, 0)], [], fun xs ys s => fX11_leagueAt_0 kb (xs.getD 0 0) (xs.getD 1 0) s) :: tX11_leagueAt_0 kb
noncomputable def kX11_leagueAt : Nat → Co
  | 0 => nk
  | n + 1 => fam (rX11_leagueAt (kX11_leagueAt n)) nk
noncomputable def FX11_leagueAt (a0 a1 : Int) (s : St) : Res := fX11_leagueAt_0 (kX11_leagueAt 0) a0 a1 s
noncomputable def gX11_leagueAt : Fn := fun xs s => FX11_leagueAt (xs.getD 0 0) (xs.getD 1 0) s
noncomputable def mdX11_leagueAt : MD := ([(3, 11), (0, 0)], (2, 0), yX11_leagueAt, cX11_leagueAt, (2, (some (.object "Floatparade$League")), 1, 22, []))
-- Floatparade.route(II)V
noncomputable def fX11_route_54 (kb : Co) (a2 a3 : Int) (s : St) : Res := if 0 ≤ a3 then bnd (FX3_startAt a3 a2 s) fun _ s1 => some (0, 0, s1) else none
noncomputable def fX11_route_37 (kb : Co) (a2 a3 : Int) (s : St) : Res := if 0 ≤ a3 then bnd (FX0_isRouteFixed a3 s) fun x1 s1 => if x1 = 0 then fX11_route_54 kb a2 a3 s1 else some (2, 0, thw s1) else none
noncomputable def fX11_route_17 (kb : Co) (a0 a1 a2 : Int) (s : St) : Res := bnd (FX11_leagueAt a0 a1 s) fun x1 s1 => if x1 = (-1) then some (1, 0, thw s1) else fX11_route_37 kb a2 x1 s1
noncomputable def fX11_route_0 (kb : Co) (a0 a1 a2 : Int) (s : St) : Res := bnd (FX11_isCorner a2 s) fun x1 s1 => if x1 = 0 then some (3, 0, thw s1) else fX11_route_17 kb a0 a1 a2 s1
noncomputable def tX11_route_54 (kb : Co) : List Rw := []
noncomputable def tX11_route_37 (kb : Co) : List Rw := (54, [(7, 0), (7, 0), (0, 0), (2, 0)], [], fun xs ys s => fX11_route_54 kb (xs.getD 0 0) (xs.getD 1 0) s) :: tX11_route_54 kb
noncomputable def tX11_route_17 (kb : Co) : List Rw := (37, [(7, 0), (7, 0), (0, 0), (2, 0)], [], fun xs ys s => fX11_route_37 kb (xs.getD 0 0) (xs.getD 1 0) s) :: tX11_route_37 kb
noncomputable def tX11_route_0 (kb : Co) : List Rw := (17, [(3, 11), (0, 0), (0, 0), (7, 0)], [], fun xs ys s => fX11_route_17 kb (xs.getD 0 0) (xs.getD 1 0) (xs.getD 2 0) s) :: tX11_route_17 kb
noncomputable def rX11_route (kb : Co) : List Rw := (0, [(3, 11), (0, 0), (0, 0), (7, 0)], [], fun xs ys s => fX11_route_0 kb (xs.getD 0 0) (xs.getD 1 0) (xs.getD 2 0) s) :: tX11_route_0 kb
noncomputable def kX11_route : Nat → Co
  | 0 => nk
  | n + 1 => fam (rX11_route (kX11_route n)) nk
noncomputable def FX11_route (a0 a1 a2 : Int) (s : St) : Res := fX11_route_0 (kX11_route 0) a0 a1 a2 s
noncomputable def gX11_route : Fn := fun xs s => FX11_route (xs.getD 0 0) (xs.getD 1 0) (xs.getD 2 0) s
noncomputable def mdX11_route : MD := ([(3, 11), (0, 0), (0, 0)], (9, 0), yX11_route, cX11_route, (4, none, 6, 90, []))
-- Floatparade.goOn(II)I
noncomputable def fX11_goOn_87 (kb : Co) (a2 a3 a4 : Int) (s : St) : Res := if 0 ≤ a3 then bnd (FX3_lead a3 a2 a4 s) fun x1 s1 => some (0, x1, s1) else none
noncomputable def fX11_goOn_77 (kb : Co) (s : St) : Res := some (2, 0, thw s)
noncomputable def fX11_goOn_37 (kb : Co) (a0 a2 a3 : Int) (s : St) : Res := if 0 ≤ a3 then bnd (FX3_lastCorner a3 s) fun x1 s1 => bnd (FX9_between a0 x1 a2 s1) fun x2 s2 => if 0 ≤ a3 then bnd (FX0_isRouteFixed a3 s2) fun x3 s3 => if x3 = 0 then (if 0 ≤ a3 then bnd (FX3_mayTake a3 a2 s3) fun x4 s4 => if x4 = 0 then fX11_goOn_77 kb s4 else if x2 = (-1) then fX11_goOn_77 kb s4 else fX11_goOn_87 kb a2 a3 x2 s4 else none) else fX11_goOn_77 kb s3 else none else none
noncomputable def fX11_goOn_17 (kb : Co) (a0 a1 a2 : Int) (s : St) : Res := bnd (FX11_leagueAt a0 a1 s) fun x1 s1 => if x1 = (-1) then some (1, 0, thw s1) else fX11_goOn_37 kb a0 a2 x1 s1
noncomputable def fX11_goOn_0 (kb : Co) (a0 a1 a2 : Int) (s : St) : Res := bnd (FX11_isCorner a2 s) fun x1 s1 => if x1 = 0 then some (3, 0, thw s1) else fX11_goOn_17 kb a0 a1 a2 s1
noncomputable def tX11_goOn_87 (kb : Co) : List Rw := []
noncomputable def tX11_goOn_77 (kb : Co) : List Rw := (87, [(7, 0), (7, 0), (0, 0), (2, 0), (2, 8)], [], fun xs ys s => fX11_goOn_87 kb (xs.getD 0 0) (xs.getD 1 0) (xs.getD 2 0) s) :: tX11_goOn_87 kb
noncomputable def tX11_goOn_37 (kb : Co) : List Rw := (77, [(7, 0), (7, 0), (7, 0), (7, 0), (7, 0)], [], fun xs ys s => fX11_goOn_77 kb s) :: tX11_goOn_77 kb
noncomputable def tX11_goOn_17 (kb : Co) : List Rw := (37, [(3, 11), (7, 0), (0, 0), (2, 0), (7, 0)], [], fun xs ys s => fX11_goOn_37 kb (xs.getD 0 0) (xs.getD 1 0) (xs.getD 2 0) s) :: tX11_goOn_37 kb
noncomputable def tX11_goOn_0 (kb : Co) : List Rw := (17, [(3, 11), (0, 0), (0, 0), (7, 0), (7, 0)], [], fun xs ys s => fX11_goOn_17 kb (xs.getD 0 0) (xs.getD 1 0) (xs.getD 2 0) s) :: tX11_goOn_17 kb
noncomputable def rX11_goOn (kb : Co) : List Rw := (0, [(3, 11), (0, 0), (0, 0), (7, 0), (7, 0)], [], fun xs ys s => fX11_goOn_0 kb (xs.getD 0 0) (xs.getD 1 0) (xs.getD 2 0) s) :: tX11_goOn_0 kb
noncomputable def kX11_goOn : Nat → Co
  | 0 => nk
  | n + 1 => fam (rX11_goOn (kX11_goOn n)) nk
noncomputable def FX11_goOn (a0 a1 a2 : Int) (s : St) : Res := fX11_goOn_0 (kX11_goOn 0) a0 a1 a2 s
noncomputable def gX11_goOn : Fn := fun xs s => FX11_goOn (xs.getD 0 0) (xs.getD 1 0) (xs.getD 2 0) s
noncomputable def mdX11_goOn : MD := ([(3, 11), (0, 0), (0, 0)], (0, 0), yX11_goOn, cX11_goOn, (5, (some .int), 6, 90, []))
-- Floatparade.jury(IZ)Z
noncomputable def fX11_jury_17 (kb : Co) (a0 a1 a2 : Int) (s : St) : Res := bnd (FX9_setJury a0 a1 a2 s) fun x1 s1 => if (x1 : Int) = 0 ∨ (x1 : Int) = 1 then some (0, x1, s1) else none
noncomputable def fX11_jury_0 (kb : Co) (a0 a1 a2 : Int) (s : St) : Res := bnd (FX11_isCorner a1 s) fun x1 s1 => if x1 = 0 then some (3, 0, thw s1) else fX11_jury_17 kb a0 a1 a2 s1
noncomputable def tX11_jury_17 (kb : Co) : List Rw := []
noncomputable def tX11_jury_0 (kb : Co) : List Rw := (17, [(3, 11), (0, 0), (0, 0)], [], fun xs ys s => fX11_jury_17 kb (xs.getD 0 0) (xs.getD 1 0) (xs.getD 2 0) s) :: tX11_jury_17 kb
noncomputable def rX11_jury (kb : Co) : List Rw := (0, [(3, 11), (0, 0), (0, 0)], [], fun xs ys s => fX11_jury_0 kb (xs.getD 0 0) (xs.getD 1 0) (xs.getD 2 0) s) :: tX11_jury_0 kb
noncomputable def kX11_jury : Nat → Co
  | 0 => nk
  | n + 1 => fam (rX11_jury (kX11_jury n)) nk
noncomputable def FX11_jury (a0 a1 a2 : Int) (s : St) : Res := fX11_jury_0 (kX11_jury 0) a0 a1 a2 s
noncomputable def gX11_jury : Fn := fun xs s => FX11_jury (xs.getD 0 0) (xs.getD 1 0) (xs.getD 2 0) s
noncomputable def mdX11_jury : MD := ([(3, 11), (0, 0), (0, 0)], (0, 0), yX11_jury, cX11_jury, (3, (some .boolean), 6, 90, []))
-- Floatparade.build(IIIII)I
noncomputable def fX11_build_101 (kb : Co) (a2 a3 a4 a5 a6 : Int) (s : St) : Res := if 0 ≤ a6 then bnd (FX6_addWagon a6 (s.2 10) (alc 10 [a2, a3, a4, a5] s)) fun x1 s1 => some (0, x1, s1) else none
noncomputable def fX11_build_91 (kb : Co) (s : St) : Res := some (2, 0, thw s)
noncomputable def fX11_build_74 (kb : Co) (a2 a3 a4 a5 a6 : Int) (s : St) : Res := if 0 ≤ a6 then if (gm s 6 a6 10) < 3 then (if 0 ≤ a6 then if (gm s 6 a6 15) = 0 then fX11_build_101 kb a2 a3 a4 a5 a6 s else fX11_build_91 kb s else none) else fX11_build_91 kb s else none
noncomputable def fX11_build_64 (kb : Co) (s : St) : Res := some (1, 0, thw s)
noncomputable def fX11_build_22 (kb : Co) (a2 a3 a4 a5 a6 : Int) (s : St) : Res := bnd (FX11_isWithin a2 1 20 s) fun x1 s1 => if x1 = 0 then fX11_build_64 kb s1 else bnd (FX11_isWithin a3 1 20 s1) fun x2 s2 => if x2 = 0 then fX11_build_64 kb s2 else bnd (FX11_isWithin a4 1 99 s2) fun x3 s3 => if x3 = 0 then fX11_build_64 kb s3 else bnd (FX11_isWithin a5 1 20 s3) fun x4 s4 => if x4 = 0 then fX11_build_64 kb s4 else fX11_build_74 kb a2 a3 a4 a5 a6 s4
noncomputable def fX11_build_0 (kb : Co) (a0 a1 a2 a3 a4 a5 : Int) (s : St) : Res := bnd (FX11_societyAt a0 a1 s) fun x1 s1 => if x1 = (-1) then some (3, 0, thw s1) else fX11_build_22 kb a2 a3 a4 a5 x1 s1
noncomputable def tX11_build_101 (kb : Co) : List Rw := []
noncomputable def tX11_build_91 (kb : Co) : List Rw := (101, [(7, 0), (7, 0), (0, 0), (0, 0), (0, 0), (0, 0), (2, 6)], [], fun xs ys s => fX11_build_101 kb (xs.getD 0 0) (xs.getD 1 0) (xs.getD 2 0) (xs.getD 3 0) (xs.getD 4 0) s) :: tX11_build_101 kb
noncomputable def tX11_build_74 (kb : Co) : List Rw := (91, [(7, 0), (7, 0), (7, 0), (7, 0), (7, 0), (7, 0), (7, 0)], [], fun xs ys s => fX11_build_91 kb s) :: tX11_build_91 kb
noncomputable def tX11_build_64 (kb : Co) : List Rw := (74, [(7, 0), (7, 0), (0, 0), (0, 0), (0, 0), (0, 0), (2, 6)], [], fun xs ys s => fX11_build_74 kb (xs.getD 0 0) (xs.getD 1 0) (xs.getD 2 0) (xs.getD 3 0) (xs.getD 4 0) s) :: tX11_build_74 kb
noncomputable def tX11_build_22 (kb : Co) : List Rw := (64, [(7, 0), (7, 0), (7, 0), (7, 0), (7, 0), (7, 0), (7, 0)], [], fun xs ys s => fX11_build_64 kb s) :: tX11_build_64 kb
noncomputable def tX11_build_0 (kb : Co) : List Rw := (22, [(7, 0), (7, 0), (0, 0), (0, 0), (0, 0), (0, 0), (2, 6)], [], fun xs ys s => fX11_build_22 kb (xs.getD 0 0) (xs.getD 1 0) (xs.getD 2 0) (xs.getD 3 0) (xs.getD 4 0) s) :: tX11_build_22 kb
noncomputable def rX11_build (kb : Co) : List Rw := (0, [(3, 11), (0, 0), (0, 0), (0, 0), (0, 0), (0, 0), (7, 0)], [], fun xs ys s => fX11_build_0 kb (xs.getD 0 0) (xs.getD 1 0) (xs.getD 2 0) (xs.getD 3 0) (xs.getD 4 0) (xs.getD 5 0) s) :: tX11_build_0 kb
noncomputable def kX11_build : Nat → Co
  | 0 => nk
  | n + 1 => fam (rX11_build (kX11_build n)) nk
noncomputable def FX11_build (a0 a1 a2 a3 a4 a5 : Int) (s : St) : Res := fX11_build_0 (kX11_build 0) a0 a1 a2 a3 a4 a5 s
noncomputable def gX11_build : Fn := fun xs s => FX11_build (xs.getD 0 0) (xs.getD 1 0) (xs.getD 2 0) (xs.getD 3 0) (xs.getD 4 0) (xs.getD 5 0) s
noncomputable def mdX11_build : MD := ([(3, 11), (0, 0), (0, 0), (0, 0), (0, 0), (0, 0)], (0, 0), yX11_build, cX11_build, (7, (some .int), 6, 90, []))
-- Floatparade.cut(IIIIII)I
noncomputable def fX11_cut_127 (kb : Co) (a3 a4 a5 a6 a8 : Int) (s : St) : Res := if 0 ≤ a8 then bnd (FX10_shrink a8 a3 a4 a5 a6 s) fun x1 s1 => some (0, x1, s1) else none
noncomputable def fX11_cut_109 (kb : Co) (a3 a4 a5 a6 a7 a8 : Int) (s : St) : Res := if 0 ≤ a7 then if (gm s 6 a7 15) = 0 then fX11_cut_127 kb a3 a4 a5 a6 a8 s else some (2, 0, thw s) else none
noncomputable def fX11_cut_99 (kb : Co) (s : St) : Res := some (1, 0, thw s)
noncomputable def fX11_cut_44 (kb : Co) (a3 a4 a5 a6 a7 a8 : Int) (s : St) : Res := if 0 ≤ a8 then bnd (FX11_isWithin a3 1 (gm s 10 a8 0) s) fun x1 s1 => if x1 = 0 then fX11_cut_99 kb s1 else if 0 ≤ a8 then bnd (FX11_isWithin a4 1 (gm s1 10 a8 1) s1) fun x2 s2 => if x2 = 0 then fX11_cut_99 kb s2 else if 0 ≤ a8 then bnd (FX11_isWithin a5 1 (gm s2 10 a8 2) s2) fun x3 s3 => if x3 = 0 then fX11_cut_99 kb s3 else if 0 ≤ a8 then bnd (FX11_isWithin a6 1 (gm s3 10 a8 3) s3) fun x4 s4 => if x4 = 0 then fX11_cut_99 kb s4 else fX11_cut_109 kb a3 a4 a5 a6 a7 a8 s4 else none else none else none else none
noncomputable def fX11_cut_34 (kb : Co) (s : St) : Res := some (3, 0, thw s)
noncomputable def fX11_cut_22 (kb : Co) (a3 a4 a5 a6 a7 y0 : Int) (s : St) : Res := if a7 = (-1) then fX11_cut_34 kb s else if y0 = (-1) then fX11_cut_34 kb s else fX11_cut_44 kb a3 a4 a5 a6 a7 y0 s
noncomputable def fX11_cut_16 (kb : Co) (a2 a3 a4 a5 a6 a7 : Int) (s : St) : Res := if 0 ≤ a7 then bnd (FX6_wagonAt a7 a2 s) fun x1 s1 => fX11_cut_22 kb a3 a4 a5 a6 a7 x1 s1 else none
noncomputable def fX11_cut_0 (kb : Co) (a0 a1 a2 a3 a4 a5 a6 : Int) (s : St) : Res := bnd (FX11_societyAt a0 a1 s) fun x1 s1 => if x1 = (-1) then fX11_cut_22 kb a3 a4 a5 a6 x1 (-1) s1 else fX11_cut_16 kb a2 a3 a4 a5 a6 x1 s1
noncomputable def tX11_cut_127 (kb : Co) : List Rw := []
noncomputable def tX11_cut_109 (kb : Co) : List Rw := (127, [(7, 0), (7, 0), (7, 0), (0, 0), (0, 0), (0, 0), (0, 0), (7, 0), (2, 10)], [], fun xs ys s => fX11_cut_127 kb (xs.getD 0 0) (xs.getD 1 0) (xs.getD 2 0) (xs.getD 3 0) (xs.getD 4 0) s) :: tX11_cut_127 kb
noncomputable def tX11_cut_99 (kb : Co) : List Rw := (109, [(7, 0), (7, 0), (7, 0), (0, 0), (0, 0), (0, 0), (0, 0), (2, 6), (2, 10)], [], fun xs ys s => fX11_cut_109 kb (xs.getD 0 0) (xs.getD 1 0) (xs.getD 2 0) (xs.getD 3 0) (xs.getD 4 0) (xs.getD 5 0) s) :: tX11_cut_109 kb
noncomputable def tX11_cut_44 (kb : Co) : List Rw := (99, [(7, 0), (7, 0), (7, 0), (7, 0), (7, 0), (7, 0), (7, 0), (7, 0), (7, 0)], [], fun xs ys s => fX11_cut_99 kb s) :: tX11_cut_99 kb
noncomputable def tX11_cut_34 (kb : Co) : List Rw := (44, [(7, 0), (7, 0), (7, 0), (0, 0), (0, 0), (0, 0), (0, 0), (2, 6), (2, 10)], [], fun xs ys s => fX11_cut_44 kb (xs.getD 0 0) (xs.getD 1 0) (xs.getD 2 0) (xs.getD 3 0) (xs.getD 4 0) (xs.getD 5 0) s) :: tX11_cut_44 kb
noncomputable def tX11_cut_22 (kb : Co) : List Rw := (34, [(7, 0), (7, 0), (7, 0), (7, 0), (7, 0), (7, 0), (7, 0), (7, 0), (7, 0)], [], fun xs ys s => fX11_cut_34 kb s) :: tX11_cut_34 kb
noncomputable def tX11_cut_16 (kb : Co) : List Rw := (22, [(7, 0), (7, 0), (7, 0), (0, 0), (0, 0), (0, 0), (0, 0), (2, 6), (7, 0)], [(2, 10)], fun xs ys s => fX11_cut_22 kb (xs.getD 0 0) (xs.getD 1 0) (xs.getD 2 0) (xs.getD 3 0) (xs.getD 4 0) (ys.getD 0 0) s) :: tX11_cut_22 kb
noncomputable def tX11_cut_0 (kb : Co) : List Rw := (16, [(7, 0), (7, 0), (0, 0), (0, 0), (0, 0), (0, 0), (0, 0), (2, 6), (7, 0)], [], fun xs ys s => fX11_cut_16 kb (xs.getD 0 0) (xs.getD 1 0) (xs.getD 2 0) (xs.getD 3 0) (xs.getD 4 0) (xs.getD 5 0) s) :: tX11_cut_16 kb
noncomputable def rX11_cut (kb : Co) : List Rw := (0, [(3, 11), (0, 0), (0, 0), (0, 0), (0, 0), (0, 0), (0, 0), (7, 0), (7, 0)], [], fun xs ys s => fX11_cut_0 kb (xs.getD 0 0) (xs.getD 1 0) (xs.getD 2 0) (xs.getD 3 0) (xs.getD 4 0) (xs.getD 5 0) (xs.getD 6 0) s) :: tX11_cut_0 kb
noncomputable def kX11_cut : Nat → Co
  | 0 => nk
  | n + 1 => fam (rX11_cut (kX11_cut n)) nk
noncomputable def FX11_cut (a0 a1 a2 a3 a4 a5 a6 : Int) (s : St) : Res := fX11_cut_0 (kX11_cut 0) a0 a1 a2 a3 a4 a5 a6 s
noncomputable def gX11_cut : Fn := fun xs s => FX11_cut (xs.getD 0 0) (xs.getD 1 0) (xs.getD 2 0) (xs.getD 3 0) (xs.getD 4 0) (xs.getD 5 0) (xs.getD 6 0) s
noncomputable def mdX11_cut : MD := ([(3, 11), (0, 0), (0, 0), (0, 0), (0, 0), (0, 0), (0, 0)], (0, 0), yX11_cut, cX11_cut, (9, (some .int), 6, 90, []))
-- Floatparade.fits(II)Z
noncomputable def fX11_fits_73 (kb : Co) (y0 : Int) (s : St) : Res := if (y0 : Int) = 0 ∨ (y0 : Int) = 1 then some (0, y0, s) else none
noncomputable def fX11_fits_72 (kb : Co) (s : St) : Res := fX11_fits_73 kb 0 s
noncomputable def fX11_fits_40 (kb : Co) (a0 a3 a4 : Int) (s : St) : Res := if 0 ≤ a3 then bnd (FX11_leagueAt a0 (gm s 6 a3 5) s) fun x1 s1 => if x1 = (-1) then fX11_fits_72 kb s1 else if 0 ≤ x1 then bnd (FX3_lets x1 a4 s1) fun x2 s2 => if x2 = 0 then fX11_fits_72 kb s2 else fX11_fits_73 kb 1 s2 else none else none
noncomputable def fX11_fits_30 (kb : Co) (s : St) : Res := some (3, 0, thw s)
noncomputable def fX11_fits_19 (kb : Co) (a0 a3 y0 : Int) (s : St) : Res := if a3 = (-1) then fX11_fits_30 kb s else if y0 = (-1) then fX11_fits_30 kb s else fX11_fits_40 kb a0 a3 y0 s
noncomputable def fX11_fits_14 (kb : Co) (a0 a2 a3 : Int) (s : St) : Res := if 0 ≤ a3 then bnd (FX6_wagonAt a3 a2 s) fun x1 s1 => fX11_fits_19 kb a0 a3 x1 s1 else none
noncomputable def fX11_fits_0 (kb : Co) (a0 a1 a2 : Int) (s : St) : Res := bnd (FX11_societyAt a0 a1 s) fun x1 s1 => if x1 = (-1) then fX11_fits_19 kb a0 x1 (-1) s1 else fX11_fits_14 kb a0 a2 x1 s1
noncomputable def tX11_fits_73 (kb : Co) : List Rw := []
noncomputable def tX11_fits_72 (kb : Co) : List Rw := (73, [(7, 0), (7, 0), (7, 0), (7, 0), (7, 0), (7, 0)], [(0, 0)], fun xs ys s => fX11_fits_73 kb (ys.getD 0 0) s) :: tX11_fits_73 kb
noncomputable def tX11_fits_40 (kb : Co) : List Rw := (72, [(7, 0), (7, 0), (7, 0), (7, 0), (7, 0), (7, 0)], [], fun xs ys s => fX11_fits_72 kb s) :: tX11_fits_72 kb
noncomputable def tX11_fits_30 (kb : Co) : List Rw := (40, [(3, 11), (7, 0), (7, 0), (2, 6), (2, 10), (7, 0)], [], fun xs ys s => fX11_fits_40 kb (xs.getD 0 0) (xs.getD 1 0) (xs.getD 2 0) s) :: tX11_fits_40 kb
noncomputable def tX11_fits_19 (kb : Co) : List Rw := (30, [(7, 0), (7, 0), (7, 0), (7, 0), (7, 0), (7, 0)], [], fun xs ys s => fX11_fits_30 kb s) :: tX11_fits_30 kb
noncomputable def tX11_fits_14 (kb : Co) : List Rw := (19, [(3, 11), (7, 0), (7, 0), (2, 6), (7, 0), (7, 0)], [(2, 10)], fun xs ys s => fX11_fits_19 kb (xs.getD 0 0) (xs.getD 1 0) (ys.getD 0 0) s) :: tX11_fits_19 kb
noncomputable def tX11_fits_0 (kb : Co) : List Rw := (14, [(3, 11), (7, 0), (0, 0), (2, 6), (7, 0), (7, 0)], [], fun xs ys s => fX11_fits_14 kb (xs.getD 0 0) (xs.getD 1 0) (xs.getD 2 0) s) :: tX11_fits_14 kb
noncomputable def rX11_fits (kb : Co) : List Rw := (0, [(3, 11), (0, 0), (0, 0), (7, 0), (7, 0), (7, 0)], [], fun xs ys s => fX11_fits_0 kb (xs.getD 0 0) (xs.getD 1 0) (xs.getD 2 0) s) :: tX11_fits_0 kb
noncomputable def kX11_fits : Nat → Co
  | 0 => nk
  | n + 1 => fam (rX11_fits (kX11_fits n)) nk
noncomputable def FX11_fits (a0 a1 a2 : Int) (s : St) : Res := fX11_fits_0 (kX11_fits 0) a0 a1 a2 s
noncomputable def gX11_fits : Fn := fun xs s => FX11_fits (xs.getD 0 0) (xs.getD 1 0) (xs.getD 2 0) s
noncomputable def mdX11_fits : MD := ([(3, 11), (0, 0), (0, 0)], (0, 0), yX11_fits, cX11_fits, (6, (some .boolean), 6, 90, []))
-- Floatparade.enter(II)I
noncomputable def fX11_enter_96 (kb : Co) (a0 a2 a3 a4 : Int) (s : St) : Res := if 0 ≤ a3 then if (1 : Int) = 0 ∨ (1 : Int) = 1 then if 0 ≤ a3 then if 0 ≤ a4 then bnd (FX0_findOrder a4 a0 (gm (pm (pm s 6 a3 15 1) 6 a3 11 a2) 11 a0 5) (pm (pm s 6 a3 15 1) 6 a3 11 a2)) fun _ s1 => if 0 ≤ a4 then some (0, (gm s1 4 (2 * a4) 1), s1) else none else none else none else none else none
noncomputable def fX11_enter_85 (kb : Co) (s : St) : Res := some (2, 0, thw s)
noncomputable def fX11_enter_40 (kb : Co) (a0 a2 a3 : Int) (s : St) : Res := if 0 ≤ a3 then bnd (FX11_leagueAt a0 (gm s 6 a3 5) s) fun x1 s1 => if x1 = (-1) then fX11_enter_85 kb s1 else if 0 ≤ a3 then if (gm s1 6 a3 15) = 0 then (if 0 ≤ x1 then if (gm s1 1 x1 6) = 0 then (if 0 ≤ x1 then bnd (FX3_letsAll x1 a3 s1) fun x2 s2 => if x2 = 0 then fX11_enter_85 kb s2 else fX11_enter_96 kb a0 a2 a3 x1 s2 else none) else fX11_enter_85 kb s1 else none) else fX11_enter_85 kb s1 else none else none
noncomputable def fX11_enter_20 (kb : Co) (a0 a2 a3 : Int) (s : St) : Res := bnd (FX11_isWithin a2 0 99 s) fun x1 s1 => if x1 = 0 then some (1, 0, thw s1) else fX11_enter_40 kb a0 a2 a3 s1
noncomputable def fX11_enter_0 (kb : Co) (a0 a1 a2 : Int) (s : St) : Res := bnd (FX11_societyAt a0 a1 s) fun x1 s1 => if x1 = (-1) then some (3, 0, thw s1) else fX11_enter_20 kb a0 a2 x1 s1
noncomputable def tX11_enter_96 (kb : Co) : List Rw := []
noncomputable def tX11_enter_85 (kb : Co) : List Rw := (96, [(3, 11), (7, 0), (0, 0), (2, 6), (2, 0)], [], fun xs ys s => fX11_enter_96 kb (xs.getD 0 0) (xs.getD 1 0) (xs.getD 2 0) (xs.getD 3 0) s) :: tX11_enter_96 kb
noncomputable def tX11_enter_40 (kb : Co) : List Rw := (85, [(7, 0), (7, 0), (7, 0), (7, 0), (7, 0)], [], fun xs ys s => fX11_enter_85 kb s) :: tX11_enter_85 kb
noncomputable def tX11_enter_20 (kb : Co) : List Rw := (40, [(3, 11), (7, 0), (0, 0), (2, 6), (7, 0)], [], fun xs ys s => fX11_enter_40 kb (xs.getD 0 0) (xs.getD 1 0) (xs.getD 2 0) s) :: tX11_enter_40 kb
noncomputable def tX11_enter_0 (kb : Co) : List Rw := (20, [(3, 11), (7, 0), (0, 0), (2, 6), (7, 0)], [], fun xs ys s => fX11_enter_20 kb (xs.getD 0 0) (xs.getD 1 0) (xs.getD 2 0) s) :: tX11_enter_20 kb
noncomputable def rX11_enter (kb : Co) : List Rw := (0, [(3, 11), (0, 0), (0, 0), (7, 0), (7, 0)], [], fun xs ys s => fX11_enter_0 kb (xs.getD 0 0) (xs.getD 1 0) (xs.getD 2 0) s) :: tX11_enter_0 kb
noncomputable def kX11_enter : Nat → Co
  | 0 => nk
  | n + 1 => fam (rX11_enter (kX11_enter n)) nk
noncomputable def FX11_enter (a0 a1 a2 : Int) (s : St) : Res := fX11_enter_0 (kX11_enter 0) a0 a1 a2 s
noncomputable def gX11_enter : Fn := fun xs s => FX11_enter (xs.getD 0 0) (xs.getD 1 0) (xs.getD 2 0) s
noncomputable def mdX11_enter : MD := ([(3, 11), (0, 0), (0, 0)], (0, 0), yX11_enter, cX11_enter, (5, (some .int), 6, 133, []))
-- Floatparade.change(II)Z
noncomputable def fX11_change_111 (kb : Co) (a3 a4 a5 : Int) (s : St) : Res := if 0 ≤ a5 then bnd (FX4_changePlaces (2 * a5) a3 a4 s) fun x1 s1 => if (x1 : Int) = 0 ∨ (x1 : Int) = 1 then some (0, x1, s1) else none else none
noncomputable def fX11_change_100 (kb : Co) (s : St) : Res := some (2, 0, thw s)
noncomputable def fX11_change_47 (kb : Co) (a0 a3 a4 : Int) (s : St) : Res := if 0 ≤ a3 then bnd (FX11_leagueAt a0 (gm s 6 a3 5) s) fun x1 s1 => if x1 = (-1) then fX11_change_100 kb s1 else if 0 ≤ a3 then if (gm s1 6 a3 15) = 0 then fX11_change_100 kb s1 else if 0 ≤ a4 then if (gm s1 6 a4 15) = 0 then fX11_change_100 kb s1 else if 0 ≤ a3 then if 0 ≤ a4 then if (gm s1 6 a3 5) = (gm s1 6 a4 5) then (if 0 ≤ x1 then if (gm s1 1 x1 6) = 0 then fX11_change_111 kb a3 a4 x1 s1 else fX11_change_100 kb s1 else none) else fX11_change_100 kb s1 else none else none else none else none else none
noncomputable def fX11_change_32 (kb : Co) (a0 a1 a2 a3 a4 : Int) (s : St) : Res := if a1 = a2 then some (1, 0, thw s) else fX11_change_47 kb a0 a3 a4 s
noncomputable def fX11_change_22 (kb : Co) (s : St) : Res := some (3, 0, thw s)
noncomputable def fX11_change_0 (kb : Co) (a0 a1 a2 : Int) (s : St) : Res := bnd (FX11_societyAt a0 a1 s) fun x1 s1 => bnd (FX11_societyAt a0 a2 s1) fun x2 s2 => if x1 = (-1) then fX11_change_22 kb s2 else if x2 = (-1) then fX11_change_22 kb s2 else fX11_change_32 kb a0 a1 a2 x1 x2 s2
noncomputable def tX11_change_111 (kb : Co) : List Rw := []
noncomputable def tX11_change_100 (kb : Co) : List Rw := (111, [(7, 0), (7, 0), (7, 0), (2, 6), (2, 6), (2, 0)], [], fun xs ys s => fX11_change_111 kb (xs.getD 0 0) (xs.getD 1 0) (xs.getD 2 0) s) :: tX11_change_111 kb
noncomputable def tX11_change_47 (kb : Co) : List Rw := (100, [(7, 0), (7, 0), (7, 0), (7, 0), (7, 0), (7, 0)], [], fun xs ys s => fX11_change_100 kb s) :: tX11_change_100 kb
noncomputable def tX11_change_32 (kb : Co) : List Rw := (47, [(3, 11), (7, 0), (7, 0), (2, 6), (2, 6), (7, 0)], [], fun xs ys s => fX11_change_47 kb (xs.getD 0 0) (xs.getD 1 0) (xs.getD 2 0) s) :: tX11_change_47 kb
noncomputable def tX11_change_22 (kb : Co) : List Rw := (32, [(3, 11), (0, 0), (0, 0), (2, 6), (2, 6), (7, 0)], [], fun xs ys s => fX11_change_32 kb (xs.getD 0 0) (xs.getD 1 0) (xs.getD 2 0) (xs.getD 3 0) (xs.getD 4 0) s) :: tX11_change_32 kb
noncomputable def tX11_change_0 (kb : Co) : List Rw := (22, [(7, 0), (7, 0), (7, 0), (7, 0), (7, 0), (7, 0)], [], fun xs ys s => fX11_change_22 kb s) :: tX11_change_22 kb
noncomputable def rX11_change (kb : Co) : List Rw := (0, [(3, 11), (0, 0), (0, 0), (7, 0), (7, 0), (7, 0)], [], fun xs ys s => fX11_change_0 kb (xs.getD 0 0) (xs.getD 1 0) (xs.getD 2 0) s) :: tX11_change_0 kb
noncomputable def kX11_change : Nat → Co
  | 0 => nk
  | n + 1 => fam (rX11_change (kX11_change n)) nk
noncomputable def FX11_change (a0 a1 a2 : Int) (s : St) : Res := fX11_change_0 (kX11_change 0) a0 a1 a2 s
noncomputable def gX11_change : Fn := fun xs s => FX11_change (xs.getD 0 0) (xs.getD 1 0) (xs.getD 2 0) s
noncomputable def mdX11_change : MD := ([(3, 11), (0, 0), (0, 0)], (0, 0), yX11_change, cX11_change, (6, (some .boolean), 6, 94, []))
-- Floatparade.order(II)I
noncomputable def fX11_order_35 (kb : Co) (a2 a3 : Int) (s : St) : Res := if 0 ≤ a3 then bnd (FX4_numberAt (2 * a3) a2 s) fun x1 s1 => some (0, x1, s1) else none
noncomputable def fX11_order_15 (kb : Co) (a0 a1 a2 : Int) (s : St) : Res := bnd (FX11_leagueAt a0 a1 s) fun x1 s1 => if x1 = (-1) then some (1, 0, thw s1) else fX11_order_35 kb a2 x1 s1
noncomputable def fX11_order_0 (kb : Co) (a0 a1 a2 : Int) (s : St) : Res := if a2 < 0 then some (3, 0, thw s) else fX11_order_15 kb a0 a1 a2 s
noncomputable def tX11_order_35 (kb : Co) : List Rw := []
noncomputable def tX11_order_15 (kb : Co) : List Rw := (35, [(7, 0), (7, 0), (0, 0), (2, 0)], [], fun xs ys s => fX11_order_35 kb (xs.getD 0 0) (xs.getD 1 0) s) :: tX11_order_35 kb
noncomputable def tX11_order_0 (kb : Co) : List Rw := (15, [(3, 11), (0, 0), (0, 0), (7, 0)], [], fun xs ys s => fX11_order_15 kb (xs.getD 0 0) (xs.getD 1 0) (xs.getD 2 0) s) :: tX11_order_15 kb
noncomputable def rX11_order (kb : Co) : List Rw := (0, [(3, 11), (0, 0), (0, 0), (7, 0)], [], fun xs ys s => fX11_order_0 kb (xs.getD 0 0) (xs.getD 1 0) (xs.getD 2 0) s) :: tX11_order_0 kb
noncomputable def kX11_order : Nat → Co
  | 0 => nk
  | n + 1 => fam (rX11_order (kX11_order n)) nk
noncomputable def FX11_order (a0 a1 a2 : Int) (s : St) : Res := fX11_order_0 (kX11_order 0) a0 a1 a2 s
noncomputable def gX11_order : Fn := fun xs s => FX11_order (xs.getD 0 0) (xs.getD 1 0) (xs.getD 2 0) s
noncomputable def mdX11_order : MD := ([(3, 11), (0, 0), (0, 0)], (0, 0), yX11_order, cX11_order, (4, (some .int), 6, 90, []))
-- Floatparade.begin(III)I
noncomputable def fX11_begin_78 (kb : Co) (a2 a3 a4 : Int) (s : St) : Res := if 0 ≤ a4 then if 0 ≤ a4 then bnd (FX1_form a4 (2 * a4) a2 a3 s) fun x1 s1 => some (0, x1, s1) else none else none
noncomputable def fX11_begin_67 (kb : Co) (s : St) : Res := some (2, 0, thw s)
noncomputable def fX11_begin_45 (kb : Co) (a2 a3 a4 : Int) (s : St) : Res := if 0 ≤ a4 then if (gm s 1 a4 6) = 0 then (if 0 ≤ a4 then if (gm s 4 (2 * a4) 1) = 0 then fX11_begin_67 kb s else fX11_begin_78 kb a2 a3 a4 s else none) else fX11_begin_67 kb s else none
noncomputable def fX11_begin_34 (kb : Co) (s : St) : Res := some (1, 0, thw s)
noncomputable def fX11_begin_0 (kb : Co) (a0 a1 a2 a3 : Int) (s : St) : Res := bnd (FX11_leagueAt a0 a1 s) fun x1 s1 => if x1 = (-1) then fX11_begin_34 kb s1 else bnd (FX11_isWithin a2 1 200 s1) fun x2 s2 => if x2 = 0 then fX11_begin_34 kb s2 else bnd (FX11_isWithin a3 a2 200 s2) fun x3 s3 => if x3 = 0 then fX11_begin_34 kb s3 else fX11_begin_45 kb a2 a3 x1 s3
noncomputable def tX11_begin_78 (kb : Co) : List Rw := []
noncomputable def tX11_begin_67 (kb : Co) : List Rw := (78, [(7, 0), (7, 0), (0, 0), (0, 0), (2, 0)], [], fun xs ys s => fX11_begin_78 kb (xs.getD 0 0) (xs.getD 1 0) (xs.getD 2 0) s) :: tX11_begin_78 kb
noncomputable def tX11_begin_45 (kb : Co) : List Rw := (67, [(7, 0), (7, 0), (7, 0), (7, 0), (7, 0)], [], fun xs ys s => fX11_begin_67 kb s) :: tX11_begin_67 kb
noncomputable def tX11_begin_34 (kb : Co) : List Rw := (45, [(7, 0), (7, 0), (0, 0), (0, 0), (2, 0)], [], fun xs ys s => fX11_begin_45 kb (xs.getD 0 0) (xs.getD 1 0) (xs.getD 2 0) s) :: tX11_begin_45 kb
noncomputable def tX11_begin_0 (kb : Co) : List Rw := (34, [(7, 0), (7, 0), (7, 0), (7, 0), (7, 0)], [], fun xs ys s => fX11_begin_34 kb s) :: tX11_begin_34 kb
noncomputable def rX11_begin (kb : Co) : List Rw := (0, [(3, 11), (0, 0), (0, 0), (0, 0), (7, 0)], [], fun xs ys s => fX11_begin_0 kb (xs.getD 0 0) (xs.getD 1 0) (xs.getD 2 0) (xs.getD 3 0) s) :: tX11_begin_0 kb
noncomputable def kX11_begin : Nat → Co
  | 0 => nk
  | n + 1 => fam (rX11_begin (kX11_begin n)) nk
noncomputable def FX11_begin (a0 a1 a2 a3 : Int) (s : St) : Res := fX11_begin_0 (kX11_begin 0) a0 a1 a2 a3 s
noncomputable def gX11_begin : Fn := fun xs s => FX11_begin (xs.getD 0 0) (xs.getD 1 0) (xs.getD 2 0) (xs.getD 3 0) s
noncomputable def mdX11_begin : MD := ([(3, 11), (0, 0), (0, 0), (0, 0)], (0, 0), yX11_begin, cX11_begin, (5, (some .int), 6, 132, []))
-- Floatparade.stop(III)I
noncomputable def fX11_stop_98 (kb : Co) (a3 a5 : Int) (s : St) : Res := if 0 ≤ a5 then if 0 ≤ a5 then if 0 ≤ a5 then some (0, (gm (pm s 2 a5 4 (wr ((gm s 2 a5 4) + a3))) 2 a5 4), (pm s 2 a5 4 (wr ((gm s 2 a5 4) + a3)))) else none else none else none
noncomputable def fX11_stop_87 (kb : Co) (s : St) : Res := some (3, 0, thw s)
noncomputable def fX11_stop_55 (kb : Co) (a2 a3 a4 : Int) (s : St) : Res := if 0 ≤ a4 then bnd (FX1_partAt a4 a2 s) fun x1 s1 => if x1 = (-1) then fX11_stop_87 kb s1 else if 0 ≤ a4 then bnd (FX3_cells a4 s1) fun x2 s2 => if 0 ≤ x1 then bnd (FX2_isOut x1 x2 s2) fun x3 s3 => if x3 = 0 then fX11_stop_98 kb a3 x1 s3 else fX11_stop_87 kb s3 else none else none else none
noncomputable def fX11_stop_33 (kb : Co) (a2 a3 a4 : Int) (s : St) : Res := if 0 ≤ a4 then bnd (FX1_goesOn a4 s) fun x1 s1 => if x1 = 0 then some (2, 0, thw s1) else fX11_stop_55 kb a2 a3 a4 s1 else none
noncomputable def fX11_stop_22 (kb : Co) (s : St) : Res := some (1, 0, thw s)
noncomputable def fX11_stop_0 (kb : Co) (a0 a1 a2 a3 : Int) (s : St) : Res := bnd (FX11_leagueAt a0 a1 s) fun x1 s1 => if x1 = (-1) then fX11_stop_22 kb s1 else bnd (FX11_isWithin a3 1 20 s1) fun x2 s2 => if x2 = 0 then fX11_stop_22 kb s2 else fX11_stop_33 kb a2 a3 x1 s2
noncomputable def tX11_stop_98 (kb : Co) : List Rw := []
noncomputable def tX11_stop_87 (kb : Co) : List Rw := (98, [(7, 0), (7, 0), (7, 0), (0, 0), (7, 0), (2, 2)], [], fun xs ys s => fX11_stop_98 kb (xs.getD 0 0) (xs.getD 1 0) s) :: tX11_stop_98 kb
noncomputable def tX11_stop_55 (kb : Co) : List Rw := (87, [(7, 0), (7, 0), (7, 0), (7, 0), (7, 0), (7, 0)], [], fun xs ys s => fX11_stop_87 kb s) :: tX11_stop_87 kb
noncomputable def tX11_stop_33 (kb : Co) : List Rw := (55, [(7, 0), (7, 0), (0, 0), (0, 0), (2, 0), (7, 0)], [], fun xs ys s => fX11_stop_55 kb (xs.getD 0 0) (xs.getD 1 0) (xs.getD 2 0) s) :: tX11_stop_55 kb
noncomputable def tX11_stop_22 (kb : Co) : List Rw := (33, [(7, 0), (7, 0), (0, 0), (0, 0), (2, 0), (7, 0)], [], fun xs ys s => fX11_stop_33 kb (xs.getD 0 0) (xs.getD 1 0) (xs.getD 2 0) s) :: tX11_stop_33 kb
noncomputable def tX11_stop_0 (kb : Co) : List Rw := (22, [(7, 0), (7, 0), (7, 0), (7, 0), (7, 0), (7, 0)], [], fun xs ys s => fX11_stop_22 kb s) :: tX11_stop_22 kb
noncomputable def rX11_stop (kb : Co) : List Rw := (0, [(3, 11), (0, 0), (0, 0), (0, 0), (7, 0), (7, 0)], [], fun xs ys s => fX11_stop_0 kb (xs.getD 0 0) (xs.getD 1 0) (xs.getD 2 0) (xs.getD 3 0) s) :: tX11_stop_0 kb
noncomputable def kX11_stop : Nat → Co
  | 0 => nk
  | n + 1 => fam (rX11_stop (kX11_stop n)) nk
noncomputable def FX11_stop (a0 a1 a2 a3 : Int) (s : St) : Res := fX11_stop_0 (kX11_stop 0) a0 a1 a2 a3 s
noncomputable def gX11_stop : Fn := fun xs s => FX11_stop (xs.getD 0 0) (xs.getD 1 0) (xs.getD 2 0) (xs.getD 3 0) s
noncomputable def mdX11_stop : MD := ([(3, 11), (0, 0), (0, 0), (0, 0)], (0, 0), yX11_stop, cX11_stop, (6, (some .int), 6, 90, []))
-- Floatparade.rain(Z)Z
noncomputable def fX11_rain_0 (kb : Co) (a0 a1 : Int) (s : St) : Res := if (a1 : Int) = 0 ∨ (a1 : Int) = 1 then if ((gm s 11 a0 6) : Int) = 0 ∨ ((gm s 11 a0 6) : Int) = 1 then some (0, (gm s 11 a0 6), (pm s 11 a0 6 a1)) else none else none
noncomputable def tX11_rain_0 (kb : Co) : List Rw := []
noncomputable def rX11_rain (kb : Co) : List Rw := (0, [(3, 11), (0, 0), (7, 0)], [], fun xs ys s => fX11_rain_0 kb (xs.getD 0 0) (xs.getD 1 0) s) :: tX11_rain_0 kb
noncomputable def kX11_rain : Nat → Co
  | 0 => nk
  | n + 1 => fam (rX11_rain (kX11_rain n)) nk
noncomputable def FX11_rain (a0 a1 : Int) (s : St) : Res := fX11_rain_0 (kX11_rain 0) a0 a1 s
noncomputable def gX11_rain : Fn := fun xs s => FX11_rain (xs.getD 0 0) (xs.getD 1 0) s
noncomputable def mdX11_rain : MD := ([(3, 11), (0, 0)], (0, 0), yX11_rain, cX11_rain, (3, (some .boolean), 0, 0, []))
-- Floatparade.ambulance(I)I
noncomputable def fX11_ambulance_89 (kb : Co) (a2 : Int) (s : St) : Res := some (0, a2, s)
noncomputable def fX11_ambulance_83 (kb : Co) (a0 a1 a2 a3 : Int) (s : St) : Res := kb 21 [(3, 11, a0), (0, 0, a1), (0, 0, a2), (0, 0, (wr (a3 + 1))), (7, 0, 0)] [] s
noncomputable def fX11_ambulance_21 (kb : Co) (a0 a1 a2 a3 : Int) (s : St) : Res := if a3 < 2 then (if 0 ≤ a3 ∧ a3 < 2 then if (gm s 14 a0 a3) = (-1) then fX11_ambulance_83 kb a0 a1 a2 a3 s else if 0 ≤ (gm s 14 a0 a3) then bnd (FX1_goesOn (gm s 14 a0 a3) s) fun x1 s1 => if x1 = 0 then fX11_ambulance_83 kb a0 a1 a2 a3 s1 else if 0 ≤ (gm s 14 a0 a3) then bnd (FX1_hold (gm s 14 a0 a3) a1 s1) fun _ s2 => if 0 ≤ (gm s 14 a0 a3) then if 0 ≤ (gm s 14 a0 a3) then bnd (FX3_cellOf (gm s 14 a0 a3) a1 s2) fun x3 s3 => bnd (FX1_partsOn (gm s 14 a0 a3) x3 s3) fun x4 s4 => fX11_ambulance_83 kb a0 a1 (wr (a2 + x4)) a3 s4 else none else none else none else none else none) else fX11_ambulance_89 kb a2 s
noncomputable def fX11_ambulance_17 (kb : Co) (a0 a1 : Int) (s : St) : Res := fX11_ambulance_21 kb a0 a1 0 0 s
noncomputable def fX11_ambulance_0 (kb : Co) (a0 a1 : Int) (s : St) : Res := bnd (FX11_isCorner a1 s) fun x1 s1 => if x1 = 0 then some (3, 0, thw s1) else fX11_ambulance_17 kb a0 a1 s1
noncomputable def tX11_ambulance_89 (kb : Co) : List Rw := []
noncomputable def tX11_ambulance_83 (kb : Co) : List Rw := (89, [(7, 0), (7, 0), (0, 0), (7, 0), (7, 0)], [], fun xs ys s => fX11_ambulance_89 kb (xs.getD 0 0) s) :: tX11_ambulance_89 kb
noncomputable def tX11_ambulance_21 (kb : Co) : List Rw := (83, [(3, 11), (0, 0), (0, 0), (0, 0), (7, 0)], [], fun xs ys s => fX11_ambulance_83 kb (xs.getD 0 0) (xs.getD 1 0) (xs.getD 2 0) (xs.getD 3 0) s) :: tX11_ambulance_83 kb
noncomputable def tX11_ambulance_17 (kb : Co) : List Rw := (21, [(3, 11), (0, 0), (0, 0), (0, 0), (7, 0)], [], fun xs ys s => fX11_ambulance_21 kb (xs.getD 0 0) (xs.getD 1 0) (xs.getD 2 0) (xs.getD 3 0) s) :: tX11_ambulance_21 kb
noncomputable def tX11_ambulance_0 (kb : Co) : List Rw := (17, [(3, 11), (0, 0), (7, 0), (7, 0), (7, 0)], [], fun xs ys s => fX11_ambulance_17 kb (xs.getD 0 0) (xs.getD 1 0) s) :: tX11_ambulance_17 kb
noncomputable def rX11_ambulance (kb : Co) : List Rw := (0, [(3, 11), (0, 0), (7, 0), (7, 0), (7, 0)], [], fun xs ys s => fX11_ambulance_0 kb (xs.getD 0 0) (xs.getD 1 0) s) :: tX11_ambulance_0 kb
noncomputable def kX11_ambulance : Nat → Co
  | 0 => nk
  | n + 1 => fam (rX11_ambulance (kX11_ambulance n)) nk
noncomputable def FX11_ambulance (a0 a1 : Int) (s : St) : Res := fX11_ambulance_0 (kX11_ambulance 9999) a0 a1 s
noncomputable def gX11_ambulance : Fn := fun xs s => FX11_ambulance (xs.getD 0 0) (xs.getD 1 0) s
noncomputable def mdX11_ambulance : MD := ([(3, 11), (0, 0)], (0, 0), yX11_ambulance, cX11_ambulance, (5, (some .int), 6, 90, []))
-- Floatparade.march(II)I
noncomputable def fX11_march_96 (kb : Co) (a3 : Int) (s : St) : Res := if 0 ≤ a3 then some (0, (gm s 1 a3 3), s) else none
noncomputable def fX11_march_55 (kb : Co) (a0 a2 a3 a4 : Int) (s : St) : Res := if a4 < a2 then (if 0 ≤ a3 then bnd (FX1_goesOn a3 s) fun x1 s1 => if x1 = 0 then fX11_march_96 kb a3 s1 else if 0 ≤ a3 then if 0 ≤ a3 then bnd (FX1_passMinute a3 a3 a0 (gm s1 11 a0 6) s1) fun _ s2 => kb 55 [(3, 11, a0), (7, 0, 0), (0, 0, a2), (2, 0, a3), (0, 0, (wr (a4 + 1)))] [] s2 else none else none else none) else fX11_march_96 kb a3 s
noncomputable def fX11_march_52 (kb : Co) (a0 a2 a3 : Int) (s : St) : Res := fX11_march_55 kb a0 a2 a3 0 s
noncomputable def fX11_march_31 (kb : Co) (a0 a2 a3 : Int) (s : St) : Res := if 0 ≤ a3 then bnd (FX1_goesOn a3 s) fun x1 s1 => if x1 = 0 then some (2, 0, thw s1) else fX11_march_52 kb a0 a2 a3 s1 else none
noncomputable def fX11_march_20 (kb : Co) (s : St) : Res := some (1, 0, thw s)
noncomputable def fX11_march_0 (kb : Co) (a0 a1 a2 : Int) (s : St) : Res := bnd (FX11_leagueAt a0 a1 s) fun x1 s1 => if x1 = (-1) then fX11_march_20 kb s1 else bnd (FX11_isWithin a2 1 60 s1) fun x2 s2 => if x2 = 0 then fX11_march_20 kb s2 else fX11_march_31 kb a0 a2 x1 s2
noncomputable def tX11_march_96 (kb : Co) : List Rw := []
noncomputable def tX11_march_55 (kb : Co) : List Rw := (96, [(7, 0), (7, 0), (7, 0), (2, 0), (7, 0)], [], fun xs ys s => fX11_march_96 kb (xs.getD 0 0) s) :: tX11_march_96 kb
noncomputable def tX11_march_52 (kb : Co) : List Rw := (55, [(3, 11), (7, 0), (0, 0), (2, 0), (0, 0)], [], fun xs ys s => fX11_march_55 kb (xs.getD 0 0) (xs.getD 1 0) (xs.getD 2 0) (xs.getD 3 0) s) :: tX11_march_55 kb
noncomputable def tX11_march_31 (kb : Co) : List Rw := (52, [(3, 11), (7, 0), (0, 0), (2, 0), (7, 0)], [], fun xs ys s => fX11_march_52 kb (xs.getD 0 0) (xs.getD 1 0) (xs.getD 2 0) s) :: tX11_march_52 kb
noncomputable def tX11_march_20 (kb : Co) : List Rw := (31, [(3, 11), (7, 0), (0, 0), (2, 0), (7, 0)], [], fun xs ys s => fX11_march_31 kb (xs.getD 0 0) (xs.getD 1 0) (xs.getD 2 0) s) :: tX11_march_31 kb
noncomputable def tX11_march_0 (kb : Co) : List Rw := (20, [(7, 0), (7, 0), (7, 0), (7, 0), (7, 0)], [], fun xs ys s => fX11_march_20 kb s) :: tX11_march_20 kb
noncomputable def rX11_march (kb : Co) : List Rw := (0, [(3, 11), (0, 0), (0, 0), (7, 0), (7, 0)], [], fun xs ys s => fX11_march_0 kb (xs.getD 0 0) (xs.getD 1 0) (xs.getD 2 0) s) :: tX11_march_0 kb
noncomputable def kX11_march : Nat → Co
  | 0 => nk
  | n + 1 => fam (rX11_march (kX11_march n)) nk
noncomputable def FX11_march (a0 a1 a2 : Int) (s : St) : Res := fX11_march_0 (kX11_march 9999) a0 a1 a2 s
noncomputable def gX11_march : Fn := fun xs s => FX11_march (xs.getD 0 0) (xs.getD 1 0) (xs.getD 2 0) s
noncomputable def mdX11_march : MD := ([(3, 11), (0, 0), (0, 0)], (0, 0), yX11_march, cX11_march, (5, (some .int), 6, 142, []))
-- Floatparade.part(III)I
noncomputable def fX11_part_81 (kb : Co) (a3 a4 a5 : Int) (s : St) : Res := if 0 ≤ a4 then bnd (FX3_cells a4 s) fun x1 s1 => if 0 ≤ a5 then bnd (FX2_tell a5 a3 x1 s1) fun x2 s2 => some (0, x2, s2) else none else none
noncomputable def fX11_part_54 (kb : Co) (a2 a3 a4 : Int) (s : St) : Res := if 0 ≤ a4 then bnd (FX1_partAt a4 a2 s) fun x1 s1 => if x1 = (-1) then some (3, 0, thw s1) else fX11_part_81 kb a3 a4 x1 s1 else none
noncomputable def fX11_part_32 (kb : Co) (a2 a3 a4 : Int) (s : St) : Res := if 0 ≤ a4 then if (gm s 1 a4 6) = 0 then some (2, 0, thw s) else fX11_part_54 kb a2 a3 a4 s else none
noncomputable def fX11_part_21 (kb : Co) (s : St) : Res := some (1, 0, thw s)
noncomputable def fX11_part_0 (kb : Co) (a0 a1 a2 a3 : Int) (s : St) : Res := bnd (FX11_leagueAt a0 a1 s) fun x1 s1 => if x1 = (-1) then fX11_part_21 kb s1 else bnd (FX11_isWithin a3 0 4 s1) fun x2 s2 => if x2 = 0 then fX11_part_21 kb s2 else fX11_part_32 kb a2 a3 x1 s2
noncomputable def tX11_part_81 (kb : Co) : List Rw := []
noncomputable def tX11_part_54 (kb : Co) : List Rw := (81, [(7, 0), (7, 0), (7, 0), (0, 0), (2, 0), (2, 2)], [], fun xs ys s => fX11_part_81 kb (xs.getD 0 0) (xs.getD 1 0) (xs.getD 2 0) s) :: tX11_part_81 kb
noncomputable def tX11_part_32 (kb : Co) : List Rw := (54, [(7, 0), (7, 0), (0, 0), (0, 0), (2, 0), (7, 0)], [], fun xs ys s => fX11_part_54 kb (xs.getD 0 0) (xs.getD 1 0) (xs.getD 2 0) s) :: tX11_part_54 kb
noncomputable def tX11_part_21 (kb : Co) : List Rw := (32, [(7, 0), (7, 0), (0, 0), (0, 0), (2, 0), (7, 0)], [], fun xs ys s => fX11_part_32 kb (xs.getD 0 0) (xs.getD 1 0) (xs.getD 2 0) s) :: tX11_part_32 kb
noncomputable def tX11_part_0 (kb : Co) : List Rw := (21, [(7, 0), (7, 0), (7, 0), (7, 0), (7, 0), (7, 0)], [], fun xs ys s => fX11_part_21 kb s) :: tX11_part_21 kb
noncomputable def rX11_part (kb : Co) : List Rw := (0, [(3, 11), (0, 0), (0, 0), (0, 0), (7, 0), (7, 0)], [], fun xs ys s => fX11_part_0 kb (xs.getD 0 0) (xs.getD 1 0) (xs.getD 2 0) (xs.getD 3 0) s) :: tX11_part_0 kb
noncomputable def kX11_part : Nat → Co
  | 0 => nk
  | n + 1 => fam (rX11_part (kX11_part n)) nk
noncomputable def FX11_part (a0 a1 a2 a3 : Int) (s : St) : Res := fX11_part_0 (kX11_part 0) a0 a1 a2 a3 s
noncomputable def gX11_part : Fn := fun xs s => FX11_part (xs.getD 0 0) (xs.getD 1 0) (xs.getD 2 0) (xs.getD 3 0) s
noncomputable def mdX11_part : MD := ([(3, 11), (0, 0), (0, 0), (0, 0)], (0, 0), yX11_part, cX11_part, (6, (some .int), 6, 90, []))
-- Floatparade.clock(II)I
noncomputable def fX11_clock_83 (kb : Co) (a3 : Int) (s : St) : Res := if 0 ≤ a3 then bnd (FX6_time a3 s) fun x1 s1 => some (0, x1, s1) else none
noncomputable def fX11_clock_78 (kb : Co) (a3 : Int) (s : St) : Res := if 0 ≤ a3 then some (0, (gm s 6 a3 14), s) else none
noncomputable def fX11_clock_73 (kb : Co) (a3 : Int) (s : St) : Res := if 0 ≤ a3 then some (0, (gm s 6 a3 13), s) else none
noncomputable def fX11_clock_68 (kb : Co) (a3 : Int) (s : St) : Res := if 0 ≤ a3 then some (0, (gm s 6 a3 12), s) else none
noncomputable def fX11_clock_40 (kb : Co) (a2 a3 : Int) (s : St) : Res := if a2 = 0 then fX11_clock_68 kb a3 s else if a2 = 1 then fX11_clock_73 kb a3 s else if a2 = 2 then fX11_clock_78 kb a3 s else fX11_clock_83 kb a3 s
noncomputable def fX11_clock_20 (kb : Co) (a2 a3 : Int) (s : St) : Res := bnd (FX11_isWithin a2 0 3 s) fun x1 s1 => if x1 = 0 then some (1, 0, thw s1) else fX11_clock_40 kb a2 a3 s1
noncomputable def fX11_clock_0 (kb : Co) (a0 a1 a2 : Int) (s : St) : Res := bnd (FX11_societyAt a0 a1 s) fun x1 s1 => if x1 = (-1) then some (3, 0, thw s1) else fX11_clock_20 kb a2 x1 s1
noncomputable def tX11_clock_83 (kb : Co) : List Rw := []
noncomputable def tX11_clock_78 (kb : Co) : List Rw := (83, [(7, 0), (7, 0), (7, 0), (2, 6)], [], fun xs ys s => fX11_clock_83 kb (xs.getD 0 0) s) :: tX11_clock_83 kb
noncomputable def tX11_clock_73 (kb : Co) : List Rw := (78, [(7, 0), (7, 0), (7, 0), (2, 6)], [], fun xs ys s => fX11_clock_78 kb (xs.getD 0 0) s) :: tX11_clock_78 kb
noncomputable def tX11_clock_68 (kb : Co) : List Rw := (73, [(7, 0), (7, 0), (7, 0), (2, 6)], [], fun xs ys s => fX11_clock_73 kb (xs.getD 0 0) s) :: tX11_clock_73 kb
noncomputable def tX11_clock_40 (kb : Co) : List Rw := (68, [(7, 0), (7, 0), (7, 0), (2, 6)], [], fun xs ys s => fX11_clock_68 kb (xs.getD 0 0) s) :: tX11_clock_68 kb
noncomputable def tX11_clock_20 (kb : Co) : List Rw := (40, [(7, 0), (7, 0), (0, 0), (2, 6)], [], fun xs ys s => fX11_clock_40 kb (xs.getD 0 0) (xs.getD 1 0) s) :: tX11_clock_40 kb
noncomputable def tX11_clock_0 (kb : Co) : List Rw := (20, [(7, 0), (7, 0), (0, 0), (2, 6)], [], fun xs ys s => fX11_clock_20 kb (xs.getD 0 0) (xs.getD 1 0) s) :: tX11_clock_20 kb
noncomputable def rX11_clock (kb : Co) : List Rw := (0, [(3, 11), (0, 0), (0, 0), (7, 0)], [], fun xs ys s => fX11_clock_0 kb (xs.getD 0 0) (xs.getD 1 0) (xs.getD 2 0) s) :: tX11_clock_0 kb
noncomputable def kX11_clock : Nat → Co
  | 0 => nk
  | n + 1 => fam (rX11_clock (kX11_clock n)) nk
noncomputable def FX11_clock (a0 a1 a2 : Int) (s : St) : Res := fX11_clock_0 (kX11_clock 0) a0 a1 a2 s
noncomputable def gX11_clock : Fn := fun xs s => FX11_clock (xs.getD 0 0) (xs.getD 1 0) (xs.getD 2 0) s
noncomputable def mdX11_clock : MD := ([(3, 11), (0, 0), (0, 0)], (0, 0), yX11_clock, cX11_clock, (4, (some .int), 6, 90, []))
-- Floatparade.isJudge(I)Z
noncomputable def fX11_isJudge_0 (kb : Co) (a0 : Int) (s : St) : Res := bnd (FX11_isWithin a0 0 3 s) fun x1 s1 => if (x1 : Int) = 0 ∨ (x1 : Int) = 1 then some (0, x1, s1) else none
noncomputable def tX11_isJudge_0 (kb : Co) : List Rw := []
noncomputable def rX11_isJudge (kb : Co) : List Rw := (0, [(0, 0)], [], fun xs ys s => fX11_isJudge_0 kb (xs.getD 0 0) s) :: tX11_isJudge_0 kb
noncomputable def kX11_isJudge : Nat → Co
  | 0 => nk
  | n + 1 => fam (rX11_isJudge (kX11_isJudge n)) nk
noncomputable def FX11_isJudge (a0 : Int) (s : St) : Res := fX11_isJudge_0 (kX11_isJudge 0) a0 s
noncomputable def gX11_isJudge : Fn := fun xs s => FX11_isJudge (xs.getD 0 0) s
noncomputable def mdX11_isJudge : MD := ([(0, 0)], (0, 0), yX11_isJudge, cX11_isJudge, (1, (some .boolean), 1, 22, []))
-- Floatparade.isCategory(I)Z
noncomputable def fX11_isCategory_0 (kb : Co) (a0 : Int) (s : St) : Res := bnd (FX11_isWithin a0 0 4 s) fun x1 s1 => if (x1 : Int) = 0 ∨ (x1 : Int) = 1 then some (0, x1, s1) else none
noncomputable def tX11_isCategory_0 (kb : Co) : List Rw := []
noncomputable def rX11_isCategory (kb : Co) : List Rw := (0, [(0, 0)], [], fun xs ys s => fX11_isCategory_0 kb (xs.getD 0 0) s) :: tX11_isCategory_0 kb
noncomputable def kX11_isCategory : Nat → Co
  | 0 => nk
  | n + 1 => fam (rX11_isCategory (kX11_isCategory n)) nk
noncomputable def FX11_isCategory (a0 : Int) (s : St) : Res := fX11_isCategory_0 (kX11_isCategory 0) a0 s
noncomputable def gX11_isCategory : Fn := fun xs s => FX11_isCategory (xs.getD 0 0) s
noncomputable def mdX11_isCategory : MD := ([(0, 0)], (0, 0), yX11_isCategory, cX11_isCategory, (1, (some .boolean), 1, 22, []))
-- Floatparade.hasMarched(LFloatparade$Society;)Z
noncomputable def fX11_hasMarched_35 (kb : Co) (y0 : Int) (s : St) : Res := if (y0 : Int) = 0 ∨ (y0 : Int) = 1 then some (0, y0, s) else none
noncomputable def fX11_hasMarched_34 (kb : Co) (s : St) : Res := fX11_hasMarched_35 kb 0 s
noncomputable def fX11_hasMarched_0 (kb : Co) (a0 a1 : Int) (s : St) : Res := if 0 ≤ a1 then bnd (FX11_leagueAt a0 (gm s 6 a1 5) s) fun x1 s1 => if x1 = (-1) then fX11_hasMarched_34 kb s1 else if 0 ≤ x1 then if (gm s1 1 x1 7) = 0 then fX11_hasMarched_34 kb s1 else if 0 ≤ a1 then if (gm s1 6 a1 15) = 0 then fX11_hasMarched_34 kb s1 else fX11_hasMarched_35 kb 1 s1 else none else none else none
noncomputable def tX11_hasMarched_35 (kb : Co) : List Rw := []
noncomputable def tX11_hasMarched_34 (kb : Co) : List Rw := (35, [(7, 0), (7, 0), (7, 0)], [(0, 0)], fun xs ys s => fX11_hasMarched_35 kb (ys.getD 0 0) s) :: tX11_hasMarched_35 kb
noncomputable def tX11_hasMarched_0 (kb : Co) : List Rw := (34, [(7, 0), (7, 0), (7, 0)], [], fun xs ys s => fX11_hasMarched_34 kb s) :: tX11_hasMarched_34 kb
noncomputable def rX11_hasMarched (kb : Co) : List Rw := (0, [(3, 11), (2, 6), (7, 0)], [], fun xs ys s => fX11_hasMarched_0 kb (xs.getD 0 0) (xs.getD 1 0) s) :: tX11_hasMarched_0 kb
noncomputable def kX11_hasMarched : Nat → Co
  | 0 => nk
  | n + 1 => fam (rX11_hasMarched (kX11_hasMarched n)) nk
noncomputable def FX11_hasMarched (a0 a1 : Int) (s : St) : Res := fX11_hasMarched_0 (kX11_hasMarched 0) a0 a1 s
noncomputable def gX11_hasMarched : Fn := fun xs s => FX11_hasMarched (xs.getD 0 0) (xs.getD 1 0) s
noncomputable def mdX11_hasMarched : MD := ([(3, 11), (2, 6)], (0, 0), yX11_hasMarched, cX11_hasMarched, (3, (some .boolean), 2, 43, []))
-- Floatparade.note(IIII)I
noncomputable def fX11_note_114 (kb : Co) (y0 : Int) (s : St) : Res := some (0, y0, s)
noncomputable def fX11_note_112 (kb : Co) (a6 : Int) (s : St) : Res := fX11_note_114 kb a6 s
noncomputable def fX11_note_79 (kb : Co) (a1 a3 a4 a5 : Int) (s : St) : Res := if 0 ≤ a5 then bnd (FX5_noteBy a5 a1 a3 s) fun x1 s1 => if 0 ≤ a5 then bnd (FX5_setNote a5 a1 a3 a4 s1) fun _ s2 => if x1 = 0 then fX11_note_114 kb (-1) s2 else fX11_note_112 kb x1 s2 else none else none
noncomputable def fX11_note_59 (kb : Co) (a0 a1 a3 a4 a5 : Int) (s : St) : Res := bnd (FX11_hasMarched a0 a5 s) fun x1 s1 => if x1 = 0 then some (2, 0, thw s1) else fX11_note_79 kb a1 a3 a4 a5 s1
noncomputable def fX11_note_48 (kb : Co) (s : St) : Res := some (1, 0, thw s)
noncomputable def fX11_note_22 (kb : Co) (a0 a1 a3 a4 a5 : Int) (s : St) : Res := bnd (FX11_isJudge a1 s) fun x1 s1 => if x1 = 0 then fX11_note_48 kb s1 else bnd (FX11_isCategory a3 s1) fun x2 s2 => if x2 = 0 then fX11_note_48 kb s2 else bnd (FX11_isWithin a4 50 100 s2) fun x3 s3 => if x3 = 0 then fX11_note_48 kb s3 else fX11_note_59 kb a0 a1 a3 a4 a5 s3
noncomputable def fX11_note_0 (kb : Co) (a0 a1 a2 a3 a4 : Int) (s : St) : Res := bnd (FX11_societyAt a0 a2 s) fun x1 s1 => if x1 = (-1) then some (3, 0, thw s1) else fX11_note_22 kb a0 a1 a3 a4 x1 s1
noncomputable def tX11_note_114 (kb : Co) : List Rw := []
noncomputable def tX11_note_112 (kb : Co) : List Rw := (114, [(7, 0), (7, 0), (7, 0), (7, 0), (7, 0), (7, 0), (7, 0)], [(0, 0)], fun xs ys s => fX11_note_114 kb (ys.getD 0 0) s) :: tX11_note_114 kb
noncomputable def tX11_note_79 (kb : Co) : List Rw := (112, [(7, 0), (7, 0), (7, 0), (7, 0), (7, 0), (7, 0), (0, 0)], [], fun xs ys s => fX11_note_112 kb (xs.getD 0 0) s) :: tX11_note_112 kb
noncomputable def tX11_note_59 (kb : Co) : List Rw := (79, [(7, 0), (0, 0), (7, 0), (0, 0), (0, 0), (2, 6), (7, 0)], [], fun xs ys s => fX11_note_79 kb (xs.getD 0 0) (xs.getD 1 0) (xs.getD 2 0) (xs.getD 3 0) s) :: tX11_note_79 kb
noncomputable def tX11_note_48 (kb : Co) : List Rw := (59, [(3, 11), (0, 0), (7, 0), (0, 0), (0, 0), (2, 6), (7, 0)], [], fun xs ys s => fX11_note_59 kb (xs.getD 0 0) (xs.getD 1 0) (xs.getD 2 0) (xs.getD 3 0) (xs.getD 4 0) s) :: tX11_note_59 kb
noncomputable def tX11_note_22 (kb : Co) : List Rw := (48, [(7, 0), (7, 0), (7, 0), (7, 0), (7, 0), (7, 0), (7, 0)], [], fun xs ys s => fX11_note_48 kb s) :: tX11_note_48 kb
noncomputable def tX11_note_0 (kb : Co) : List Rw := (22, [(3, 11), (0, 0), (7, 0), (0, 0), (0, 0), (2, 6), (7, 0)], [], fun xs ys s => fX11_note_22 kb (xs.getD 0 0) (xs.getD 1 0) (xs.getD 2 0) (xs.getD 3 0) (xs.getD 4 0) s) :: tX11_note_22 kb
noncomputable def rX11_note (kb : Co) : List Rw := (0, [(3, 11), (0, 0), (0, 0), (0, 0), (0, 0), (7, 0), (7, 0)], [], fun xs ys s => fX11_note_0 kb (xs.getD 0 0) (xs.getD 1 0) (xs.getD 2 0) (xs.getD 3 0) (xs.getD 4 0) s) :: tX11_note_0 kb
noncomputable def kX11_note : Nat → Co
  | 0 => nk
  | n + 1 => fam (rX11_note (kX11_note n)) nk
noncomputable def FX11_note (a0 a1 a2 a3 a4 : Int) (s : St) : Res := fX11_note_0 (kX11_note 0) a0 a1 a2 a3 a4 s
noncomputable def gX11_note : Fn := fun xs s => FX11_note (xs.getD 0 0) (xs.getD 1 0) (xs.getD 2 0) (xs.getD 3 0) (xs.getD 4 0) s
noncomputable def mdX11_note : MD := ([(3, 11), (0, 0), (0, 0), (0, 0), (0, 0)], (0, 0), yX11_note, cX11_note, (7, (some .int), 6, 90, []))
-- Floatparade.penalty(III)I
noncomputable def fX11_penalty_84 (kb : Co) (a2 a3 a4 : Int) (s : St) : Res := if 0 ≤ a4 then bnd (FX5_punish a4 a2 a3 s) fun _ s1 => if 0 ≤ a4 then some (0, (gm s1 5 a4 4), s1) else none else none
noncomputable def fX11_penalty_73 (kb : Co) (s : St) : Res := some (2, 0, thw s)
noncomputable def fX11_penalty_53 (kb : Co) (a0 a2 a3 a4 : Int) (s : St) : Res := bnd (FX11_hasMarched a0 a4 s) fun x1 s1 => if x1 = 0 then fX11_penalty_73 kb s1 else if 0 ≤ a4 then bnd (FX5_isFull a4 s1) fun x2 s2 => if x2 = 0 then fX11_penalty_84 kb a2 a3 a4 s2 else fX11_penalty_73 kb s2 else none
noncomputable def fX11_penalty_42 (kb : Co) (s : St) : Res := some (1, 0, thw s)
noncomputable def fX11_penalty_22 (kb : Co) (a0 a2 a3 a4 : Int) (s : St) : Res := bnd (FX11_isWithin a2 4 9 s) fun x1 s1 => if x1 = 0 then fX11_penalty_42 kb s1 else bnd (FX11_isWithin a3 1 99 s1) fun x2 s2 => if x2 = 0 then fX11_penalty_42 kb s2 else fX11_penalty_53 kb a0 a2 a3 a4 s2
noncomputable def fX11_penalty_0 (kb : Co) (a0 a1 a2 a3 : Int) (s : St) : Res := bnd (FX11_societyAt a0 a1 s) fun x1 s1 => if x1 = (-1) then some (3, 0, thw s1) else fX11_penalty_22 kb a0 a2 a3 x1 s1
noncomputable def tX11_penalty_84 (kb : Co) : List Rw := []
noncomputable def tX11_penalty_73 (kb : Co) : List Rw := (84, [(7, 0), (7, 0), (0, 0), (0, 0), (2, 6)], [], fun xs ys s => fX11_penalty_84 kb (xs.getD 0 0) (xs.getD 1 0) (xs.getD 2 0) s) :: tX11_penalty_84 kb
noncomputable def tX11_penalty_53 (kb : Co) : List Rw := (73, [(7, 0), (7, 0), (7, 0), (7, 0), (7, 0)], [], fun xs ys s => fX11_penalty_73 kb s) :: tX11_penalty_73 kb
noncomputable def tX11_penalty_42 (kb : Co) : List Rw := (53, [(3, 11), (7, 0), (0, 0), (0, 0), (2, 6)], [], fun xs ys s => fX11_penalty_53 kb (xs.getD 0 0) (xs.getD 1 0) (xs.getD 2 0) (xs.getD 3 0) s) :: tX11_penalty_53 kb
noncomputable def tX11_penalty_22 (kb : Co) : List Rw := (42, [(7, 0), (7, 0), (7, 0), (7, 0), (7, 0)], [], fun xs ys s => fX11_penalty_42 kb s) :: tX11_penalty_42 kb
noncomputable def tX11_penalty_0 (kb : Co) : List Rw := (22, [(3, 11), (7, 0), (0, 0), (0, 0), (2, 6)], [], fun xs ys s => fX11_penalty_22 kb (xs.getD 0 0) (xs.getD 1 0) (xs.getD 2 0) (xs.getD 3 0) s) :: tX11_penalty_22 kb
noncomputable def rX11_penalty (kb : Co) : List Rw := (0, [(3, 11), (0, 0), (0, 0), (0, 0), (7, 0)], [], fun xs ys s => fX11_penalty_0 kb (xs.getD 0 0) (xs.getD 1 0) (xs.getD 2 0) (xs.getD 3 0) s) :: tX11_penalty_0 kb
noncomputable def kX11_penalty : Nat → Co
  | 0 => nk
  | n + 1 => fam (rX11_penalty (kX11_penalty n)) nk
noncomputable def FX11_penalty (a0 a1 a2 a3 : Int) (s : St) : Res := fX11_penalty_0 (kX11_penalty 0) a0 a1 a2 a3 s
noncomputable def gX11_penalty : Fn := fun xs s => FX11_penalty (xs.getD 0 0) (xs.getD 1 0) (xs.getD 2 0) (xs.getD 3 0) s
noncomputable def mdX11_penalty : MD := ([(3, 11), (0, 0), (0, 0), (0, 0)], (0, 0), yX11_penalty, cX11_penalty, (5, (some .int), 6, 90, []))
-- Floatparade.appeal(II)I
noncomputable def fX11_appeal_54 (kb : Co) (a2 a3 : Int) (s : St) : Res := if 0 ≤ a3 then bnd (FX5_appealAway a3 a2 s) fun _ s1 => if 0 ≤ a3 then bnd (FX5_points a3 s1) fun x2 s2 => some (0, x2, s2) else none else none
noncomputable def fX11_appeal_32 (kb : Co) (a2 a3 : Int) (s : St) : Res := if 0 ≤ a3 then bnd (FX5_isAppealed a3 a2 s) fun x1 s1 => if x1 = 0 then fX11_appeal_54 kb a2 a3 s1 else some (2, 0, thw s1) else none
noncomputable def fX11_appeal_21 (kb : Co) (s : St) : Res := some (3, 0, thw s)
noncomputable def fX11_appeal_0 (kb : Co) (a0 a1 a2 : Int) (s : St) : Res := bnd (FX11_societyAt a0 a1 s) fun x1 s1 => if x1 = (-1) then fX11_appeal_21 kb s1 else if 0 ≤ x1 then bnd (FX5_hasPenalty x1 a2 s1) fun x2 s2 => if x2 = 0 then fX11_appeal_21 kb s2 else fX11_appeal_32 kb a2 x1 s2 else none
noncomputable def tX11_appeal_54 (kb : Co) : List Rw := []
noncomputable def tX11_appeal_32 (kb : Co) : List Rw := (54, [(7, 0), (7, 0), (0, 0), (2, 6)], [], fun xs ys s => fX11_appeal_54 kb (xs.getD 0 0) (xs.getD 1 0) s) :: tX11_appeal_54 kb
noncomputable def tX11_appeal_21 (kb : Co) : List Rw := (32, [(7, 0), (7, 0), (0, 0), (2, 6)], [], fun xs ys s => fX11_appeal_32 kb (xs.getD 0 0) (xs.getD 1 0) s) :: tX11_appeal_32 kb
noncomputable def tX11_appeal_0 (kb : Co) : List Rw := (21, [(7, 0), (7, 0), (7, 0), (7, 0)], [], fun xs ys s => fX11_appeal_21 kb s) :: tX11_appeal_21 kb
noncomputable def rX11_appeal (kb : Co) : List Rw := (0, [(3, 11), (0, 0), (0, 0), (7, 0)], [], fun xs ys s => fX11_appeal_0 kb (xs.getD 0 0) (xs.getD 1 0) (xs.getD 2 0) s) :: tX11_appeal_0 kb
noncomputable def kX11_appeal : Nat → Co
  | 0 => nk
  | n + 1 => fam (rX11_appeal (kX11_appeal n)) nk
noncomputable def FX11_appeal (a0 a1 a2 : Int) (s : St) : Res := fX11_appeal_0 (kX11_appeal 0) a0 a1 a2 s
noncomputable def gX11_appeal : Fn := fun xs s => FX11_appeal (xs.getD 0 0) (xs.getD 1 0) (xs.getD 2 0) s
noncomputable def mdX11_appeal : MD := ([(3, 11), (0, 0), (0, 0)], (0, 0), yX11_appeal, cX11_appeal, (4, (some .int), 6, 90, []))
-- Floatparade.draw(I)I
noncomputable def fX11_draw_18 (kb : Co) (a0 a1 : Int) (s : St) : Res := some (0, (gm s 11 a0 4), (pm s 11 a0 4 a1))
noncomputable def fX11_draw_0 (kb : Co) (a0 a1 : Int) (s : St) : Res := bnd (FX11_isCategory a1 s) fun x1 s1 => if x1 = 0 then some (1, 0, thw s1) else fX11_draw_18 kb a0 a1 s1
noncomputable def tX11_draw_18 (kb : Co) : List Rw := []
noncomputable def tX11_draw_0 (kb : Co) : List Rw := (18, [(3, 11), (0, 0), (7, 0)], [], fun xs ys s => fX11_draw_18 kb (xs.getD 0 0) (xs.getD 1 0) s) :: tX11_draw_18 kb
noncomputable def rX11_draw (kb : Co) : List Rw := (0, [(3, 11), (0, 0), (7, 0)], [], fun xs ys s => fX11_draw_0 kb (xs.getD 0 0) (xs.getD 1 0) s) :: tX11_draw_0 kb
noncomputable def kX11_draw : Nat → Co
  | 0 => nk
  | n + 1 => fam (rX11_draw (kX11_draw n)) nk
noncomputable def FX11_draw (a0 a1 : Int) (s : St) : Res := fX11_draw_0 (kX11_draw 0) a0 a1 s
noncomputable def gX11_draw : Fn := fun xs s => FX11_draw (xs.getD 0 0) (xs.getD 1 0) s
noncomputable def mdX11_draw : MD := ([(3, 11), (0, 0)], (0, 0), yX11_draw, cX11_draw, (3, (some .int), 6, 90, []))
-- Floatparade.mayEndYear()Z
noncomputable def fX11_mayEndYear_58 (kb : Co) (a1 : Int) (s : St) : Res := if (a1 : Int) = 0 ∨ (a1 : Int) = 1 then some (0, a1, s) else none
noncomputable def fX11_mayEndYear_52 (kb : Co) (a0 a1 a2 : Int) (s : St) : Res := kb 4 [(3, 11, a0), (0, 0, a1), (0, 0, (wr (a2 + 1))), (7, 0, 0)] [] s
noncomputable def fX11_mayEndYear_36 (kb : Co) (a0 a1 a2 a3 : Int) (s : St) : Res := if a3 = (-1) then fX11_mayEndYear_52 kb a0 a1 a2 s else if 0 ≤ a3 then if (gm s 1 a3 7) = 0 then fX11_mayEndYear_52 kb a0 a1 a2 s else fX11_mayEndYear_52 kb a0 1 a2 s else none
noncomputable def fX11_mayEndYear_4 (kb : Co) (a0 a1 a2 : Int) (s : St) : Res := if a2 < 2 then (if 0 ≤ a2 ∧ a2 < 2 then if (gm s 14 a0 a2) = (-1) then fX11_mayEndYear_36 kb a0 a1 a2 (gm s 14 a0 a2) s else if 0 ≤ (gm s 14 a0 a2) then bnd (FX1_goesOn (gm s 14 a0 a2) s) fun x1 s1 => if x1 = 0 then fX11_mayEndYear_36 kb a0 a1 a2 (gm s 14 a0 a2) s1 else if (0 : Int) = 0 ∨ (0 : Int) = 1 then some (0, 0, s1) else none else none else none) else fX11_mayEndYear_58 kb a1 s
noncomputable def fX11_mayEndYear_0 (kb : Co) (a0 : Int) (s : St) : Res := fX11_mayEndYear_4 kb a0 0 0 s
noncomputable def tX11_mayEndYear_58 (kb : Co) : List Rw := []
noncomputable def tX11_mayEndYear_52 (kb : Co) : List Rw := (58, [(7, 0), (0, 0), (7, 0), (7, 0)], [], fun xs ys s => fX11_mayEndYear_58 kb (xs.getD 0 0) s) :: tX11_mayEndYear_58 kb
noncomputable def tX11_mayEndYear_36 (kb : Co) : List Rw := (52, [(3, 11), (0, 0), (0, 0), (7, 0)], [], fun xs ys s => fX11_mayEndYear_52 kb (xs.getD 0 0) (xs.getD 1 0) (xs.getD 2 0) s) :: tX11_mayEndYear_52 kb
noncomputable def tX11_mayEndYear_4 (kb : Co) : List Rw := (36, [(3, 11), (0, 0), (0, 0), (2, 0)], [], fun xs ys s => fX11_mayEndYear_36 kb (xs.getD 0 0) (xs.getD 1 0) (xs.getD 2 0) (xs.getD 3 0) s) :: tX11_mayEndYear_36 kb
noncomputable def tX11_mayEndYear_0 (kb : Co) : List Rw := (4, [(3, 11), (0, 0), (0, 0), (7, 0)], [], fun xs ys s => fX11_mayEndYear_4 kb (xs.getD 0 0) (xs.getD 1 0) (xs.getD 2 0) s) :: tX11_mayEndYear_4 kb
noncomputable def rX11_mayEndYear (kb : Co) : List Rw := (0, [(3, 11), (7, 0), (7, 0), (7, 0)], [], fun xs ys s => fX11_mayEndYear_0 kb (xs.getD 0 0) s) :: tX11_mayEndYear_0 kb
noncomputable def kX11_mayEndYear : Nat → Co
  | 0 => nk
  | n + 1 => fam (rX11_mayEndYear (kX11_mayEndYear n)) nk
noncomputable def FX11_mayEndYear (a0 : Int) (s : St) : Res := fX11_mayEndYear_0 (kX11_mayEndYear 9999) a0 s
noncomputable def gX11_mayEndYear : Fn := fun xs s => FX11_mayEndYear (xs.getD 0 0) s
noncomputable def mdX11_mayEndYear : MD := ([(3, 11)], (0, 0), yX11_mayEndYear, cX11_mayEndYear, (4, (some .boolean), 1, 20, []))
-- Floatparade.exchangeLeagues(LFloatparade$League;LFloatparade$League;)I
noncomputable def fX11_exchangeLeagues_66 (kb : Co) (a0 a1 a2 a3 : Int) (s : St) : Res := if 0 ≤ a1 then if 0 ≤ a2 then if 0 ≤ a0 then if 0 ≤ a3 then if 0 ≤ a3 then some (0, (gm (pm (pm s 6 a2 5 (gm s 0 a1 0)) 6 a3 5 (gm (pm s 6 a2 5 (gm s 0 a1 0)) 0 a0 0)) 6 a3 0), (pm (pm s 6 a2 5 (gm s 0 a1 0)) 6 a3 5 (gm (pm s 6 a2 5 (gm s 0 a1 0)) 0 a0 0))) else none else none else none else none else none
noncomputable def fX11_exchangeLeagues_64 (kb : Co) (s : St) : Res := some (0, (-1), s)
noncomputable def fX11_exchangeLeagues_30 (kb : Co) (a0 a1 : Int) (s : St) : Res := if 0 ≤ a0 then if 0 ≤ a0 then bnd (FX4_at (2 * a0 + 1) (wr ((gm s 4 (2 * a0 + 1) 1) - 1)) s) fun x1 s1 => if 0 ≤ a1 then bnd (FX4_at (2 * a1 + 1) 0 s1) fun x2 s2 => if x1 = (-1) then fX11_exchangeLeagues_64 kb s2 else if x2 = (-1) then fX11_exchangeLeagues_64 kb s2 else fX11_exchangeLeagues_66 kb a0 a1 x1 x2 s2 else none else none else none
noncomputable def fX11_exchangeLeagues_28 (kb : Co) (s : St) : Res := some (0, (-1), s)
noncomputable def fX11_exchangeLeagues_0 (kb : Co) (a0 a1 : Int) (s : St) : Res := if a0 = (-1) then fX11_exchangeLeagues_28 kb s else if a1 = (-1) then fX11_exchangeLeagues_28 kb s else if 0 ≤ a0 then if (gm s 1 a0 7) = 0 then fX11_exchangeLeagues_28 kb s else if 0 ≤ a1 then if (gm s 1 a1 7) = 0 then fX11_exchangeLeagues_28 kb s else fX11_exchangeLeagues_30 kb a0 a1 s else none else none
noncomputable def tX11_exchangeLeagues_66 (kb : Co) : List Rw := []
noncomputable def tX11_exchangeLeagues_64 (kb : Co) : List Rw := (66, [(2, 0), (2, 0), (2, 6), (2, 6)], [], fun xs ys s => fX11_exchangeLeagues_66 kb (xs.getD 0 0) (xs.getD 1 0) (xs.getD 2 0) (xs.getD 3 0) s) :: tX11_exchangeLeagues_66 kb
noncomputable def tX11_exchangeLeagues_30 (kb : Co) : List Rw := (64, [(7, 0), (7, 0), (7, 0), (7, 0)], [], fun xs ys s => fX11_exchangeLeagues_64 kb s) :: tX11_exchangeLeagues_64 kb
noncomputable def tX11_exchangeLeagues_28 (kb : Co) : List Rw := (30, [(2, 0), (2, 0), (7, 0), (7, 0)], [], fun xs ys s => fX11_exchangeLeagues_30 kb (xs.getD 0 0) (xs.getD 1 0) s) :: tX11_exchangeLeagues_30 kb
noncomputable def tX11_exchangeLeagues_0 (kb : Co) : List Rw := (28, [(7, 0), (7, 0), (7, 0), (7, 0)], [], fun xs ys s => fX11_exchangeLeagues_28 kb s) :: tX11_exchangeLeagues_28 kb
noncomputable def rX11_exchangeLeagues (kb : Co) : List Rw := (0, [(2, 0), (2, 0), (7, 0), (7, 0)], [], fun xs ys s => fX11_exchangeLeagues_0 kb (xs.getD 0 0) (xs.getD 1 0) s) :: tX11_exchangeLeagues_0 kb
noncomputable def kX11_exchangeLeagues : Nat → Co
  | 0 => nk
  | n + 1 => fam (rX11_exchangeLeagues (kX11_exchangeLeagues n)) nk
noncomputable def FX11_exchangeLeagues (a0 a1 : Int) (s : St) : Res := fX11_exchangeLeagues_0 (kX11_exchangeLeagues 0) a0 a1 s
noncomputable def gX11_exchangeLeagues : Fn := fun xs s => FX11_exchangeLeagues (xs.getD 0 0) (xs.getD 1 0) s
noncomputable def mdX11_exchangeLeagues : MD := ([(2, 0), (2, 0)], (0, 0), yX11_exchangeLeagues, cX11_exchangeLeagues, (4, (some .int), 2, 43, []))
-- Floatparade.forgetYear()V
noncomputable def fX11_forgetYear_85 (kb : Co) (s : St) : Res := some (0, 0, s)
noncomputable def fX11_forgetYear_79 (kb : Co) (a0 a1 : Int) (s : St) : Res := kb 37 [(3, 11, a0), (0, 0, (wr (a1 + 1)))] [] s
noncomputable def fX11_forgetYear_37 (kb : Co) (a0 a1 : Int) (s : St) : Res := if a1 < 2 then (if 0 ≤ a1 ∧ a1 < 2 then if (gm s 14 a0 a1) = (-1) then fX11_forgetYear_79 kb a0 a1 s else if 0 ≤ a1 ∧ a1 < 2 then if 0 ≤ (gm s 14 a0 a1) then bnd (FX4_clear (2 * (gm s 14 a0 a1)) s) fun _ s1 => if 0 ≤ a1 ∧ a1 < 2 then if 0 ≤ (gm s1 14 a0 a1) then bnd (FX1_clear (gm s1 14 a0 a1) s1) fun _ s2 => fX11_forgetYear_79 kb a0 a1 s2 else none else none else none else none else none) else fX11_forgetYear_85 kb s
noncomputable def fX11_forgetYear_35 (kb : Co) (a0 : Int) (s : St) : Res := fX11_forgetYear_37 kb a0 0 s
noncomputable def fX11_forgetYear_29 (kb : Co) (a0 a1 : Int) (s : St) : Res := kb 2 [(3, 11, a0), (0, 0, (wr (a1 + 1)))] [] s
noncomputable def fX11_forgetYear_2 (kb : Co) (a0 a1 : Int) (s : St) : Res := if a1 < 10 then (if 0 ≤ a1 ∧ a1 < 10 then if (gm s 13 a0 a1) = (-1) then fX11_forgetYear_29 kb a0 a1 s else if 0 ≤ a1 ∧ a1 < 10 then if 0 ≤ (gm s 13 a0 a1) then bnd (FX6_forgetYear (gm s 13 a0 a1) s) fun _ s1 => fX11_forgetYear_29 kb a0 a1 s1 else none else none else none) else fX11_forgetYear_35 kb a0 s
noncomputable def fX11_forgetYear_0 (kb : Co) (a0 : Int) (s : St) : Res := fX11_forgetYear_2 kb a0 0 s
noncomputable def tX11_forgetYear_85 (kb : Co) : List Rw := []
noncomputable def tX11_forgetYear_79 (kb : Co) : List Rw := (85, [(7, 0), (7, 0)], [], fun xs ys s => fX11_forgetYear_85 kb s) :: tX11_forgetYear_85 kb
noncomputable def tX11_forgetYear_37 (kb : Co) : List Rw := (79, [(3, 11), (0, 0)], [], fun xs ys s => fX11_forgetYear_79 kb (xs.getD 0 0) (xs.getD 1 0) s) :: tX11_forgetYear_79 kb
noncomputable def tX11_forgetYear_35 (kb : Co) : List Rw := (37, [(3, 11), (0, 0)], [], fun xs ys s => fX11_forgetYear_37 kb (xs.getD 0 0) (xs.getD 1 0) s) :: tX11_forgetYear_37 kb
noncomputable def tX11_forgetYear_29 (kb : Co) : List Rw := (35, [(3, 11), (7, 0)], [], fun xs ys s => fX11_forgetYear_35 kb (xs.getD 0 0) s) :: tX11_forgetYear_35 kb
noncomputable def tX11_forgetYear_2 (kb : Co) : List Rw := (29, [(3, 11), (0, 0)], [], fun xs ys s => fX11_forgetYear_29 kb (xs.getD 0 0) (xs.getD 1 0) s) :: tX11_forgetYear_29 kb
noncomputable def tX11_forgetYear_0 (kb : Co) : List Rw := (2, [(3, 11), (0, 0)], [], fun xs ys s => fX11_forgetYear_2 kb (xs.getD 0 0) (xs.getD 1 0) s) :: tX11_forgetYear_2 kb
noncomputable def rX11_forgetYear (kb : Co) : List Rw := (0, [(3, 11), (7, 0)], [], fun xs ys s => fX11_forgetYear_0 kb (xs.getD 0 0) s) :: tX11_forgetYear_0 kb
noncomputable def kX11_forgetYear : Nat → Co
  | 0 => nk
  | n + 1 => fam (rX11_forgetYear (kX11_forgetYear n)) nk
noncomputable def FX11_forgetYear (a0 : Int) (s : St) : Res := fX11_forgetYear_0 (kX11_forgetYear 9999) a0 s
noncomputable def gX11_forgetYear : Fn := fun xs s => FX11_forgetYear (xs.getD 0 0) s
noncomputable def mdX11_forgetYear : MD := ([(3, 11)], (9, 0), yX11_forgetYear, cX11_forgetYear, (2, none, 2, 41, []))
-- Floatparade.endYear()I
noncomputable def fX11_endYear_85 (kb : Co) (a0 : Int) (s : St) : Res := bnd (FX11_leagueAt a0 0 s) fun x1 s1 => bnd (FX11_leagueAt a0 1 s1) fun x2 s2 => bnd (FX11_exchangeLeagues x1 x2 s2) fun x3 s3 => bnd (FX11_forgetYear a0 (pm s3 11 a0 5 x3)) fun _ s4 => some (0, (gm s4 11 a0 5), s4)
noncomputable def fX11_endYear_79 (kb : Co) (a0 a1 : Int) (s : St) : Res := kb 20 [(3, 11, a0), (0, 0, (wr (a1 + 1)))] [] s
noncomputable def fX11_endYear_20 (kb : Co) (a0 a1 : Int) (s : St) : Res := if a1 < 2 then (if 0 ≤ a1 ∧ a1 < 2 then if (gm s 14 a0 a1) = (-1) then fX11_endYear_79 kb a0 a1 s else if 0 ≤ a1 ∧ a1 < 2 then if 0 ≤ (gm s 14 a0 a1) then if (gm s 1 (gm s 14 a0 a1) 7) = 0 then fX11_endYear_79 kb a0 a1 s else if 0 ≤ a1 ∧ a1 < 2 then if 0 ≤ (gm s 14 a0 a1) then bnd (FX0_rank (gm s 14 a0 a1) a0 (gm s 11 a0 4) s) fun _ s1 => if 0 ≤ a1 ∧ a1 < 2 then if 0 ≤ (gm s1 14 a0 a1) then bnd (FX0_settle (gm s1 14 a0 a1) s1) fun _ s2 => fX11_endYear_79 kb a0 a1 s2 else none else none else none else none else none else none else none) else fX11_endYear_85 kb a0 s
noncomputable def fX11_endYear_18 (kb : Co) (a0 : Int) (s : St) : Res := fX11_endYear_20 kb a0 0 s
noncomputable def fX11_endYear_0 (kb : Co) (a0 : Int) (s : St) : Res := bnd (FX11_mayEndYear a0 s) fun x1 s1 => if x1 = 0 then some (2, 0, thw s1) else fX11_endYear_18 kb a0 s1
noncomputable def tX11_endYear_85 (kb : Co) : List Rw := []
noncomputable def tX11_endYear_79 (kb : Co) : List Rw := (85, [(3, 11), (7, 0)], [], fun xs ys s => fX11_endYear_85 kb (xs.getD 0 0) s) :: tX11_endYear_85 kb
noncomputable def tX11_endYear_20 (kb : Co) : List Rw := (79, [(3, 11), (0, 0)], [], fun xs ys s => fX11_endYear_79 kb (xs.getD 0 0) (xs.getD 1 0) s) :: tX11_endYear_79 kb
noncomputable def tX11_endYear_18 (kb : Co) : List Rw := (20, [(3, 11), (0, 0)], [], fun xs ys s => fX11_endYear_20 kb (xs.getD 0 0) (xs.getD 1 0) s) :: tX11_endYear_20 kb
noncomputable def tX11_endYear_0 (kb : Co) : List Rw := (18, [(3, 11), (7, 0)], [], fun xs ys s => fX11_endYear_18 kb (xs.getD 0 0) s) :: tX11_endYear_18 kb
noncomputable def rX11_endYear (kb : Co) : List Rw := (0, [(3, 11), (7, 0)], [], fun xs ys s => fX11_endYear_0 kb (xs.getD 0 0) s) :: tX11_endYear_0 kb
noncomputable def kX11_endYear : Nat → Co
  | 0 => nk
  | n + 1 => fam (rX11_endYear (kX11_endYear n)) nk
noncomputable def FX11_endYear (a0 : Int) (s : St) : Res := fX11_endYear_0 (kX11_endYear 9999) a0 s
noncomputable def gX11_endYear : Fn := fun xs s => FX11_endYear (xs.getD 0 0) s
noncomputable def mdX11_endYear : MD := ([(3, 11)], (0, 0), yX11_endYear, cX11_endYear, (2, (some .int), 6, 146, []))
-- Floatparade.about(II)I
noncomputable def fX11_about_41 (kb : Co) (a2 a3 : Int) (s : St) : Res := if 0 ≤ a3 then bnd (FX6_tell a3 a2 s) fun x1 s1 => some (0, x1, s1) else none
noncomputable def fX11_about_20 (kb : Co) (a2 a3 : Int) (s : St) : Res := bnd (FX11_isWithin a2 0 8 s) fun x1 s1 => if x1 = 0 then some (1, 0, thw s1) else fX11_about_41 kb a2 a3 s1
noncomputable def fX11_about_0 (kb : Co) (a0 a1 a2 : Int) (s : St) : Res := bnd (FX11_societyAt a0 a1 s) fun x1 s1 => if x1 = (-1) then some (3, 0, thw s1) else fX11_about_20 kb a2 x1 s1
noncomputable def tX11_about_41 (kb : Co) : List Rw := []
noncomputable def tX11_about_20 (kb : Co) : List Rw := (41, [(7, 0), (7, 0), (0, 0), (2, 6)], [], fun xs ys s => fX11_about_41 kb (xs.getD 0 0) (xs.getD 1 0) s) :: tX11_about_41 kb
noncomputable def tX11_about_0 (kb : Co) : List Rw := (20, [(7, 0), (7, 0), (0, 0), (2, 6)], [], fun xs ys s => fX11_about_20 kb (xs.getD 0 0) (xs.getD 1 0) s) :: tX11_about_20 kb
noncomputable def rX11_about (kb : Co) : List Rw := (0, [(3, 11), (0, 0), (0, 0), (7, 0)], [], fun xs ys s => fX11_about_0 kb (xs.getD 0 0) (xs.getD 1 0) (xs.getD 2 0) s) :: tX11_about_0 kb
noncomputable def kX11_about : Nat → Co
  | 0 => nk
  | n + 1 => fam (rX11_about (kX11_about n)) nk
noncomputable def FX11_about (a0 a1 a2 : Int) (s : St) : Res := fX11_about_0 (kX11_about 0) a0 a1 a2 s
noncomputable def gX11_about : Fn := fun xs s => FX11_about (xs.getD 0 0) (xs.getD 1 0) (xs.getD 2 0) s
noncomputable def mdX11_about : MD := ([(3, 11), (0, 0), (0, 0)], (0, 0), yX11_about, cX11_about, (4, (some .int), 6, 129, []))
-- Floatparade.notes(II)I
noncomputable def fX11_notes_38 (kb : Co) (a2 a3 : Int) (s : St) : Res := if 0 ≤ a3 then bnd (FX5_together a3 a2 s) fun x1 s1 => some (0, x1, s1) else none
noncomputable def fX11_notes_20 (kb : Co) (a2 a3 : Int) (s : St) : Res := bnd (FX11_isCategory a2 s) fun x1 s1 => if x1 = 0 then some (1, 0, thw s1) else fX11_notes_38 kb a2 a3 s1
noncomputable def fX11_notes_0 (kb : Co) (a0 a1 a2 : Int) (s : St) : Res := bnd (FX11_societyAt a0 a1 s) fun x1 s1 => if x1 = (-1) then some (3, 0, thw s1) else fX11_notes_20 kb a2 x1 s1
noncomputable def tX11_notes_38 (kb : Co) : List Rw := []
noncomputable def tX11_notes_20 (kb : Co) : List Rw := (38, [(7, 0), (7, 0), (0, 0), (2, 6)], [], fun xs ys s => fX11_notes_38 kb (xs.getD 0 0) (xs.getD 1 0) s) :: tX11_notes_38 kb
noncomputable def tX11_notes_0 (kb : Co) : List Rw := (20, [(7, 0), (7, 0), (0, 0), (2, 6)], [], fun xs ys s => fX11_notes_20 kb (xs.getD 0 0) (xs.getD 1 0) s) :: tX11_notes_20 kb
noncomputable def rX11_notes (kb : Co) : List Rw := (0, [(3, 11), (0, 0), (0, 0), (7, 0)], [], fun xs ys s => fX11_notes_0 kb (xs.getD 0 0) (xs.getD 1 0) (xs.getD 2 0) s) :: tX11_notes_0 kb
noncomputable def kX11_notes : Nat → Co
  | 0 => nk
  | n + 1 => fam (rX11_notes (kX11_notes n)) nk
noncomputable def FX11_notes (a0 a1 a2 : Int) (s : St) : Res := fX11_notes_0 (kX11_notes 0) a0 a1 a2 s
noncomputable def gX11_notes : Fn := fun xs s => FX11_notes (xs.getD 0 0) (xs.getD 1 0) (xs.getD 2 0) s
noncomputable def mdX11_notes : MD := ([(3, 11), (0, 0), (0, 0)], (0, 0), yX11_notes, cX11_notes, (4, (some .int), 6, 90, []))
-- Floatparade.penaltyAt(III)I
noncomputable def fX11_penaltyAt_55 (kb : Co) (a2 a3 a4 : Int) (s : St) : Res := if 0 ≤ a4 then bnd (FX5_tellPenalty a4 a2 a3 s) fun x1 s1 => some (0, x1, s1) else none
noncomputable def fX11_penaltyAt_35 (kb : Co) (a2 a3 a4 : Int) (s : St) : Res := bnd (FX11_isWithin a3 0 2 s) fun x1 s1 => if x1 = 0 then some (1, 0, thw s1) else fX11_penaltyAt_55 kb a2 a3 a4 s1
noncomputable def fX11_penaltyAt_24 (kb : Co) (s : St) : Res := some (3, 0, thw s)
noncomputable def fX11_penaltyAt_0 (kb : Co) (a0 a1 a2 a3 : Int) (s : St) : Res := bnd (FX11_societyAt a0 a1 s) fun x1 s1 => if x1 = (-1) then fX11_penaltyAt_24 kb s1 else if 0 ≤ x1 then bnd (FX5_hasPenalty x1 a2 s1) fun x2 s2 => if x2 = 0 then fX11_penaltyAt_24 kb s2 else fX11_penaltyAt_35 kb a2 a3 x1 s2 else none
noncomputable def tX11_penaltyAt_55 (kb : Co) : List Rw := []
noncomputable def tX11_penaltyAt_35 (kb : Co) : List Rw := (55, [(7, 0), (7, 0), (0, 0), (0, 0), (2, 6)], [], fun xs ys s => fX11_penaltyAt_55 kb (xs.getD 0 0) (xs.getD 1 0) (xs.getD 2 0) s) :: tX11_penaltyAt_55 kb
noncomputable def tX11_penaltyAt_24 (kb : Co) : List Rw := (35, [(7, 0), (7, 0), (0, 0), (0, 0), (2, 6)], [], fun xs ys s => fX11_penaltyAt_35 kb (xs.getD 0 0) (xs.getD 1 0) (xs.getD 2 0) s) :: tX11_penaltyAt_35 kb
noncomputable def tX11_penaltyAt_0 (kb : Co) : List Rw := (24, [(7, 0), (7, 0), (7, 0), (7, 0), (7, 0)], [], fun xs ys s => fX11_penaltyAt_24 kb s) :: tX11_penaltyAt_24 kb
noncomputable def rX11_penaltyAt (kb : Co) : List Rw := (0, [(3, 11), (0, 0), (0, 0), (0, 0), (7, 0)], [], fun xs ys s => fX11_penaltyAt_0 kb (xs.getD 0 0) (xs.getD 1 0) (xs.getD 2 0) (xs.getD 3 0) s) :: tX11_penaltyAt_0 kb
noncomputable def kX11_penaltyAt : Nat → Co
  | 0 => nk
  | n + 1 => fam (rX11_penaltyAt (kX11_penaltyAt n)) nk
noncomputable def FX11_penaltyAt (a0 a1 a2 a3 : Int) (s : St) : Res := fX11_penaltyAt_0 (kX11_penaltyAt 0) a0 a1 a2 a3 s
noncomputable def gX11_penaltyAt : Fn := fun xs s => FX11_penaltyAt (xs.getD 0 0) (xs.getD 1 0) (xs.getD 2 0) (xs.getD 3 0) s
noncomputable def mdX11_penaltyAt : MD := ([(3, 11), (0, 0), (0, 0), (0, 0)], (0, 0), yX11_penaltyAt, cX11_penaltyAt, (5, (some .int), 6, 90, []))
-- Floatparade.isDoubted(II)Z
noncomputable def fX11_isDoubted_38 (kb : Co) (a1 a3 : Int) (s : St) : Res := if 0 ≤ a3 then bnd (FX5_castsDoubtOn a3 a1 s) fun x1 s1 => if (x1 : Int) = 0 ∨ (x1 : Int) = 1 then some (0, x1, s1) else none else none
noncomputable def fX11_isDoubted_20 (kb : Co) (a1 a3 : Int) (s : St) : Res := bnd (FX11_isJudge a1 s) fun x1 s1 => if x1 = 0 then some (1, 0, thw s1) else fX11_isDoubted_38 kb a1 a3 s1
noncomputable def fX11_isDoubted_0 (kb : Co) (a0 a1 a2 : Int) (s : St) : Res := bnd (FX11_societyAt a0 a2 s) fun x1 s1 => if x1 = (-1) then some (3, 0, thw s1) else fX11_isDoubted_20 kb a1 x1 s1
noncomputable def tX11_isDoubted_38 (kb : Co) : List Rw := []
noncomputable def tX11_isDoubted_20 (kb : Co) : List Rw := (38, [(7, 0), (0, 0), (7, 0), (2, 6)], [], fun xs ys s => fX11_isDoubted_38 kb (xs.getD 0 0) (xs.getD 1 0) s) :: tX11_isDoubted_38 kb
noncomputable def tX11_isDoubted_0 (kb : Co) : List Rw := (20, [(7, 0), (0, 0), (7, 0), (2, 6)], [], fun xs ys s => fX11_isDoubted_20 kb (xs.getD 0 0) (xs.getD 1 0) s) :: tX11_isDoubted_20 kb
noncomputable def rX11_isDoubted (kb : Co) : List Rw := (0, [(3, 11), (0, 0), (0, 0), (7, 0)], [], fun xs ys s => fX11_isDoubted_0 kb (xs.getD 0 0) (xs.getD 1 0) (xs.getD 2 0) s) :: tX11_isDoubted_0 kb
noncomputable def kX11_isDoubted : Nat → Co
  | 0 => nk
  | n + 1 => fam (rX11_isDoubted (kX11_isDoubted n)) nk
noncomputable def FX11_isDoubted (a0 a1 a2 : Int) (s : St) : Res := fX11_isDoubted_0 (kX11_isDoubted 0) a0 a1 a2 s
noncomputable def gX11_isDoubted : Fn := fun xs s => FX11_isDoubted (xs.getD 0 0) (xs.getD 1 0) (xs.getD 2 0) s
noncomputable def mdX11_isDoubted : MD := ([(3, 11), (0, 0), (0, 0)], (0, 0), yX11_isDoubted, cX11_isDoubted, (4, (some .boolean), 6, 90, []))
-- Floatparade.table(II)I
noncomputable def fX11_table_47 (kb : Co) (a0 a2 a3 : Int) (s : St) : Res := if 0 ≤ a3 then bnd (FX0_rank a3 a0 (gm s 11 a0 4) s) fun _ s1 => if 0 ≤ a3 then bnd (FX4_numberAt (2 * a3 + 1) a2 s1) fun x2 s2 => some (0, x2, s2) else none else none
noncomputable def fX11_table_35 (kb : Co) (a0 a2 a3 : Int) (s : St) : Res := if 0 ≤ a3 then if (gm s 1 a3 7) = 0 then some (0, (-1), s) else fX11_table_47 kb a0 a2 a3 s else none
noncomputable def fX11_table_15 (kb : Co) (a0 a1 a2 : Int) (s : St) : Res := bnd (FX11_leagueAt a0 a1 s) fun x1 s1 => if x1 = (-1) then some (1, 0, thw s1) else fX11_table_35 kb a0 a2 x1 s1
noncomputable def fX11_table_0 (kb : Co) (a0 a1 a2 : Int) (s : St) : Res := if a2 < 0 then some (3, 0, thw s) else fX11_table_15 kb a0 a1 a2 s
noncomputable def tX11_table_47 (kb : Co) : List Rw := []
noncomputable def tX11_table_35 (kb : Co) : List Rw := (47, [(3, 11), (7, 0), (0, 0), (2, 0)], [], fun xs ys s => fX11_table_47 kb (xs.getD 0 0) (xs.getD 1 0) (xs.getD 2 0) s) :: tX11_table_47 kb
noncomputable def tX11_table_15 (kb : Co) : List Rw := (35, [(3, 11), (7, 0), (0, 0), (2, 0)], [], fun xs ys s => fX11_table_35 kb (xs.getD 0 0) (xs.getD 1 0) (xs.getD 2 0) s) :: tX11_table_35 kb
noncomputable def tX11_table_0 (kb : Co) : List Rw := (15, [(3, 11), (0, 0), (0, 0), (7, 0)], [], fun xs ys s => fX11_table_15 kb (xs.getD 0 0) (xs.getD 1 0) (xs.getD 2 0) s) :: tX11_table_15 kb
noncomputable def rX11_table (kb : Co) : List Rw := (0, [(3, 11), (0, 0), (0, 0), (7, 0)], [], fun xs ys s => fX11_table_0 kb (xs.getD 0 0) (xs.getD 1 0) (xs.getD 2 0) s) :: tX11_table_0 kb
noncomputable def kX11_table : Nat → Co
  | 0 => nk
  | n + 1 => fam (rX11_table (kX11_table n)) nk
noncomputable def FX11_table (a0 a1 a2 : Int) (s : St) : Res := fX11_table_0 (kX11_table 0) a0 a1 a2 s
noncomputable def gX11_table : Fn := fun xs s => FX11_table (xs.getD 0 0) (xs.getD 1 0) (xs.getD 2 0) s
noncomputable def mdX11_table : MD := ([(3, 11), (0, 0), (0, 0)], (0, 0), yX11_table, cX11_table, (4, (some .int), 6, 146, []))
-- FloatparadeModel.thrown()I
noncomputable def fX12_thrown_0 (kb : Co) (a0 : Int) (s : St) : Res := some (0, (gm s 12 a0 0), s)
noncomputable def tX12_thrown_0 (kb : Co) : List Rw := []
noncomputable def rX12_thrown (kb : Co) : List Rw := (0, [(3, 12)], [], fun xs ys s => fX12_thrown_0 kb (xs.getD 0 0) s) :: tX12_thrown_0 kb
noncomputable def kX12_thrown : Nat → Co
  | 0 => nk
  | n + 1 => fam (rX12_thrown (kX12_thrown n)) nk
noncomputable def FX12_thrown (a0 : Int) (s : St) : Res := fX12_thrown_0 (kX12_thrown 0) a0 s
noncomputable def gX12_thrown : Fn := fun xs s => FX12_thrown (xs.getD 0 0) s
noncomputable def mdX12_thrown : MD := ([(3, 12)], (0, 0), yX12_thrown, cX12_thrown, (1, (some .int), 0, 0, []))
-- FloatparadeModel.holds(I)Z
noncomputable def fX12_holds_14 (kb : Co) (y0 : Int) (s : St) : Res := if (y0 : Int) = 0 ∨ (y0 : Int) = 1 then some (0, y0, s) else none
noncomputable def fX12_holds_13 (kb : Co) (s : St) : Res := fX12_holds_14 kb 0 s
noncomputable def fX12_holds_0 (kb : Co) (a0 a1 : Int) (s : St) : Res := if a1 = 0 then fX12_holds_14 kb 1 (pm s 12 a0 0 a1) else fX12_holds_13 kb (pm s 12 a0 0 a1)
noncomputable def tX12_holds_14 (kb : Co) : List Rw := []
noncomputable def tX12_holds_13 (kb : Co) : List Rw := (14, [(7, 0), (7, 0)], [(0, 0)], fun xs ys s => fX12_holds_14 kb (ys.getD 0 0) s) :: tX12_holds_14 kb
noncomputable def tX12_holds_0 (kb : Co) : List Rw := (13, [(7, 0), (7, 0)], [], fun xs ys s => fX12_holds_13 kb s) :: tX12_holds_13 kb
noncomputable def rX12_holds (kb : Co) : List Rw := (0, [(3, 12), (0, 0)], [], fun xs ys s => fX12_holds_0 kb (xs.getD 0 0) (xs.getD 1 0) s) :: tX12_holds_0 kb
noncomputable def kX12_holds : Nat → Co
  | 0 => nk
  | n + 1 => fam (rX12_holds (kX12_holds n)) nk
noncomputable def FX12_holds (a0 a1 : Int) (s : St) : Res := fX12_holds_0 (kX12_holds 0) a0 a1 s
noncomputable def gX12_holds : Fn := fun xs s => FX12_holds (xs.getD 0 0) (xs.getD 1 0) s
noncomputable def mdX12_holds : MD := ([(3, 12), (0, 0)], (0, 0), yX12_holds, cX12_holds, (2, (some .boolean), 0, 0, []))
-- FloatparadeModel.in(III)Z
noncomputable def fX12_in_15 (kb : Co) (y0 : Int) (s : St) : Res := if (y0 : Int) = 0 ∨ (y0 : Int) = 1 then some (0, y0, s) else none
noncomputable def fX12_in_14 (kb : Co) (s : St) : Res := fX12_in_15 kb 0 s
noncomputable def fX12_in_0 (kb : Co) (a0 a1 a2 : Int) (s : St) : Res := if a0 < a1 then fX12_in_14 kb s else if a2 < a0 then fX12_in_14 kb s else fX12_in_15 kb 1 s
noncomputable def tX12_in_15 (kb : Co) : List Rw := []
noncomputable def tX12_in_14 (kb : Co) : List Rw := (15, [(7, 0), (7, 0), (7, 0)], [(0, 0)], fun xs ys s => fX12_in_15 kb (ys.getD 0 0) s) :: tX12_in_15 kb
noncomputable def tX12_in_0 (kb : Co) : List Rw := (14, [(7, 0), (7, 0), (7, 0)], [], fun xs ys s => fX12_in_14 kb s) :: tX12_in_14 kb
noncomputable def rX12_in (kb : Co) : List Rw := (0, [(0, 0), (0, 0), (0, 0)], [], fun xs ys s => fX12_in_0 kb (xs.getD 0 0) (xs.getD 1 0) (xs.getD 2 0) s) :: tX12_in_0 kb
noncomputable def kX12_in : Nat → Co
  | 0 => nk
  | n + 1 => fam (rX12_in (kX12_in n)) nk
noncomputable def FX12_in (a0 a1 a2 : Int) (s : St) : Res := fX12_in_0 (kX12_in 0) a0 a1 a2 s
noncomputable def gX12_in : Fn := fun xs s => FX12_in (xs.getD 0 0) (xs.getD 1 0) (xs.getD 2 0) s
noncomputable def mdX12_in : MD := ([(0, 0), (0, 0), (0, 0)], (0, 0), yX12_in, cX12_in, (3, (some .boolean), 0, 0, []))
-- FloatparadeModel.isSociety(I)Z
noncomputable def fX12_isSociety_0 (kb : Co) (a0 a1 : Int) (s : St) : Res := bnd (FX12_in a1 0 (wr ((gm s 12 a0 1) - 1)) s) fun x1 s1 => if (x1 : Int) = 0 ∨ (x1 : Int) = 1 then some (0, x1, s1) else none
noncomputable def tX12_isSociety_0 (kb : Co) : List Rw := []
noncomputable def rX12_isSociety (kb : Co) : List Rw := (0, [(3, 12), (0, 0)], [], fun xs ys s => fX12_isSociety_0 kb (xs.getD 0 0) (xs.getD 1 0) s) :: tX12_isSociety_0 kb
noncomputable def kX12_isSociety : Nat → Co
  | 0 => nk
  | n + 1 => fam (rX12_isSociety (kX12_isSociety n)) nk
noncomputable def FX12_isSociety (a0 a1 : Int) (s : St) : Res := fX12_isSociety_0 (kX12_isSociety 0) a0 a1 s
noncomputable def gX12_isSociety : Fn := fun xs s => FX12_isSociety (xs.getD 0 0) (xs.getD 1 0) s
noncomputable def mdX12_isSociety : MD := ([(3, 12), (0, 0)], (0, 0), yX12_isSociety, cX12_isSociety, (2, (some .boolean), 1, 22, []))
-- FloatparadeModel.isCorner(I)Z
noncomputable def fX12_isCorner_0 (kb : Co) (a0 : Int) (s : St) : Res := bnd (FX12_in a0 0 11 s) fun x1 s1 => if (x1 : Int) = 0 ∨ (x1 : Int) = 1 then some (0, x1, s1) else none
noncomputable def tX12_isCorner_0 (kb : Co) : List Rw := []
noncomputable def rX12_isCorner (kb : Co) : List Rw := (0, [(0, 0)], [], fun xs ys s => fX12_isCorner_0 kb (xs.getD 0 0) s) :: tX12_isCorner_0 kb
noncomputable def kX12_isCorner : Nat → Co
  | 0 => nk
  | n + 1 => fam (rX12_isCorner (kX12_isCorner n)) nk
noncomputable def FX12_isCorner (a0 : Int) (s : St) : Res := fX12_isCorner_0 (kX12_isCorner 0) a0 s
noncomputable def gX12_isCorner : Fn := fun xs s => FX12_isCorner (xs.getD 0 0) s
noncomputable def mdX12_isCorner : MD := ([(0, 0)], (0, 0), yX12_isCorner, cX12_isCorner, (1, (some .boolean), 1, 22, []))
-- FloatparadeModel.isLeague(I)Z
noncomputable def fX12_isLeague_0 (kb : Co) (a0 : Int) (s : St) : Res := bnd (FX12_in a0 0 1 s) fun x1 s1 => if (x1 : Int) = 0 ∨ (x1 : Int) = 1 then some (0, x1, s1) else none
noncomputable def tX12_isLeague_0 (kb : Co) : List Rw := []
noncomputable def rX12_isLeague (kb : Co) : List Rw := (0, [(0, 0)], [], fun xs ys s => fX12_isLeague_0 kb (xs.getD 0 0) s) :: tX12_isLeague_0 kb
noncomputable def kX12_isLeague : Nat → Co
  | 0 => nk
  | n + 1 => fam (rX12_isLeague (kX12_isLeague n)) nk
noncomputable def FX12_isLeague (a0 : Int) (s : St) : Res := fX12_isLeague_0 (kX12_isLeague 0) a0 s
noncomputable def gX12_isLeague : Fn := fun xs s => FX12_isLeague (xs.getD 0 0) s
noncomputable def mdX12_isLeague : MD := ([(0, 0)], (0, 0), yX12_isLeague, cX12_isLeague, (1, (some .boolean), 1, 22, []))
-- FloatparadeModel.bits(I)I
noncomputable def fX12_bits_20 (kb : Co) (a1 : Int) (s : St) : Res := some (0, a1, s)
noncomputable def fX12_bits_4 (kb : Co) (a1 a2 : Int) (s : St) : Res := if 0 < a2 then kb 4 [(7, 0, 0), (0, 0, (wr (a1 + 1))), (0, 0, (iand a2 (wr (a2 - 1))))] [] s else fX12_bits_20 kb a1 s
noncomputable def fX12_bits_0 (kb : Co) (a0 : Int) (s : St) : Res := fX12_bits_4 kb 0 a0 s
noncomputable def tX12_bits_20 (kb : Co) : List Rw := []
noncomputable def tX12_bits_4 (kb : Co) : List Rw := (20, [(7, 0), (0, 0), (7, 0)], [], fun xs ys s => fX12_bits_20 kb (xs.getD 0 0) s) :: tX12_bits_20 kb
noncomputable def tX12_bits_0 (kb : Co) : List Rw := (4, [(7, 0), (0, 0), (0, 0)], [], fun xs ys s => fX12_bits_4 kb (xs.getD 0 0) (xs.getD 1 0) s) :: tX12_bits_4 kb
noncomputable def rX12_bits (kb : Co) : List Rw := (0, [(0, 0), (7, 0), (7, 0)], [], fun xs ys s => fX12_bits_0 kb (xs.getD 0 0) s) :: tX12_bits_0 kb
noncomputable def kX12_bits : Nat → Co
  | 0 => nk
  | n + 1 => fam (rX12_bits (kX12_bits n)) nk
noncomputable def FX12_bits (a0 : Int) (s : St) : Res := fX12_bits_0 (kX12_bits 9999) a0 s
noncomputable def gX12_bits : Fn := fun xs s => FX12_bits (xs.getD 0 0) s
noncomputable def mdX12_bits : MD := ([(0, 0)], (0, 0), yX12_bits, cX12_bits, (3, (some .int), 0, 0, []))
-- FloatparadeModel.society(II)I
noncomputable def fX12_society_45 (kb : Co) (a0 a1 a2 : Int) (s : St) : Res := if 0 ≤ (gm s 12 a0 1) ∧ (gm s 12 a0 1) < 10 then if 0 ≤ (gm (pm s 102 a0 (gm s 12 a0 1) a1) 12 a0 1) ∧ (gm (pm s 102 a0 (gm s 12 a0 1) a1) 12 a0 1) < 10 then if 0 ≤ (gm (pm (pm s 102 a0 (gm s 12 a0 1) a1) 103 a0 (gm (pm s 102 a0 (gm s 12 a0 1) a1) 12 a0 1) a2) 12 a0 1) ∧ (gm (pm (pm s 102 a0 (gm s 12 a0 1) a1) 103 a0 (gm (pm s 102 a0 (gm s 12 a0 1) a1) 12 a0 1) a2) 12 a0 1) < 10 then if 0 ≤ (gm (pm (pm (pm s 102 a0 (gm s 12 a0 1) a1) 103 a0 (gm (pm s 102 a0 (gm s 12 a0 1) a1) 12 a0 1) a2) 143 a0 (gm (pm (pm s 102 a0 (gm s 12 a0 1) a1) 103 a0 (gm (pm s 102 a0 (gm s 12 a0 1) a1) 12 a0 1) a2) 12 a0 1) (-1)) 12 a0 1) ∧ (gm (pm (pm (pm s 102 a0 (gm s 12 a0 1) a1) 103 a0 (gm (pm s 102 a0 (gm s 12 a0 1) a1) 12 a0 1) a2) 143 a0 (gm (pm (pm s 102 a0 (gm s 12 a0 1) a1) 103 a0 (gm (pm s 102 a0 (gm s 12 a0 1) a1) 12 a0 1) a2) 12 a0 1) (-1)) 12 a0 1) < 10 then some (0, (wr ((gm (pm (pm (pm (pm (pm s 102 a0 (gm s 12 a0 1) a1) 103 a0 (gm (pm s 102 a0 (gm s 12 a0 1) a1) 12 a0 1) a2) 143 a0 (gm (pm (pm s 102 a0 (gm s 12 a0 1) a1) 103 a0 (gm (pm s 102 a0 (gm s 12 a0 1) a1) 12 a0 1) a2) 12 a0 1) (-1)) 144 a0 (gm (pm (pm (pm s 102 a0 (gm s 12 a0 1) a1) 103 a0 (gm (pm s 102 a0 (gm s 12 a0 1) a1) 12 a0 1) a2) 143 a0 (gm (pm (pm s 102 a0 (gm s 12 a0 1) a1) 103 a0 (gm (pm s 102 a0 (gm s 12 a0 1) a1) 12 a0 1) a2) 12 a0 1) (-1)) 12 a0 1) (-1)) 12 a0 1 (wr ((gm (pm (pm (pm (pm s 102 a0 (gm s 12 a0 1) a1) 103 a0 (gm (pm s 102 a0 (gm s 12 a0 1) a1) 12 a0 1) a2) 143 a0 (gm (pm (pm s 102 a0 (gm s 12 a0 1) a1) 103 a0 (gm (pm s 102 a0 (gm s 12 a0 1) a1) 12 a0 1) a2) 12 a0 1) (-1)) 144 a0 (gm (pm (pm (pm s 102 a0 (gm s 12 a0 1) a1) 103 a0 (gm (pm s 102 a0 (gm s 12 a0 1) a1) 12 a0 1) a2) 143 a0 (gm (pm (pm s 102 a0 (gm s 12 a0 1) a1) 103 a0 (gm (pm s 102 a0 (gm s 12 a0 1) a1) 12 a0 1) a2) 12 a0 1) (-1)) 12 a0 1) (-1)) 12 a0 1) + 1))) 12 a0 1) - 1)), (pm (pm (pm (pm (pm s 102 a0 (gm s 12 a0 1) a1) 103 a0 (gm (pm s 102 a0 (gm s 12 a0 1) a1) 12 a0 1) a2) 143 a0 (gm (pm (pm s 102 a0 (gm s 12 a0 1) a1) 103 a0 (gm (pm s 102 a0 (gm s 12 a0 1) a1) 12 a0 1) a2) 12 a0 1) (-1)) 144 a0 (gm (pm (pm (pm s 102 a0 (gm s 12 a0 1) a1) 103 a0 (gm (pm s 102 a0 (gm s 12 a0 1) a1) 12 a0 1) a2) 143 a0 (gm (pm (pm s 102 a0 (gm s 12 a0 1) a1) 103 a0 (gm (pm s 102 a0 (gm s 12 a0 1) a1) 12 a0 1) a2) 12 a0 1) (-1)) 12 a0 1) (-1)) 12 a0 1 (wr ((gm (pm (pm (pm (pm s 102 a0 (gm s 12 a0 1) a1) 103 a0 (gm (pm s 102 a0 (gm s 12 a0 1) a1) 12 a0 1) a2) 143 a0 (gm (pm (pm s 102 a0 (gm s 12 a0 1) a1) 103 a0 (gm (pm s 102 a0 (gm s 12 a0 1) a1) 12 a0 1) a2) 12 a0 1) (-1)) 144 a0 (gm (pm (pm (pm s 102 a0 (gm s 12 a0 1) a1) 103 a0 (gm (pm s 102 a0 (gm s 12 a0 1) a1) 12 a0 1) a2) 143 a0 (gm (pm (pm s 102 a0 (gm s 12 a0 1) a1) 103 a0 (gm (pm s 102 a0 (gm s 12 a0 1) a1) 12 a0 1) a2) 12 a0 1) (-1)) 12 a0 1) (-1)) 12 a0 1) + 1)))) else none else none else none else none
noncomputable def fX12_society_37 (kb : Co) (a0 a1 a2 y0 y1 : Int) (s : St) : Res := bnd (FX12_holds y1 y0 s) fun x1 s1 => if x1 = 0 then some (0, 0, s1) else fX12_society_45 kb a0 a1 a2 s1
noncomputable def fX12_society_36 (kb : Co) (a0 a1 a2 y0 : Int) (s : St) : Res := fX12_society_37 kb a0 a1 a2 0 y0 s
noncomputable def fX12_society_23 (kb : Co) (a0 a1 a2 y0 : Int) (s : St) : Res := if (gm s 12 a0 1) = 10 then fX12_society_37 kb a0 a1 a2 2 y0 s else fX12_society_36 kb a0 a1 a2 y0 s
noncomputable def fX12_society_19 (kb : Co) (a0 a1 a2 y0 : Int) (s : St) : Res := fX12_society_37 kb a0 a1 a2 1 y0 s
noncomputable def fX12_society_0 (kb : Co) (a0 a1 a2 : Int) (s : St) : Res := bnd (FX12_isLeague a1 s) fun x1 s1 => if x1 = 0 then fX12_society_19 kb a0 a1 a2 a0 s1 else bnd (FX12_in a2 1 200 s1) fun x2 s2 => if x2 = 0 then fX12_society_19 kb a0 a1 a2 a0 s2 else fX12_society_23 kb a0 a1 a2 a0 s2
noncomputable def tX12_society_45 (kb : Co) : List Rw := []
noncomputable def tX12_society_37 (kb : Co) : List Rw := (45, [(3, 12), (0, 0), (0, 0)], [], fun xs ys s => fX12_society_45 kb (xs.getD 0 0) (xs.getD 1 0) (xs.getD 2 0) s) :: tX12_society_45 kb
noncomputable def tX12_society_36 (kb : Co) : List Rw := (37, [(3, 12), (0, 0), (0, 0)], [(0, 0), (3, 12)], fun xs ys s => fX12_society_37 kb (xs.getD 0 0) (xs.getD 1 0) (xs.getD 2 0) (ys.getD 0 0) (ys.getD 1 0) s) :: tX12_society_37 kb
noncomputable def tX12_society_23 (kb : Co) : List Rw := (36, [(3, 12), (0, 0), (0, 0)], [(3, 12)], fun xs ys s => fX12_society_36 kb (xs.getD 0 0) (xs.getD 1 0) (xs.getD 2 0) (ys.getD 0 0) s) :: tX12_society_36 kb
noncomputable def tX12_society_19 (kb : Co) : List Rw := (23, [(3, 12), (0, 0), (0, 0)], [(3, 12)], fun xs ys s => fX12_society_23 kb (xs.getD 0 0) (xs.getD 1 0) (xs.getD 2 0) (ys.getD 0 0) s) :: tX12_society_23 kb
noncomputable def tX12_society_0 (kb : Co) : List Rw := (19, [(3, 12), (0, 0), (0, 0)], [(3, 12)], fun xs ys s => fX12_society_19 kb (xs.getD 0 0) (xs.getD 1 0) (xs.getD 2 0) (ys.getD 0 0) s) :: tX12_society_19 kb
noncomputable def rX12_society (kb : Co) : List Rw := (0, [(3, 12), (0, 0), (0, 0)], [], fun xs ys s => fX12_society_0 kb (xs.getD 0 0) (xs.getD 1 0) (xs.getD 2 0) s) :: tX12_society_0 kb
noncomputable def kX12_society : Nat → Co
  | 0 => nk
  | n + 1 => fam (rX12_society (kX12_society n)) nk
noncomputable def FX12_society (a0 a1 a2 : Int) (s : St) : Res := fX12_society_0 (kX12_society 0) a0 a1 a2 s
noncomputable def gX12_society : Fn := fun xs s => FX12_society (xs.getD 0 0) (xs.getD 1 0) (xs.getD 2 0) s
noncomputable def mdX12_society : MD := ([(3, 12), (0, 0), (0, 0)], (0, 0), yX12_society, cX12_society, (3, (some .int), 2, 42, []))
-- FloatparadeModel.feud(IIZ)Z
noncomputable def fX12_feud_39 (kb : Co) (a0 a1 a2 a3 : Int) (s : St) : Res := if 0 ≤ (wr ((wr (10 * a1)) + a2)) ∧ (wr ((wr (10 * a1)) + a2)) < 100 then if (0 ≤ (wr ((wr (10 * a1)) + a2)) ∧ (wr ((wr (10 * a1)) + a2)) < 100) ∧ ((a3 : Int) = 0 ∨ (a3 : Int) = 1) then if (0 ≤ (wr ((wr (10 * a2)) + a1)) ∧ (wr ((wr (10 * a2)) + a1)) < 100) ∧ ((a3 : Int) = 0 ∨ (a3 : Int) = 1) then if ((gm s 105 a0 (wr ((wr (10 * a1)) + a2))) : Int) = 0 ∨ ((gm s 105 a0 (wr ((wr (10 * a1)) + a2))) : Int) = 1 then some (0, (gm s 105 a0 (wr ((wr (10 * a1)) + a2))), (pm (pm s 105 a0 (wr ((wr (10 * a1)) + a2)) a3) 105 a0 (wr ((wr (10 * a2)) + a1)) a3)) else none else none else none else none
noncomputable def fX12_feud_31 (kb : Co) (a0 a1 a2 a3 y0 y1 : Int) (s : St) : Res := bnd (FX12_holds y1 y0 s) fun x1 s1 => if x1 = 0 then (if (0 : Int) = 0 ∨ (0 : Int) = 1 then some (0, 0, s1) else none) else fX12_feud_39 kb a0 a1 a2 a3 s1
noncomputable def fX12_feud_30 (kb : Co) (a0 a1 a2 a3 y0 : Int) (s : St) : Res := fX12_feud_31 kb a0 a1 a2 a3 0 y0 s
noncomputable def fX12_feud_21 (kb : Co) (a0 a1 a2 a3 y0 : Int) (s : St) : Res := if a1 = a2 then fX12_feud_31 kb a0 a1 a2 a3 2 y0 s else fX12_feud_30 kb a0 a1 a2 a3 y0 s
noncomputable def fX12_feud_17 (kb : Co) (a0 a1 a2 a3 y0 : Int) (s : St) : Res := fX12_feud_31 kb a0 a1 a2 a3 1 y0 s
noncomputable def fX12_feud_0 (kb : Co) (a0 a1 a2 a3 : Int) (s : St) : Res := bnd (FX12_isSociety a0 a1 s) fun x1 s1 => if x1 = 0 then fX12_feud_17 kb a0 a1 a2 a3 a0 s1 else bnd (FX12_isSociety a0 a2 s1) fun x2 s2 => if x2 = 0 then fX12_feud_17 kb a0 a1 a2 a3 a0 s2 else fX12_feud_21 kb a0 a1 a2 a3 a0 s2
noncomputable def tX12_feud_39 (kb : Co) : List Rw := []
noncomputable def tX12_feud_31 (kb : Co) : List Rw := (39, [(3, 12), (0, 0), (0, 0), (0, 0), (7, 0)], [], fun xs ys s => fX12_feud_39 kb (xs.getD 0 0) (xs.getD 1 0) (xs.getD 2 0) (xs.getD 3 0) s) :: tX12_feud_39 kb
noncomputable def tX12_feud_30 (kb : Co) : List Rw := (31, [(3, 12), (0, 0), (0, 0), (0, 0), (7, 0)], [(0, 0), (3, 12)], fun xs ys s => fX12_feud_31 kb (xs.getD 0 0) (xs.getD 1 0) (xs.getD 2 0) (xs.getD 3 0) (ys.getD 0 0) (ys.getD 1 0) s) :: tX12_feud_31 kb
noncomputable def tX12_feud_21 (kb : Co) : List Rw := (30, [(3, 12), (0, 0), (0, 0), (0, 0), (7, 0)], [(3, 12)], fun xs ys s => fX12_feud_30 kb (xs.getD 0 0) (xs.getD 1 0) (xs.getD 2 0) (xs.getD 3 0) (ys.getD 0 0) s) :: tX12_feud_30 kb
noncomputable def tX12_feud_17 (kb : Co) : List Rw := (21, [(3, 12), (0, 0), (0, 0), (0, 0), (7, 0)], [(3, 12)], fun xs ys s => fX12_feud_21 kb (xs.getD 0 0) (xs.getD 1 0) (xs.getD 2 0) (xs.getD 3 0) (ys.getD 0 0) s) :: tX12_feud_21 kb
noncomputable def tX12_feud_0 (kb : Co) : List Rw := (17, [(3, 12), (0, 0), (0, 0), (0, 0), (7, 0)], [(3, 12)], fun xs ys s => fX12_feud_17 kb (xs.getD 0 0) (xs.getD 1 0) (xs.getD 2 0) (xs.getD 3 0) (ys.getD 0 0) s) :: tX12_feud_17 kb
noncomputable def rX12_feud (kb : Co) : List Rw := (0, [(3, 12), (0, 0), (0, 0), (0, 0), (7, 0)], [], fun xs ys s => fX12_feud_0 kb (xs.getD 0 0) (xs.getD 1 0) (xs.getD 2 0) (xs.getD 3 0) s) :: tX12_feud_0 kb
noncomputable def kX12_feud : Nat → Co
  | 0 => nk
  | n + 1 => fam (rX12_feud (kX12_feud n)) nk
noncomputable def FX12_feud (a0 a1 a2 a3 : Int) (s : St) : Res := fX12_feud_0 (kX12_feud 0) a0 a1 a2 a3 s
noncomputable def gX12_feud : Fn := fun xs s => FX12_feud (xs.getD 0 0) (xs.getD 1 0) (xs.getD 2 0) (xs.getD 3 0) s
noncomputable def mdX12_feud : MD := ([(3, 12), (0, 0), (0, 0), (0, 0)], (0, 0), yX12_feud, cX12_feud, (5, (some .boolean), 2, 43, []))
-- FloatparadeModel.theme(III)I
noncomputable def fX12_theme_149 (kb : Co) (a0 a1 a2 a3 a4 : Int) (s : St) : Res := if 0 ≤ a1 ∧ a1 < 10 then if 0 ≤ a1 ∧ a1 < 10 then some (0, a4, (pm (pm s 106 a0 a1 a2) 107 a0 a1 a3)) else none else none
noncomputable def fX12_theme_143 (kb : Co) (a0 a1 a2 a3 a4 a5 : Int) (s : St) : Res := kb 107 [(3, 12, a0), (0, 0, a1), (0, 0, a2), (0, 0, a3), (0, 0, a4), (0, 0, (wr (a5 + 1)))] [] s
noncomputable def fX12_theme_107 (kb : Co) (a0 a1 a2 a3 a4 a5 : Int) (s : St) : Res := if a5 < (gm s 12 a0 1) then (if 0 ≤ a5 ∧ a5 < 10 then bnd (FX12_bits (iand (gm s 106 a0 a5) a2) s) fun x1 s1 => if x1 < 3 then fX12_theme_143 kb a0 a1 a2 a3 a4 a5 s1 else if 0 ≤ a5 ∧ a5 < 10 then fX12_theme_143 kb a0 a1 a2 a3 (wr (a4 + 1)) a5 (pm s1 106 a0 a5 0) else none else none) else fX12_theme_149 kb a0 a1 a2 a3 a4 s
noncomputable def fX12_theme_101 (kb : Co) (a0 a1 a2 a3 : Int) (s : St) : Res := fX12_theme_107 kb a0 a1 a2 a3 0 0 s
noncomputable def fX12_theme_95 (kb : Co) (a0 a1 a2 a3 a4 : Int) (s : St) : Res := kb 57 [(3, 12, a0), (0, 0, a1), (0, 0, a2), (0, 0, a3), (0, 0, (wr (a4 + 1))), (7, 0, 0)] [] s
noncomputable def fX12_theme_57 (kb : Co) (a0 a1 a2 a3 a4 : Int) (s : St) : Res := if a4 < (gm s 12 a0 1) then (if 0 ≤ a4 ∧ a4 < 10 then bnd (FX12_bits (iand (gm s 106 a0 a4) a2) s) fun x1 s1 => if x1 < 3 then fX12_theme_95 kb a0 a1 a2 a3 a4 s1 else if 0 ≤ a4 ∧ a4 < 10 then if a3 < (gm s1 107 a0 a4) then fX12_theme_95 kb a0 a1 a2 a3 a4 s1 else some (0, (-1), s1) else none else none) else fX12_theme_101 kb a0 a1 a2 a3 s
noncomputable def fX12_theme_47 (kb : Co) (a0 a1 a2 a3 : Int) (s : St) : Res := if 0 ≤ a1 ∧ a1 < 10 then fX12_theme_57 kb a0 a1 a2 a3 0 (pm s 106 a0 a1 0) else none
noncomputable def fX12_theme_39 (kb : Co) (a0 a1 a2 a3 y0 y1 : Int) (s : St) : Res := bnd (FX12_holds y1 y0 s) fun x1 s1 => if x1 = 0 then some (0, 0, s1) else fX12_theme_47 kb a0 a1 a2 a3 s1
noncomputable def fX12_theme_38 (kb : Co) (a0 a1 a2 a3 y0 : Int) (s : St) : Res := fX12_theme_39 kb a0 a1 a2 a3 2 y0 s
noncomputable def fX12_theme_13 (kb : Co) (a0 a1 a2 a3 y0 : Int) (s : St) : Res := bnd (FX12_in a2 1 4095 s) fun x1 s1 => if x1 = 0 then fX12_theme_38 kb a0 a1 a2 a3 y0 s1 else bnd (FX12_in a3 1 99 s1) fun x2 s2 => if x2 = 0 then fX12_theme_38 kb a0 a1 a2 a3 y0 s2 else fX12_theme_39 kb a0 a1 a2 a3 0 y0 s2
noncomputable def fX12_theme_0 (kb : Co) (a0 a1 a2 a3 : Int) (s : St) : Res := bnd (FX12_isSociety a0 a1 s) fun x1 s1 => if x1 = 0 then fX12_theme_39 kb a0 a1 a2 a3 1 a0 s1 else fX12_theme_13 kb a0 a1 a2 a3 a0 s1
noncomputable def tX12_theme_149 (kb : Co) : List Rw := []
noncomputable def tX12_theme_143 (kb : Co) : List Rw := (149, [(3, 12), (0, 0), (0, 0), (0, 0), (0, 0), (7, 0)], [], fun xs ys s => fX12_theme_149 kb (xs.getD 0 0) (xs.getD 1 0) (xs.getD 2 0) (xs.getD 3 0) (xs.getD 4 0) s) :: tX12_theme_149 kb
noncomputable def tX12_theme_107 (kb : Co) : List Rw := (143, [(3, 12), (0, 0), (0, 0), (0, 0), (0, 0), (0, 0)], [], fun xs ys s => fX12_theme_143 kb (xs.getD 0 0) (xs.getD 1 0) (xs.getD 2 0) (xs.getD 3 0) (xs.getD 4 0) (xs.getD 5 0) s) :: tX12_theme_143 kb
noncomputable def tX12_theme_101 (kb : Co) : List Rw := (107, [(3, 12), (0, 0), (0, 0), (0, 0), (0, 0), (0, 0)], [], fun xs ys s => fX12_theme_107 kb (xs.getD 0 0) (xs.getD 1 0) (xs.getD 2 0) (xs.getD 3 0) (xs.getD 4 0) (xs.getD 5 0) s) :: tX12_theme_107 kb
noncomputable def tX12_theme_95 (kb : Co) : List Rw := (101, [(3, 12), (0, 0), (0, 0), (0, 0), (7, 0), (7, 0)], [], fun xs ys s => fX12_theme_101 kb (xs.getD 0 0) (xs.getD 1 0) (xs.getD 2 0) (xs.getD 3 0) s) :: tX12_theme_101 kb
noncomputable def tX12_theme_57 (kb : Co) : List Rw := (95, [(3, 12), (0, 0), (0, 0), (0, 0), (0, 0), (7, 0)], [], fun xs ys s => fX12_theme_95 kb (xs.getD 0 0) (xs.getD 1 0) (xs.getD 2 0) (xs.getD 3 0) (xs.getD 4 0) s) :: tX12_theme_95 kb
noncomputable def tX12_theme_47 (kb : Co) : List Rw := (57, [(3, 12), (0, 0), (0, 0), (0, 0), (0, 0), (7, 0)], [], fun xs ys s => fX12_theme_57 kb (xs.getD 0 0) (xs.getD 1 0) (xs.getD 2 0) (xs.getD 3 0) (xs.getD 4 0) s) :: tX12_theme_57 kb
noncomputable def tX12_theme_39 (kb : Co) : List Rw := (47, [(3, 12), (0, 0), (0, 0), (0, 0), (7, 0), (7, 0)], [], fun xs ys s => fX12_theme_47 kb (xs.getD 0 0) (xs.getD 1 0) (xs.getD 2 0) (xs.getD 3 0) s) :: tX12_theme_47 kb
noncomputable def tX12_theme_38 (kb : Co) : List Rw := (39, [(3, 12), (0, 0), (0, 0), (0, 0), (7, 0), (7, 0)], [(0, 0), (3, 12)], fun xs ys s => fX12_theme_39 kb (xs.getD 0 0) (xs.getD 1 0) (xs.getD 2 0) (xs.getD 3 0) (ys.getD 0 0) (ys.getD 1 0) s) :: tX12_theme_39 kb
noncomputable def tX12_theme_13 (kb : Co) : List Rw := (38, [(3, 12), (0, 0), (0, 0), (0, 0), (7, 0), (7, 0)], [(3, 12)], fun xs ys s => fX12_theme_38 kb (xs.getD 0 0) (xs.getD 1 0) (xs.getD 2 0) (xs.getD 3 0) (ys.getD 0 0) s) :: tX12_theme_38 kb
noncomputable def tX12_theme_0 (kb : Co) : List Rw := (13, [(3, 12), (0, 0), (0, 0), (0, 0), (7, 0), (7, 0)], [(3, 12)], fun xs ys s => fX12_theme_13 kb (xs.getD 0 0) (xs.getD 1 0) (xs.getD 2 0) (xs.getD 3 0) (ys.getD 0 0) s) :: tX12_theme_13 kb
noncomputable def rX12_theme (kb : Co) : List Rw := (0, [(3, 12), (0, 0), (0, 0), (0, 0), (7, 0), (7, 0)], [], fun xs ys s => fX12_theme_0 kb (xs.getD 0 0) (xs.getD 1 0) (xs.getD 2 0) (xs.getD 3 0) s) :: tX12_theme_0 kb
noncomputable def kX12_theme : Nat → Co
  | 0 => nk
  | n + 1 => fam (rX12_theme (kX12_theme n)) nk
noncomputable def FX12_theme (a0 a1 a2 a3 : Int) (s : St) : Res := fX12_theme_0 (kX12_theme 9999) a0 a1 a2 a3 s
noncomputable def gX12_theme : Fn := fun xs s => FX12_theme (xs.getD 0 0) (xs.getD 1 0) (xs.getD 2 0) (xs.getD 3 0) s
noncomputable def mdX12_theme : MD := ([(3, 12), (0, 0), (0, 0), (0, 0)], (0, 0), yX12_theme, cX12_theme, (6, (some .int), 2, 43, []))
-- FloatparadeModel.song(I)I
noncomputable def fX12_song_48 (kb : Co) (a0 a1 : Int) (s : St) : Res := if 0 ≤ a1 ∧ a1 < 10 then if 0 ≤ (wr ((wr (6 * a1)) + (gm s 108 a0 a1))) ∧ (wr ((wr (6 * a1)) + (gm s 108 a0 a1))) < 60 then if 0 ≤ a1 ∧ a1 < 10 then if 0 ≤ a1 ∧ a1 < 10 then if 0 ≤ a1 ∧ a1 < 10 then some (0, (wr ((gm (pm (pm s 111 a0 (wr ((wr (6 * a1)) + (gm s 108 a0 a1))) 0) 108 a0 a1 (wr ((gm (pm s 111 a0 (wr ((wr (6 * a1)) + (gm s 108 a0 a1))) 0) 108 a0 a1) + 1))) 108 a0 a1) - 1)), (pm (pm s 111 a0 (wr ((wr (6 * a1)) + (gm s 108 a0 a1))) 0) 108 a0 a1 (wr ((gm (pm s 111 a0 (wr ((wr (6 * a1)) + (gm s 108 a0 a1))) 0) 108 a0 a1) + 1)))) else none else none else none else none else none
noncomputable def fX12_song_40 (kb : Co) (a0 a1 y0 y1 : Int) (s : St) : Res := bnd (FX12_holds y1 y0 s) fun x1 s1 => if x1 = 0 then some (0, 0, s1) else fX12_song_48 kb a0 a1 s1
noncomputable def fX12_song_39 (kb : Co) (a0 a1 y0 : Int) (s : St) : Res := fX12_song_40 kb a0 a1 0 y0 s
noncomputable def fX12_song_35 (kb : Co) (a0 a1 y0 : Int) (s : St) : Res := fX12_song_40 kb a0 a1 2 y0 s
noncomputable def fX12_song_15 (kb : Co) (a0 a1 y0 : Int) (s : St) : Res := if 0 ≤ a1 ∧ a1 < 10 then if (gm s 108 a0 a1) = 6 then fX12_song_35 kb a0 a1 y0 s else if 0 ≤ a1 ∧ a1 < 10 then if (gm s 110 a0 a1) = 0 then fX12_song_39 kb a0 a1 y0 s else fX12_song_35 kb a0 a1 y0 s else none else none
noncomputable def fX12_song_0 (kb : Co) (a0 a1 : Int) (s : St) : Res := bnd (FX12_isSociety a0 a1 s) fun x1 s1 => if x1 = 0 then fX12_song_40 kb a0 a1 1 a0 s1 else fX12_song_15 kb a0 a1 a0 s1
noncomputable def tX12_song_48 (kb : Co) : List Rw := []
noncomputable def tX12_song_40 (kb : Co) : List Rw := (48, [(3, 12), (0, 0), (7, 0)], [], fun xs ys s => fX12_song_48 kb (xs.getD 0 0) (xs.getD 1 0) s) :: tX12_song_48 kb
noncomputable def tX12_song_39 (kb : Co) : List Rw := (40, [(3, 12), (0, 0), (7, 0)], [(0, 0), (3, 12)], fun xs ys s => fX12_song_40 kb (xs.getD 0 0) (xs.getD 1 0) (ys.getD 0 0) (ys.getD 1 0) s) :: tX12_song_40 kb
noncomputable def tX12_song_35 (kb : Co) : List Rw := (39, [(3, 12), (0, 0), (7, 0)], [(3, 12)], fun xs ys s => fX12_song_39 kb (xs.getD 0 0) (xs.getD 1 0) (ys.getD 0 0) s) :: tX12_song_39 kb
noncomputable def tX12_song_15 (kb : Co) : List Rw := (35, [(3, 12), (0, 0), (7, 0)], [(3, 12)], fun xs ys s => fX12_song_35 kb (xs.getD 0 0) (xs.getD 1 0) (ys.getD 0 0) s) :: tX12_song_35 kb
noncomputable def tX12_song_0 (kb : Co) : List Rw := (15, [(3, 12), (0, 0), (7, 0)], [(3, 12)], fun xs ys s => fX12_song_15 kb (xs.getD 0 0) (xs.getD 1 0) (ys.getD 0 0) s) :: tX12_song_15 kb
noncomputable def rX12_song (kb : Co) : List Rw := (0, [(3, 12), (0, 0), (7, 0)], [], fun xs ys s => fX12_song_0 kb (xs.getD 0 0) (xs.getD 1 0) s) :: tX12_song_0 kb
noncomputable def kX12_song : Nat → Co
  | 0 => nk
  | n + 1 => fam (rX12_song (kX12_song n)) nk
noncomputable def FX12_song (a0 a1 : Int) (s : St) : Res := fX12_song_0 (kX12_song 0) a0 a1 s
noncomputable def gX12_song : Fn := fun xs s => FX12_song (xs.getD 0 0) (xs.getD 1 0) s
noncomputable def mdX12_song : MD := ([(3, 12), (0, 0)], (0, 0), yX12_song, cX12_song, (3, (some .int), 2, 43, []))
-- FloatparadeModel.leftSongs(I)I
noncomputable def fX12_leftSongs_0 (kb : Co) (a0 a1 : Int) (s : St) : Res := if 0 ≤ a1 ∧ a1 < 10 then if 0 ≤ a1 ∧ a1 < 10 then bnd (FX12_bits (gm s 109 a0 a1) s) fun x1 s1 => some (0, (wr ((gm s 108 a0 a1) - x1)), s1) else none else none
noncomputable def tX12_leftSongs_0 (kb : Co) : List Rw := []
noncomputable def rX12_leftSongs (kb : Co) : List Rw := (0, [(3, 12), (0, 0)], [], fun xs ys s => fX12_leftSongs_0 kb (xs.getD 0 0) (xs.getD 1 0) s) :: tX12_leftSongs_0 kb
noncomputable def kX12_leftSongs : Nat → Co
  | 0 => nk
  | n + 1 => fam (rX12_leftSongs (kX12_leftSongs n)) nk
noncomputable def FX12_leftSongs (a0 a1 : Int) (s : St) : Res := fX12_leftSongs_0 (kX12_leftSongs 0) a0 a1 s
noncomputable def gX12_leftSongs : Fn := fun xs s => FX12_leftSongs (xs.getD 0 0) (xs.getD 1 0) s
noncomputable def mdX12_leftSongs : MD := ([(3, 12), (0, 0)], (0, 0), yX12_leftSongs, cX12_leftSongs, (2, (some .int), 1, 22, []))
-- FloatparadeModel.isStruck(II)Z
noncomputable def fX12_isStruck_19 (kb : Co) (y0 : Int) (s : St) : Res := if (y0 : Int) = 0 ∨ (y0 : Int) = 1 then some (0, y0, s) else none
noncomputable def fX12_isStruck_18 (kb : Co) (s : St) : Res := fX12_isStruck_19 kb 0 s
noncomputable def fX12_isStruck_0 (kb : Co) (a0 a1 a2 : Int) (s : St) : Res := if 0 ≤ a1 ∧ a1 < 10 then if (iand (ishr (gm s 109 a0 a1) a2) 1) = 1 then fX12_isStruck_19 kb 1 s else fX12_isStruck_18 kb s else none
noncomputable def tX12_isStruck_19 (kb : Co) : List Rw := []
noncomputable def tX12_isStruck_18 (kb : Co) : List Rw := (19, [(7, 0), (7, 0), (7, 0)], [(0, 0)], fun xs ys s => fX12_isStruck_19 kb (ys.getD 0 0) s) :: tX12_isStruck_19 kb
noncomputable def tX12_isStruck_0 (kb : Co) : List Rw := (18, [(7, 0), (7, 0), (7, 0)], [], fun xs ys s => fX12_isStruck_18 kb s) :: tX12_isStruck_18 kb
noncomputable def rX12_isStruck (kb : Co) : List Rw := (0, [(3, 12), (0, 0), (0, 0)], [], fun xs ys s => fX12_isStruck_0 kb (xs.getD 0 0) (xs.getD 1 0) (xs.getD 2 0) s) :: tX12_isStruck_0 kb
noncomputable def kX12_isStruck : Nat → Co
  | 0 => nk
  | n + 1 => fam (rX12_isStruck (kX12_isStruck n)) nk
noncomputable def FX12_isStruck (a0 a1 a2 : Int) (s : St) : Res := fX12_isStruck_0 (kX12_isStruck 0) a0 a1 a2 s
noncomputable def gX12_isStruck : Fn := fun xs s => FX12_isStruck (xs.getD 0 0) (xs.getD 1 0) (xs.getD 2 0) s
noncomputable def mdX12_isStruck : MD := ([(3, 12), (0, 0), (0, 0)], (0, 0), yX12_isStruck, cX12_isStruck, (3, (some .boolean), 0, 0, []))
-- FloatparadeModel.vote(III)I
noncomputable def fX12_vote_98 (kb : Co) (a0 a1 a2 a3 : Int) (s : St) : Res := if 0 ≤ (wr ((wr (6 * a1)) + a2)) ∧ (wr ((wr (6 * a1)) + a2)) < 60 then if 0 ≤ (wr ((wr (6 * a1)) + a2)) ∧ (wr ((wr (6 * a1)) + a2)) < 60 then if 0 ≤ (wr ((wr (6 * a1)) + a2)) ∧ (wr ((wr (6 * a1)) + a2)) < 60 then some (0, (gm (pm s 111 a0 (wr ((wr (6 * a1)) + a2)) (wr ((gm s 111 a0 (wr ((wr (6 * a1)) + a2))) + a3))) 111 a0 (wr ((wr (6 * a1)) + a2))), (pm s 111 a0 (wr ((wr (6 * a1)) + a2)) (wr ((gm s 111 a0 (wr ((wr (6 * a1)) + a2))) + a3)))) else none else none else none
noncomputable def fX12_vote_90 (kb : Co) (a0 a1 a2 a3 y0 y1 : Int) (s : St) : Res := bnd (FX12_holds y1 y0 s) fun x1 s1 => if x1 = 0 then some (0, 0, s1) else fX12_vote_98 kb a0 a1 a2 a3 s1
noncomputable def fX12_vote_89 (kb : Co) (a0 a1 a2 a3 y0 : Int) (s : St) : Res := fX12_vote_90 kb a0 a1 a2 a3 0 y0 s
noncomputable def fX12_vote_85 (kb : Co) (a0 a1 a2 a3 y0 : Int) (s : St) : Res := fX12_vote_90 kb a0 a1 a2 a3 3 y0 s
noncomputable def fX12_vote_67 (kb : Co) (a0 a1 a2 a3 y0 : Int) (s : St) : Res := bnd (FX12_isStruck a0 a1 a2 s) fun x1 s1 => if x1 = 0 then (bnd (FX12_leftSongs a0 a1 s1) fun x2 s2 => if x2 < 2 then fX12_vote_85 kb a0 a1 a2 a3 y0 s2 else fX12_vote_89 kb a0 a1 a2 a3 y0 s2) else fX12_vote_85 kb a0 a1 a2 a3 y0 s1
noncomputable def fX12_vote_53 (kb : Co) (a0 a1 a2 a3 y0 : Int) (s : St) : Res := bnd (FX12_in a3 1 99 s) fun x1 s1 => if x1 = 0 then fX12_vote_90 kb a0 a1 a2 a3 2 y0 s1 else fX12_vote_67 kb a0 a1 a2 a3 y0 s1
noncomputable def fX12_vote_41 (kb : Co) (a0 a1 a2 a3 y0 : Int) (s : St) : Res := if y0 = 0 then fX12_vote_90 kb a0 a1 a2 a3 1 a0 s else fX12_vote_53 kb a0 a1 a2 a3 a0 s
noncomputable def fX12_vote_40 (kb : Co) (a0 a1 a2 a3 : Int) (s : St) : Res := fX12_vote_41 kb a0 a1 a2 a3 0 s
noncomputable def fX12_vote_27 (kb : Co) (a0 a1 a2 a3 y0 y1 y2 y3 : Int) (s : St) : Res := if 0 ≤ y0 ∧ y0 < 10 then bnd (FX12_in y3 y2 (wr ((gm s 108 y1 y0) - 1)) s) fun x1 s1 => if x1 = 0 then fX12_vote_40 kb a0 a1 a2 a3 s1 else fX12_vote_41 kb a0 a1 a2 a3 1 s1 else none
noncomputable def fX12_vote_26 (kb : Co) (a0 a1 a2 a3 y0 y1 y2 : Int) (s : St) : Res := fX12_vote_27 kb a0 a1 a2 a3 0 y0 y1 y2 s
noncomputable def fX12_vote_0 (kb : Co) (a0 a1 a2 a3 : Int) (s : St) : Res := bnd (FX12_isSociety a0 a1 s) fun x1 s1 => if x1 = 0 then fX12_vote_40 kb a0 a1 a2 a3 s1 else bnd (FX12_isSociety a0 a1 s1) fun x2 s2 => if x2 = 0 then fX12_vote_26 kb a0 a1 a2 a3 a0 0 a2 s2 else fX12_vote_27 kb a0 a1 a2 a3 a1 a0 0 a2 s2
noncomputable def tX12_vote_98 (kb : Co) : List Rw := []
noncomputable def tX12_vote_90 (kb : Co) : List Rw := (98, [(3, 12), (0, 0), (0, 0), (0, 0), (7, 0)], [], fun xs ys s => fX12_vote_98 kb (xs.getD 0 0) (xs.getD 1 0) (xs.getD 2 0) (xs.getD 3 0) s) :: tX12_vote_98 kb
noncomputable def tX12_vote_89 (kb : Co) : List Rw := (90, [(3, 12), (0, 0), (0, 0), (0, 0), (7, 0)], [(0, 0), (3, 12)], fun xs ys s => fX12_vote_90 kb (xs.getD 0 0) (xs.getD 1 0) (xs.getD 2 0) (xs.getD 3 0) (ys.getD 0 0) (ys.getD 1 0) s) :: tX12_vote_90 kb
noncomputable def tX12_vote_85 (kb : Co) : List Rw := (89, [(3, 12), (0, 0), (0, 0), (0, 0), (7, 0)], [(3, 12)], fun xs ys s => fX12_vote_89 kb (xs.getD 0 0) (xs.getD 1 0) (xs.getD 2 0) (xs.getD 3 0) (ys.getD 0 0) s) :: tX12_vote_89 kb
noncomputable def tX12_vote_67 (kb : Co) : List Rw := (85, [(3, 12), (0, 0), (0, 0), (0, 0), (7, 0)], [(3, 12)], fun xs ys s => fX12_vote_85 kb (xs.getD 0 0) (xs.getD 1 0) (xs.getD 2 0) (xs.getD 3 0) (ys.getD 0 0) s) :: tX12_vote_85 kb
noncomputable def tX12_vote_53 (kb : Co) : List Rw := (67, [(3, 12), (0, 0), (0, 0), (0, 0), (7, 0)], [(3, 12)], fun xs ys s => fX12_vote_67 kb (xs.getD 0 0) (xs.getD 1 0) (xs.getD 2 0) (xs.getD 3 0) (ys.getD 0 0) s) :: tX12_vote_67 kb
noncomputable def tX12_vote_41 (kb : Co) : List Rw := (53, [(3, 12), (0, 0), (0, 0), (0, 0), (7, 0)], [(3, 12)], fun xs ys s => fX12_vote_53 kb (xs.getD 0 0) (xs.getD 1 0) (xs.getD 2 0) (xs.getD 3 0) (ys.getD 0 0) s) :: tX12_vote_53 kb
noncomputable def tX12_vote_40 (kb : Co) : List Rw := (41, [(3, 12), (0, 0), (0, 0), (0, 0), (7, 0)], [(0, 0)], fun xs ys s => fX12_vote_41 kb (xs.getD 0 0) (xs.getD 1 0) (xs.getD 2 0) (xs.getD 3 0) (ys.getD 0 0) s) :: tX12_vote_41 kb
noncomputable def tX12_vote_27 (kb : Co) : List Rw := (40, [(3, 12), (0, 0), (0, 0), (0, 0), (7, 0)], [], fun xs ys s => fX12_vote_40 kb (xs.getD 0 0) (xs.getD 1 0) (xs.getD 2 0) (xs.getD 3 0) s) :: tX12_vote_40 kb
noncomputable def tX12_vote_26 (kb : Co) : List Rw := (27, [(3, 12), (0, 0), (0, 0), (0, 0), (7, 0)], [(0, 0), (3, 108), (0, 0), (0, 0)], fun xs ys s => fX12_vote_27 kb (xs.getD 0 0) (xs.getD 1 0) (xs.getD 2 0) (xs.getD 3 0) (ys.getD 0 0) (ys.getD 1 0) (ys.getD 2 0) (ys.getD 3 0) s) :: tX12_vote_27 kb
noncomputable def tX12_vote_0 (kb : Co) : List Rw := (26, [(3, 12), (0, 0), (0, 0), (0, 0), (7, 0)], [(3, 108), (0, 0), (0, 0)], fun xs ys s => fX12_vote_26 kb (xs.getD 0 0) (xs.getD 1 0) (xs.getD 2 0) (xs.getD 3 0) (ys.getD 0 0) (ys.getD 1 0) (ys.getD 2 0) s) :: tX12_vote_26 kb
noncomputable def rX12_vote (kb : Co) : List Rw := (0, [(3, 12), (0, 0), (0, 0), (0, 0), (7, 0)], [], fun xs ys s => fX12_vote_0 kb (xs.getD 0 0) (xs.getD 1 0) (xs.getD 2 0) (xs.getD 3 0) s) :: tX12_vote_0 kb
noncomputable def kX12_vote : Nat → Co
  | 0 => nk
  | n + 1 => fam (rX12_vote (kX12_vote n)) nk
noncomputable def FX12_vote (a0 a1 a2 a3 : Int) (s : St) : Res := fX12_vote_0 (kX12_vote 0) a0 a1 a2 a3 s
noncomputable def gX12_vote : Fn := fun xs s => FX12_vote (xs.getD 0 0) (xs.getD 1 0) (xs.getD 2 0) (xs.getD 3 0) s
noncomputable def mdX12_vote : MD := ([(3, 12), (0, 0), (0, 0), (0, 0)], (0, 0), yX12_vote, cX12_vote, (5, (some .int), 2, 43, []))
-- FloatparadeModel.round(I)I
noncomputable def fX12_round_171 (kb : Co) (a3 : Int) (s : St) : Res := some (0, a3, s)
noncomputable def fX12_round_141 (kb : Co) (a0 a1 a3 a4 : Int) (s : St) : Res := if 0 ≤ a1 ∧ a1 < 10 then if a4 < (gm s 108 a0 a1) then (if 0 ≤ (wr ((wr (6 * a1)) + a4)) ∧ (wr ((wr (6 * a1)) + a4)) < 60 then kb 141 [(3, 12, a0), (0, 0, a1), (7, 0, 0), (0, 0, a3), (0, 0, (wr (a4 + 1))), (7, 0, 0)] [] (pm s 111 a0 (wr ((wr (6 * a1)) + a4)) 0) else none) else fX12_round_171 kb a3 s else none
noncomputable def fX12_round_119 (kb : Co) (a0 a1 a3 : Int) (s : St) : Res := if 0 ≤ a1 ∧ a1 < 10 then if 0 ≤ a1 ∧ a1 < 10 then if (0 ≤ a1 ∧ a1 < 10) ∧ ((1 : Int) = 0 ∨ (1 : Int) = 1) then fX12_round_141 kb a0 a1 a3 0 (pm (pm s 109 a0 a1 (ior (gm s 109 a0 a1) (ishl 1 a3))) 110 a0 a1 1) else none else none else none
noncomputable def fX12_round_112 (kb : Co) (a0 a1 a4 y0 : Int) (s : St) : Res := kb 42 [(3, 12, a0), (0, 0, a1), (7, 0, 0), (0, 0, y0), (0, 0, (wr (a4 + 1))), (7, 0, 0)] [] s
noncomputable def fX12_round_111 (kb : Co) (a0 a1 a3 a4 : Int) (s : St) : Res := fX12_round_112 kb a0 a1 a4 a3 s
noncomputable def fX12_round_89 (kb : Co) (a0 a1 a3 a4 y0 : Int) (s : St) : Res := bnd (FX12_isStruck a0 a1 a4 s) fun x1 s1 => if x1 = 0 then (if y0 = 0 then fX12_round_111 kb a0 a1 a3 a4 s1 else fX12_round_112 kb a0 a1 a4 a4 s1) else fX12_round_111 kb a0 a1 a3 a4 s1
noncomputable def fX12_round_88 (kb : Co) (a0 a1 a3 a4 : Int) (s : St) : Res := fX12_round_89 kb a0 a1 a3 a4 0 s
noncomputable def fX12_round_84 (kb : Co) (a0 a1 a3 a4 : Int) (s : St) : Res := fX12_round_89 kb a0 a1 a3 a4 1 s
noncomputable def fX12_round_42 (kb : Co) (a0 a1 a3 a4 : Int) (s : St) : Res := if 0 ≤ a1 ∧ a1 < 10 then if a4 < (gm s 108 a0 a1) then (if a3 = (-1) then fX12_round_84 kb a0 a1 a3 a4 s else if 0 ≤ (wr ((wr (6 * a1)) + a4)) ∧ (wr ((wr (6 * a1)) + a4)) < 60 then if 0 ≤ (wr ((wr (6 * a1)) + a3)) ∧ (wr ((wr (6 * a1)) + a3)) < 60 then if (gm s 111 a0 (wr ((wr (6 * a1)) + a3))) < (gm s 111 a0 (wr ((wr (6 * a1)) + a4))) then fX12_round_88 kb a0 a1 a3 a4 s else fX12_round_84 kb a0 a1 a3 a4 s else none else none) else fX12_round_119 kb a0 a1 a3 s else none
noncomputable def fX12_round_37 (kb : Co) (a0 a1 : Int) (s : St) : Res := fX12_round_42 kb a0 a1 (-1) 0 s
noncomputable def fX12_round_29 (kb : Co) (a0 a1 y0 y1 : Int) (s : St) : Res := bnd (FX12_holds y1 y0 s) fun x1 s1 => if x1 = 0 then some (0, 0, s1) else fX12_round_37 kb a0 a1 s1
noncomputable def fX12_round_28 (kb : Co) (a0 a1 y0 : Int) (s : St) : Res := fX12_round_29 kb a0 a1 0 y0 s
noncomputable def fX12_round_15 (kb : Co) (a0 a1 y0 : Int) (s : St) : Res := bnd (FX12_leftSongs a0 a1 s) fun x1 s1 => if x1 < 2 then fX12_round_29 kb a0 a1 2 y0 s1 else fX12_round_28 kb a0 a1 y0 s1
noncomputable def fX12_round_0 (kb : Co) (a0 a1 : Int) (s : St) : Res := bnd (FX12_isSociety a0 a1 s) fun x1 s1 => if x1 = 0 then fX12_round_29 kb a0 a1 1 a0 s1 else fX12_round_15 kb a0 a1 a0 s1
noncomputable def tX12_round_171 (kb : Co) : List Rw := []
noncomputable def tX12_round_141 (kb : Co) : List Rw := (171, [(7, 0), (7, 0), (7, 0), (0, 0), (7, 0), (7, 0)], [], fun xs ys s => fX12_round_171 kb (xs.getD 0 0) s) :: tX12_round_171 kb
noncomputable def tX12_round_119 (kb : Co) : List Rw := (141, [(3, 12), (0, 0), (7, 0), (0, 0), (0, 0), (7, 0)], [], fun xs ys s => fX12_round_141 kb (xs.getD 0 0) (xs.getD 1 0) (xs.getD 2 0) (xs.getD 3 0) s) :: tX12_round_141 kb
noncomputable def tX12_round_112 (kb : Co) : List Rw := (119, [(3, 12), (0, 0), (7, 0), (0, 0), (7, 0), (7, 0)], [], fun xs ys s => fX12_round_119 kb (xs.getD 0 0) (xs.getD 1 0) (xs.getD 2 0) s) :: tX12_round_119 kb
noncomputable def tX12_round_111 (kb : Co) : List Rw := (112, [(3, 12), (0, 0), (7, 0), (7, 0), (0, 0), (7, 0)], [(0, 0)], fun xs ys s => fX12_round_112 kb (xs.getD 0 0) (xs.getD 1 0) (xs.getD 2 0) (ys.getD 0 0) s) :: tX12_round_112 kb
noncomputable def tX12_round_89 (kb : Co) : List Rw := (111, [(3, 12), (0, 0), (7, 0), (0, 0), (0, 0), (7, 0)], [], fun xs ys s => fX12_round_111 kb (xs.getD 0 0) (xs.getD 1 0) (xs.getD 2 0) (xs.getD 3 0) s) :: tX12_round_111 kb
noncomputable def tX12_round_88 (kb : Co) : List Rw := (89, [(3, 12), (0, 0), (7, 0), (0, 0), (0, 0), (7, 0)], [(0, 0)], fun xs ys s => fX12_round_89 kb (xs.getD 0 0) (xs.getD 1 0) (xs.getD 2 0) (xs.getD 3 0) (ys.getD 0 0) s) :: tX12_round_89 kb
noncomputable def tX12_round_84 (kb : Co) : List Rw := (88, [(3, 12), (0, 0), (7, 0), (0, 0), (0, 0), (7, 0)], [], fun xs ys s => fX12_round_88 kb (xs.getD 0 0) (xs.getD 1 0) (xs.getD 2 0) (xs.getD 3 0) s) :: tX12_round_88 kb
noncomputable def tX12_round_42 (kb : Co) : List Rw := (84, [(3, 12), (0, 0), (7, 0), (0, 0), (0, 0), (7, 0)], [], fun xs ys s => fX12_round_84 kb (xs.getD 0 0) (xs.getD 1 0) (xs.getD 2 0) (xs.getD 3 0) s) :: tX12_round_84 kb
noncomputable def tX12_round_37 (kb : Co) : List Rw := (42, [(3, 12), (0, 0), (7, 0), (0, 0), (0, 0), (7, 0)], [], fun xs ys s => fX12_round_42 kb (xs.getD 0 0) (xs.getD 1 0) (xs.getD 2 0) (xs.getD 3 0) s) :: tX12_round_42 kb
noncomputable def tX12_round_29 (kb : Co) : List Rw := (37, [(3, 12), (0, 0), (7, 0), (7, 0), (7, 0), (7, 0)], [], fun xs ys s => fX12_round_37 kb (xs.getD 0 0) (xs.getD 1 0) s) :: tX12_round_37 kb
noncomputable def tX12_round_28 (kb : Co) : List Rw := (29, [(3, 12), (0, 0), (7, 0), (7, 0), (7, 0), (7, 0)], [(0, 0), (3, 12)], fun xs ys s => fX12_round_29 kb (xs.getD 0 0) (xs.getD 1 0) (ys.getD 0 0) (ys.getD 1 0) s) :: tX12_round_29 kb
noncomputable def tX12_round_15 (kb : Co) : List Rw := (28, [(3, 12), (0, 0), (7, 0), (7, 0), (7, 0), (7, 0)], [(3, 12)], fun xs ys s => fX12_round_28 kb (xs.getD 0 0) (xs.getD 1 0) (ys.getD 0 0) s) :: tX12_round_28 kb
noncomputable def tX12_round_0 (kb : Co) : List Rw := (15, [(3, 12), (0, 0), (7, 0), (7, 0), (7, 0), (7, 0)], [(3, 12)], fun xs ys s => fX12_round_15 kb (xs.getD 0 0) (xs.getD 1 0) (ys.getD 0 0) s) :: tX12_round_15 kb
noncomputable def rX12_round (kb : Co) : List Rw := (0, [(3, 12), (0, 0), (7, 0), (7, 0), (7, 0), (7, 0)], [], fun xs ys s => fX12_round_0 kb (xs.getD 0 0) (xs.getD 1 0) s) :: tX12_round_0 kb
noncomputable def kX12_round : Nat → Co
  | 0 => nk
  | n + 1 => fam (rX12_round (kX12_round n)) nk
noncomputable def FX12_round (a0 a1 : Int) (s : St) : Res := fX12_round_0 (kX12_round 9999) a0 a1 s
noncomputable def gX12_round : Fn := fun xs s => FX12_round (xs.getD 0 0) (xs.getD 1 0) s
noncomputable def mdX12_round : MD := ([(3, 12), (0, 0)], (0, 0), yX12_round, cX12_round, (6, (some .int), 2, 43, []))
-- FloatparadeModel.chosenSong(I)I
noncomputable def fX12_chosenSong_49 (kb : Co) (y0 : Int) (s : St) : Res := some (0, y0, s)
noncomputable def fX12_chosenSong_48 (kb : Co) (s : St) : Res := fX12_chosenSong_49 kb (-1) s
noncomputable def fX12_chosenSong_35 (kb : Co) (a0 a1 a2 : Int) (s : St) : Res := bnd (FX12_leftSongs a0 a1 s) fun x1 s1 => if x1 = 1 then fX12_chosenSong_49 kb a2 s1 else fX12_chosenSong_48 kb s1
noncomputable def fX12_chosenSong_28 (kb : Co) (a0 a1 a3 y0 : Int) (s : St) : Res := kb 4 [(3, 12, a0), (0, 0, a1), (0, 0, y0), (0, 0, (wr (a3 + 1)))] [] s
noncomputable def fX12_chosenSong_27 (kb : Co) (a0 a1 a3 : Int) (s : St) : Res := fX12_chosenSong_28 kb a0 a1 a3 a3 s
noncomputable def fX12_chosenSong_4 (kb : Co) (a0 a1 a2 a3 : Int) (s : St) : Res := if 0 ≤ a1 ∧ a1 < 10 then if a3 < (gm s 108 a0 a1) then (bnd (FX12_isStruck a0 a1 a3 s) fun x1 s1 => if x1 = 0 then fX12_chosenSong_27 kb a0 a1 a3 s1 else fX12_chosenSong_28 kb a0 a1 a3 a2 s1) else fX12_chosenSong_35 kb a0 a1 a2 s else none
noncomputable def fX12_chosenSong_0 (kb : Co) (a0 a1 : Int) (s : St) : Res := fX12_chosenSong_4 kb a0 a1 (-1) 0 s
noncomputable def tX12_chosenSong_49 (kb : Co) : List Rw := []
noncomputable def tX12_chosenSong_48 (kb : Co) : List Rw := (49, [(7, 0), (7, 0), (7, 0), (7, 0)], [(0, 0)], fun xs ys s => fX12_chosenSong_49 kb (ys.getD 0 0) s) :: tX12_chosenSong_49 kb
noncomputable def tX12_chosenSong_35 (kb : Co) : List Rw := (48, [(7, 0), (7, 0), (7, 0), (7, 0)], [], fun xs ys s => fX12_chosenSong_48 kb s) :: tX12_chosenSong_48 kb
noncomputable def tX12_chosenSong_28 (kb : Co) : List Rw := (35, [(3, 12), (0, 0), (0, 0), (7, 0)], [], fun xs ys s => fX12_chosenSong_35 kb (xs.getD 0 0) (xs.getD 1 0) (xs.getD 2 0) s) :: tX12_chosenSong_35 kb
noncomputable def tX12_chosenSong_27 (kb : Co) : List Rw := (28, [(3, 12), (0, 0), (7, 0), (0, 0)], [(0, 0)], fun xs ys s => fX12_chosenSong_28 kb (xs.getD 0 0) (xs.getD 1 0) (xs.getD 2 0) (ys.getD 0 0) s) :: tX12_chosenSong_28 kb
noncomputable def tX12_chosenSong_4 (kb : Co) : List Rw := (27, [(3, 12), (0, 0), (7, 0), (0, 0)], [], fun xs ys s => fX12_chosenSong_27 kb (xs.getD 0 0) (xs.getD 1 0) (xs.getD 2 0) s) :: tX12_chosenSong_27 kb
noncomputable def tX12_chosenSong_0 (kb : Co) : List Rw := (4, [(3, 12), (0, 0), (0, 0), (0, 0)], [], fun xs ys s => fX12_chosenSong_4 kb (xs.getD 0 0) (xs.getD 1 0) (xs.getD 2 0) (xs.getD 3 0) s) :: tX12_chosenSong_4 kb
noncomputable def rX12_chosenSong (kb : Co) : List Rw := (0, [(3, 12), (0, 0), (7, 0), (7, 0)], [], fun xs ys s => fX12_chosenSong_0 kb (xs.getD 0 0) (xs.getD 1 0) s) :: tX12_chosenSong_0 kb
noncomputable def kX12_chosenSong : Nat → Co
  | 0 => nk
  | n + 1 => fam (rX12_chosenSong (kX12_chosenSong n)) nk
noncomputable def FX12_chosenSong (a0 a1 : Int) (s : St) : Res := fX12_chosenSong_0 (kX12_chosenSong 9999) a0 a1 s
noncomputable def gX12_chosenSong : Fn := fun xs s => FX12_chosenSong (xs.getD 0 0) (xs.getD 1 0) s
noncomputable def mdX12_chosenSong : MD := ([(3, 12), (0, 0)], (0, 0), yX12_chosenSong, cX12_chosenSong, (4, (some .int), 2, 43, []))
-- FloatparadeModel.streetBetween(II)I
noncomputable def fX12_streetBetween_83 (kb : Co) (a3 : Int) (s : St) : Res := some (0, a3, s)
noncomputable def fX12_streetBetween_76 (kb : Co) (a0 a1 a2 a4 y0 : Int) (s : St) : Res := kb 5 [(3, 12, a0), (0, 0, a1), (0, 0, a2), (0, 0, y0), (0, 0, (wr (a4 + 1))), (7, 0, 0)] [] s
noncomputable def fX12_streetBetween_75 (kb : Co) (a0 a1 a2 a3 a4 : Int) (s : St) : Res := fX12_streetBetween_76 kb a0 a1 a2 a4 a3 s
noncomputable def fX12_streetBetween_63 (kb : Co) (a0 a1 a2 a3 a4 y0 : Int) (s : St) : Res := if y0 = 0 then fX12_streetBetween_75 kb a0 a1 a2 a3 a4 s else fX12_streetBetween_76 kb a0 a1 a2 a4 a4 s
noncomputable def fX12_streetBetween_62 (kb : Co) (a0 a1 a2 a3 a4 : Int) (s : St) : Res := fX12_streetBetween_63 kb a0 a1 a2 a3 a4 0 s
noncomputable def fX12_streetBetween_58 (kb : Co) (a0 a1 a2 a3 a4 : Int) (s : St) : Res := fX12_streetBetween_63 kb a0 a1 a2 a3 a4 1 s
noncomputable def fX12_streetBetween_36 (kb : Co) (a0 a1 a2 a3 a4 : Int) (s : St) : Res := if 0 ≤ a4 ∧ a4 < 16 then if (gm s 115 a0 a4) = a2 then (if 0 ≤ a4 ∧ a4 < 16 then if (gm s 116 a0 a4) = a1 then fX12_streetBetween_58 kb a0 a1 a2 a3 a4 s else fX12_streetBetween_62 kb a0 a1 a2 a3 a4 s else none) else fX12_streetBetween_62 kb a0 a1 a2 a3 a4 s else none
noncomputable def fX12_streetBetween_5 (kb : Co) (a0 a1 a2 a3 a4 : Int) (s : St) : Res := if a4 < (gm s 12 a0 14) then (if 0 ≤ a4 ∧ a4 < 16 then if (gm s 115 a0 a4) = a1 then (if 0 ≤ a4 ∧ a4 < 16 then if (gm s 116 a0 a4) = a2 then fX12_streetBetween_58 kb a0 a1 a2 a3 a4 s else fX12_streetBetween_36 kb a0 a1 a2 a3 a4 s else none) else fX12_streetBetween_36 kb a0 a1 a2 a3 a4 s else none) else fX12_streetBetween_83 kb a3 s
noncomputable def fX12_streetBetween_0 (kb : Co) (a0 a1 a2 : Int) (s : St) : Res := fX12_streetBetween_5 kb a0 a1 a2 (-1) 0 s
noncomputable def tX12_streetBetween_83 (kb : Co) : List Rw := []
noncomputable def tX12_streetBetween_76 (kb : Co) : List Rw := (83, [(7, 0), (7, 0), (7, 0), (0, 0), (7, 0), (7, 0)], [], fun xs ys s => fX12_streetBetween_83 kb (xs.getD 0 0) s) :: tX12_streetBetween_83 kb
noncomputable def tX12_streetBetween_75 (kb : Co) : List Rw := (76, [(3, 12), (0, 0), (0, 0), (7, 0), (0, 0), (7, 0)], [(0, 0)], fun xs ys s => fX12_streetBetween_76 kb (xs.getD 0 0) (xs.getD 1 0) (xs.getD 2 0) (xs.getD 3 0) (ys.getD 0 0) s) :: tX12_streetBetween_76 kb
noncomputable def tX12_streetBetween_63 (kb : Co) : List Rw := (75, [(3, 12), (0, 0), (0, 0), (0, 0), (0, 0), (7, 0)], [], fun xs ys s => fX12_streetBetween_75 kb (xs.getD 0 0) (xs.getD 1 0) (xs.getD 2 0) (xs.getD 3 0) (xs.getD 4 0) s) :: tX12_streetBetween_75 kb
noncomputable def tX12_streetBetween_62 (kb : Co) : List Rw := (63, [(3, 12), (0, 0), (0, 0), (0, 0), (0, 0), (7, 0)], [(0, 0)], fun xs ys s => fX12_streetBetween_63 kb (xs.getD 0 0) (xs.getD 1 0) (xs.getD 2 0) (xs.getD 3 0) (xs.getD 4 0) (ys.getD 0 0) s) :: tX12_streetBetween_63 kb
noncomputable def tX12_streetBetween_58 (kb : Co) : List Rw := (62, [(3, 12), (0, 0), (0, 0), (0, 0), (0, 0), (7, 0)], [], fun xs ys s => fX12_streetBetween_62 kb (xs.getD 0 0) (xs.getD 1 0) (xs.getD 2 0) (xs.getD 3 0) (xs.getD 4 0) s) :: tX12_streetBetween_62 kb
noncomputable def tX12_streetBetween_36 (kb : Co) : List Rw := (58, [(3, 12), (0, 0), (0, 0), (0, 0), (0, 0), (7, 0)], [], fun xs ys s => fX12_streetBetween_58 kb (xs.getD 0 0) (xs.getD 1 0) (xs.getD 2 0) (xs.getD 3 0) (xs.getD 4 0) s) :: tX12_streetBetween_58 kb
noncomputable def tX12_streetBetween_5 (kb : Co) : List Rw := (36, [(3, 12), (0, 0), (0, 0), (0, 0), (0, 0), (7, 0)], [], fun xs ys s => fX12_streetBetween_36 kb (xs.getD 0 0) (xs.getD 1 0) (xs.getD 2 0) (xs.getD 3 0) (xs.getD 4 0) s) :: tX12_streetBetween_36 kb
noncomputable def tX12_streetBetween_0 (kb : Co) : List Rw := (5, [(3, 12), (0, 0), (0, 0), (0, 0), (0, 0), (7, 0)], [], fun xs ys s => fX12_streetBetween_5 kb (xs.getD 0 0) (xs.getD 1 0) (xs.getD 2 0) (xs.getD 3 0) (xs.getD 4 0) s) :: tX12_streetBetween_5 kb
noncomputable def rX12_streetBetween (kb : Co) : List Rw := (0, [(3, 12), (0, 0), (0, 0), (7, 0), (7, 0), (7, 0)], [], fun xs ys s => fX12_streetBetween_0 kb (xs.getD 0 0) (xs.getD 1 0) (xs.getD 2 0) s) :: tX12_streetBetween_0 kb
noncomputable def kX12_streetBetween : Nat → Co
  | 0 => nk
  | n + 1 => fam (rX12_streetBetween (kX12_streetBetween n)) nk
noncomputable def FX12_streetBetween (a0 a1 a2 : Int) (s : St) : Res := fX12_streetBetween_0 (kX12_streetBetween 9999) a0 a1 a2 s
noncomputable def gX12_streetBetween : Fn := fun xs s => FX12_streetBetween (xs.getD 0 0) (xs.getD 1 0) (xs.getD 2 0) s
noncomputable def mdX12_streetBetween : MD := ([(3, 12), (0, 0), (0, 0)], (0, 0), yX12_streetBetween, cX12_streetBetween, (6, (some .int), 0, 0, []))
-- FloatparadeModel.street(IIIIII)I
noncomputable def fX12_street_127 (kb : Co) (a0 a1 a2 a3 a4 a5 a6 : Int) (s : St) : Res := if 0 ≤ (gm s 12 a0 14) ∧ (gm s 12 a0 14) < 16 then if 0 ≤ (gm (pm s 115 a0 (gm s 12 a0 14) a1) 12 a0 14) ∧ (gm (pm s 115 a0 (gm s 12 a0 14) a1) 12 a0 14) < 16 then if 0 ≤ (gm (pm (pm s 115 a0 (gm s 12 a0 14) a1) 116 a0 (gm (pm s 115 a0 (gm s 12 a0 14) a1) 12 a0 14) a2) 12 a0 14) ∧ (gm (pm (pm s 115 a0 (gm s 12 a0 14) a1) 116 a0 (gm (pm s 115 a0 (gm s 12 a0 14) a1) 12 a0 14) a2) 12 a0 14) < 16 then if 0 ≤ (gm (pm (pm (pm s 115 a0 (gm s 12 a0 14) a1) 116 a0 (gm (pm s 115 a0 (gm s 12 a0 14) a1) 12 a0 14) a2) 117 a0 (gm (pm (pm s 115 a0 (gm s 12 a0 14) a1) 116 a0 (gm (pm s 115 a0 (gm s 12 a0 14) a1) 12 a0 14) a2) 12 a0 14) a3) 12 a0 14) ∧ (gm (pm (pm (pm s 115 a0 (gm s 12 a0 14) a1) 116 a0 (gm (pm s 115 a0 (gm s 12 a0 14) a1) 12 a0 14) a2) 117 a0 (gm (pm (pm s 115 a0 (gm s 12 a0 14) a1) 116 a0 (gm (pm s 115 a0 (gm s 12 a0 14) a1) 12 a0 14) a2) 12 a0 14) a3) 12 a0 14) < 16 then if 0 ≤ (gm (pm (pm (pm (pm s 115 a0 (gm s 12 a0 14) a1) 116 a0 (gm (pm s 115 a0 (gm s 12 a0 14) a1) 12 a0 14) a2) 117 a0 (gm (pm (pm s 115 a0 (gm s 12 a0 14) a1) 116 a0 (gm (pm s 115 a0 (gm s 12 a0 14) a1) 12 a0 14) a2) 12 a0 14) a3) 118 a0 (gm (pm (pm (pm s 115 a0 (gm s 12 a0 14) a1) 116 a0 (gm (pm s 115 a0 (gm s 12 a0 14) a1) 12 a0 14) a2) 117 a0 (gm (pm (pm s 115 a0 (gm s 12 a0 14) a1) 116 a0 (gm (pm s 115 a0 (gm s 12 a0 14) a1) 12 a0 14) a2) 12 a0 14) a3) 12 a0 14) a4) 12 a0 14) ∧ (gm (pm (pm (pm (pm s 115 a0 (gm s 12 a0 14) a1) 116 a0 (gm (pm s 115 a0 (gm s 12 a0 14) a1) 12 a0 14) a2) 117 a0 (gm (pm (pm s 115 a0 (gm s 12 a0 14) a1) 116 a0 (gm (pm s 115 a0 (gm s 12 a0 14) a1) 12 a0 14) a2) 12 a0 14) a3) 118 a0 (gm (pm (pm (pm s 115 a0 (gm s 12 a0 14) a1) 116 a0 (gm (pm s 115 a0 (gm s 12 a0 14) a1) 12 a0 14) a2) 117 a0 (gm (pm (pm s 115 a0 (gm s 12 a0 14) a1) 116 a0 (gm (pm s 115 a0 (gm s 12 a0 14) a1) 12 a0 14) a2) 12 a0 14) a3) 12 a0 14) a4) 12 a0 14) < 16 then if 0 ≤ (gm (pm (pm (pm (pm (pm s 115 a0 (gm s 12 a0 14) a1) 116 a0 (gm (pm s 115 a0 (gm s 12 a0 14) a1) 12 a0 14) a2) 117 a0 (gm (pm (pm s 115 a0 (gm s 12 a0 14) a1) 116 a0 (gm (pm s 115 a0 (gm s 12 a0 14) a1) 12 a0 14) a2) 12 a0 14) a3) 118 a0 (gm (pm (pm (pm s 115 a0 (gm s 12 a0 14) a1) 116 a0 (gm (pm s 115 a0 (gm s 12 a0 14) a1) 12 a0 14) a2) 117 a0 (gm (pm (pm s 115 a0 (gm s 12 a0 14) a1) 116 a0 (gm (pm s 115 a0 (gm s 12 a0 14) a1) 12 a0 14) a2) 12 a0 14) a3) 12 a0 14) a4) 119 a0 (gm (pm (pm (pm (pm s 115 a0 (gm s 12 a0 14) a1) 116 a0 (gm (pm s 115 a0 (gm s 12 a0 14) a1) 12 a0 14) a2) 117 a0 (gm (pm (pm s 115 a0 (gm s 12 a0 14) a1) 116 a0 (gm (pm s 115 a0 (gm s 12 a0 14) a1) 12 a0 14) a2) 12 a0 14) a3) 118 a0 (gm (pm (pm (pm s 115 a0 (gm s 12 a0 14) a1) 116 a0 (gm (pm s 115 a0 (gm s 12 a0 14) a1) 12 a0 14) a2) 117 a0 (gm (pm (pm s 115 a0 (gm s 12 a0 14) a1) 116 a0 (gm (pm s 115 a0 (gm s 12 a0 14) a1) 12 a0 14) a2) 12 a0 14) a3) 12 a0 14) a4) 12 a0 14) a5) 12 a0 14) ∧ (gm (pm (pm (pm (pm (pm s 115 a0 (gm s 12 a0 14) a1) 116 a0 (gm (pm s 115 a0 (gm s 12 a0 14) a1) 12 a0 14) a2) 117 a0 (gm (pm (pm s 115 a0 (gm s 12 a0 14) a1) 116 a0 (gm (pm s 115 a0 (gm s 12 a0 14) a1) 12 a0 14) a2) 12 a0 14) a3) 118 a0 (gm (pm (pm (pm s 115 a0 (gm s 12 a0 14) a1) 116 a0 (gm (pm s 115 a0 (gm s 12 a0 14) a1) 12 a0 14) a2) 117 a0 (gm (pm (pm s 115 a0 (gm s 12 a0 14) a1) 116 a0 (gm (pm s 115 a0 (gm s 12 a0 14) a1) 12 a0 14) a2) 12 a0 14) a3) 12 a0 14) a4) 119 a0 (gm (pm (pm (pm (pm s 115 a0 (gm s 12 a0 14) a1) 116 a0 (gm (pm s 115 a0 (gm s 12 a0 14) a1) 12 a0 14) a2) 117 a0 (gm (pm (pm s 115 a0 (gm s 12 a0 14) a1) 116 a0 (gm (pm s 115 a0 (gm s 12 a0 14) a1) 12 a0 14) a2) 12 a0 14) a3) 118 a0 (gm (pm (pm (pm s 115 a0 (gm s 12 a0 14) a1) 116 a0 (gm (pm s 115 a0 (gm s 12 a0 14) a1) 12 a0 14) a2) 117 a0 (gm (pm (pm s 115 a0 (gm s 12 a0 14) a1) 116 a0 (gm (pm s 115 a0 (gm s 12 a0 14) a1) 12 a0 14) a2) 12 a0 14) a3) 12 a0 14) a4) 12 a0 14) a5) 12 a0 14) < 16 then some (0, (gm (pm (pm (pm (pm (pm (pm (pm s 115 a0 (gm s 12 a0 14) a1) 116 a0 (gm (pm s 115 a0 (gm s 12 a0 14) a1) 12 a0 14) a2) 117 a0 (gm (pm (pm s 115 a0 (gm s 12 a0 14) a1) 116 a0 (gm (pm s 115 a0 (gm s 12 a0 14) a1) 12 a0 14) a2) 12 a0 14) a3) 118 a0 (gm (pm (pm (pm s 115 a0 (gm s 12 a0 14) a1) 116 a0 (gm (pm s 115 a0 (gm s 12 a0 14) a1) 12 a0 14) a2) 117 a0 (gm (pm (pm s 115 a0 (gm s 12 a0 14) a1) 116 a0 (gm (pm s 115 a0 (gm s 12 a0 14) a1) 12 a0 14) a2) 12 a0 14) a3) 12 a0 14) a4) 119 a0 (gm (pm (pm (pm (pm s 115 a0 (gm s 12 a0 14) a1) 116 a0 (gm (pm s 115 a0 (gm s 12 a0 14) a1) 12 a0 14) a2) 117 a0 (gm (pm (pm s 115 a0 (gm s 12 a0 14) a1) 116 a0 (gm (pm s 115 a0 (gm s 12 a0 14) a1) 12 a0 14) a2) 12 a0 14) a3) 118 a0 (gm (pm (pm (pm s 115 a0 (gm s 12 a0 14) a1) 116 a0 (gm (pm s 115 a0 (gm s 12 a0 14) a1) 12 a0 14) a2) 117 a0 (gm (pm (pm s 115 a0 (gm s 12 a0 14) a1) 116 a0 (gm (pm s 115 a0 (gm s 12 a0 14) a1) 12 a0 14) a2) 12 a0 14) a3) 12 a0 14) a4) 12 a0 14) a5) 120 a0 (gm (pm (pm (pm (pm (pm s 115 a0 (gm s 12 a0 14) a1) 116 a0 (gm (pm s 115 a0 (gm s 12 a0 14) a1) 12 a0 14) a2) 117 a0 (gm (pm (pm s 115 a0 (gm s 12 a0 14) a1) 116 a0 (gm (pm s 115 a0 (gm s 12 a0 14) a1) 12 a0 14) a2) 12 a0 14) a3) 118 a0 (gm (pm (pm (pm s 115 a0 (gm s 12 a0 14) a1) 116 a0 (gm (pm s 115 a0 (gm s 12 a0 14) a1) 12 a0 14) a2) 117 a0 (gm (pm (pm s 115 a0 (gm s 12 a0 14) a1) 116 a0 (gm (pm s 115 a0 (gm s 12 a0 14) a1) 12 a0 14) a2) 12 a0 14) a3) 12 a0 14) a4) 119 a0 (gm (pm (pm (pm (pm s 115 a0 (gm s 12 a0 14) a1) 116 a0 (gm (pm s 115 a0 (gm s 12 a0 14) a1) 12 a0 14) a2) 117 a0 (gm (pm (pm s 115 a0 (gm s 12 a0 14) a1) 116 a0 (gm (pm s 115 a0 (gm s 12 a0 14) a1) 12 a0 14) a2) 12 a0 14) a3) 118 a0 (gm (pm (pm (pm s 115 a0 (gm s 12 a0 14) a1) 116 a0 (gm (pm s 115 a0 (gm s 12 a0 14) a1) 12 a0 14) a2) 117 a0 (gm (pm (pm s 115 a0 (gm s 12 a0 14) a1) 116 a0 (gm (pm s 115 a0 (gm s 12 a0 14) a1) 12 a0 14) a2) 12 a0 14) a3) 12 a0 14) a4) 12 a0 14) a5) 12 a0 14) a6) 12 a0 14 (wr ((gm (pm (pm (pm (pm (pm (pm s 115 a0 (gm s 12 a0 14) a1) 116 a0 (gm (pm s 115 a0 (gm s 12 a0 14) a1) 12 a0 14) a2) 117 a0 (gm (pm (pm s 115 a0 (gm s 12 a0 14) a1) 116 a0 (gm (pm s 115 a0 (gm s 12 a0 14) a1) 12 a0 14) a2) 12 a0 14) a3) 118 a0 (gm (pm (pm (pm s 115 a0 (gm s 12 a0 14) a1) 116 a0 (gm (pm s 115 a0 (gm s 12 a0 14) a1) 12 a0 14) a2) 117 a0 (gm (pm (pm s 115 a0 (gm s 12 a0 14) a1) 116 a0 (gm (pm s 115 a0 (gm s 12 a0 14) a1) 12 a0 14) a2) 12 a0 14) a3) 12 a0 14) a4) 119 a0 (gm (pm (pm (pm (pm s 115 a0 (gm s 12 a0 14) a1) 116 a0 (gm (pm s 115 a0 (gm s 12 a0 14) a1) 12 a0 14) a2) 117 a0 (gm (pm (pm s 115 a0 (gm s 12 a0 14) a1) 116 a0 (gm (pm s 115 a0 (gm s 12 a0 14) a1) 12 a0 14) a2) 12 a0 14) a3) 118 a0 (gm (pm (pm (pm s 115 a0 (gm s 12 a0 14) a1) 116 a0 (gm (pm s 115 a0 (gm s 12 a0 14) a1) 12 a0 14) a2) 117 a0 (gm (pm (pm s 115 a0 (gm s 12 a0 14) a1) 116 a0 (gm (pm s 115 a0 (gm s 12 a0 14) a1) 12 a0 14) a2) 12 a0 14) a3) 12 a0 14) a4) 12 a0 14) a5) 120 a0 (gm (pm (pm (pm (pm (pm s 115 a0 (gm s 12 a0 14) a1) 116 a0 (gm (pm s 115 a0 (gm s 12 a0 14) a1) 12 a0 14) a2) 117 a0 (gm (pm (pm s 115 a0 (gm s 12 a0 14) a1) 116 a0 (gm (pm s 115 a0 (gm s 12 a0 14) a1) 12 a0 14) a2) 12 a0 14) a3) 118 a0 (gm (pm (pm (pm s 115 a0 (gm s 12 a0 14) a1) 116 a0 (gm (pm s 115 a0 (gm s 12 a0 14) a1) 12 a0 14) a2) 117 a0 (gm (pm (pm s 115 a0 (gm s 12 a0 14) a1) 116 a0 (gm (pm s 115 a0 (gm s 12 a0 14) a1) 12 a0 14) a2) 12 a0 14) a3) 12 a0 14) a4) 119 a0 (gm (pm (pm (pm (pm s 115 a0 (gm s 12 a0 14) a1) 116 a0 (gm (pm s 115 a0 (gm s 12 a0 14) a1) 12 a0 14) a2) 117 a0 (gm (pm (pm s 115 a0 (gm s 12 a0 14) a1) 116 a0 (gm (pm s 115 a0 (gm s 12 a0 14) a1) 12 a0 14) a2) 12 a0 14) a3) 118 a0 (gm (pm (pm (pm s 115 a0 (gm s 12 a0 14) a1) 116 a0 (gm (pm s 115 a0 (gm s 12 a0 14) a1) 12 a0 14) a2) 117 a0 (gm (pm (pm s 115 a0 (gm s 12 a0 14) a1) 116 a0 (gm (pm s 115 a0 (gm s 12 a0 14) a1) 12 a0 14) a2) 12 a0 14) a3) 12 a0 14) a4) 12 a0 14) a5) 12 a0 14) a6) 12 a0 14) + 1))) 12 a0 14), (pm (pm (pm (pm (pm (pm (pm s 115 a0 (gm s 12 a0 14) a1) 116 a0 (gm (pm s 115 a0 (gm s 12 a0 14) a1) 12 a0 14) a2) 117 a0 (gm (pm (pm s 115 a0 (gm s 12 a0 14) a1) 116 a0 (gm (pm s 115 a0 (gm s 12 a0 14) a1) 12 a0 14) a2) 12 a0 14) a3) 118 a0 (gm (pm (pm (pm s 115 a0 (gm s 12 a0 14) a1) 116 a0 (gm (pm s 115 a0 (gm s 12 a0 14) a1) 12 a0 14) a2) 117 a0 (gm (pm (pm s 115 a0 (gm s 12 a0 14) a1) 116 a0 (gm (pm s 115 a0 (gm s 12 a0 14) a1) 12 a0 14) a2) 12 a0 14) a3) 12 a0 14) a4) 119 a0 (gm (pm (pm (pm (pm s 115 a0 (gm s 12 a0 14) a1) 116 a0 (gm (pm s 115 a0 (gm s 12 a0 14) a1) 12 a0 14) a2) 117 a0 (gm (pm (pm s 115 a0 (gm s 12 a0 14) a1) 116 a0 (gm (pm s 115 a0 (gm s 12 a0 14) a1) 12 a0 14) a2) 12 a0 14) a3) 118 a0 (gm (pm (pm (pm s 115 a0 (gm s 12 a0 14) a1) 116 a0 (gm (pm s 115 a0 (gm s 12 a0 14) a1) 12 a0 14) a2) 117 a0 (gm (pm (pm s 115 a0 (gm s 12 a0 14) a1) 116 a0 (gm (pm s 115 a0 (gm s 12 a0 14) a1) 12 a0 14) a2) 12 a0 14) a3) 12 a0 14) a4) 12 a0 14) a5) 120 a0 (gm (pm (pm (pm (pm (pm s 115 a0 (gm s 12 a0 14) a1) 116 a0 (gm (pm s 115 a0 (gm s 12 a0 14) a1) 12 a0 14) a2) 117 a0 (gm (pm (pm s 115 a0 (gm s 12 a0 14) a1) 116 a0 (gm (pm s 115 a0 (gm s 12 a0 14) a1) 12 a0 14) a2) 12 a0 14) a3) 118 a0 (gm (pm (pm (pm s 115 a0 (gm s 12 a0 14) a1) 116 a0 (gm (pm s 115 a0 (gm s 12 a0 14) a1) 12 a0 14) a2) 117 a0 (gm (pm (pm s 115 a0 (gm s 12 a0 14) a1) 116 a0 (gm (pm s 115 a0 (gm s 12 a0 14) a1) 12 a0 14) a2) 12 a0 14) a3) 12 a0 14) a4) 119 a0 (gm (pm (pm (pm (pm s 115 a0 (gm s 12 a0 14) a1) 116 a0 (gm (pm s 115 a0 (gm s 12 a0 14) a1) 12 a0 14) a2) 117 a0 (gm (pm (pm s 115 a0 (gm s 12 a0 14) a1) 116 a0 (gm (pm s 115 a0 (gm s 12 a0 14) a1) 12 a0 14) a2) 12 a0 14) a3) 118 a0 (gm (pm (pm (pm s 115 a0 (gm s 12 a0 14) a1) 116 a0 (gm (pm s 115 a0 (gm s 12 a0 14) a1) 12 a0 14) a2) 117 a0 (gm (pm (pm s 115 a0 (gm s 12 a0 14) a1) 116 a0 (gm (pm s 115 a0 (gm s 12 a0 14) a1) 12 a0 14) a2) 12 a0 14) a3) 12 a0 14) a4) 12 a0 14) a5) 12 a0 14) a6) 12 a0 14 (wr ((gm (pm (pm (pm (pm (pm (pm s 115 a0 (gm s 12 a0 14) a1) 116 a0 (gm (pm s 115 a0 (gm s 12 a0 14) a1) 12 a0 14) a2) 117 a0 (gm (pm (pm s 115 a0 (gm s 12 a0 14) a1) 116 a0 (gm (pm s 115 a0 (gm s 12 a0 14) a1) 12 a0 14) a2) 12 a0 14) a3) 118 a0 (gm (pm (pm (pm s 115 a0 (gm s 12 a0 14) a1) 116 a0 (gm (pm s 115 a0 (gm s 12 a0 14) a1) 12 a0 14) a2) 117 a0 (gm (pm (pm s 115 a0 (gm s 12 a0 14) a1) 116 a0 (gm (pm s 115 a0 (gm s 12 a0 14) a1) 12 a0 14) a2) 12 a0 14) a3) 12 a0 14) a4) 119 a0 (gm (pm (pm (pm (pm s 115 a0 (gm s 12 a0 14) a1) 116 a0 (gm (pm s 115 a0 (gm s 12 a0 14) a1) 12 a0 14) a2) 117 a0 (gm (pm (pm s 115 a0 (gm s 12 a0 14) a1) 116 a0 (gm (pm s 115 a0 (gm s 12 a0 14) a1) 12 a0 14) a2) 12 a0 14) a3) 118 a0 (gm (pm (pm (pm s 115 a0 (gm s 12 a0 14) a1) 116 a0 (gm (pm s 115 a0 (gm s 12 a0 14) a1) 12 a0 14) a2) 117 a0 (gm (pm (pm s 115 a0 (gm s 12 a0 14) a1) 116 a0 (gm (pm s 115 a0 (gm s 12 a0 14) a1) 12 a0 14) a2) 12 a0 14) a3) 12 a0 14) a4) 12 a0 14) a5) 120 a0 (gm (pm (pm (pm (pm (pm s 115 a0 (gm s 12 a0 14) a1) 116 a0 (gm (pm s 115 a0 (gm s 12 a0 14) a1) 12 a0 14) a2) 117 a0 (gm (pm (pm s 115 a0 (gm s 12 a0 14) a1) 116 a0 (gm (pm s 115 a0 (gm s 12 a0 14) a1) 12 a0 14) a2) 12 a0 14) a3) 118 a0 (gm (pm (pm (pm s 115 a0 (gm s 12 a0 14) a1) 116 a0 (gm (pm s 115 a0 (gm s 12 a0 14) a1) 12 a0 14) a2) 117 a0 (gm (pm (pm s 115 a0 (gm s 12 a0 14) a1) 116 a0 (gm (pm s 115 a0 (gm s 12 a0 14) a1) 12 a0 14) a2) 12 a0 14) a3) 12 a0 14) a4) 119 a0 (gm (pm (pm (pm (pm s 115 a0 (gm s 12 a0 14) a1) 116 a0 (gm (pm s 115 a0 (gm s 12 a0 14) a1) 12 a0 14) a2) 117 a0 (gm (pm (pm s 115 a0 (gm s 12 a0 14) a1) 116 a0 (gm (pm s 115 a0 (gm s 12 a0 14) a1) 12 a0 14) a2) 12 a0 14) a3) 118 a0 (gm (pm (pm (pm s 115 a0 (gm s 12 a0 14) a1) 116 a0 (gm (pm s 115 a0 (gm s 12 a0 14) a1) 12 a0 14) a2) 117 a0 (gm (pm (pm s 115 a0 (gm s 12 a0 14) a1) 116 a0 (gm (pm s 115 a0 (gm s 12 a0 14) a1) 12 a0 14) a2) 12 a0 14) a3) 12 a0 14) a4) 12 a0 14) a5) 12 a0 14) a6) 12 a0 14) + 1)))) else none else none else none else none else none else none
noncomputable def fX12_street_119 (kb : Co) (a0 a1 a2 a3 a4 a5 a6 y0 y1 : Int) (s : St) : Res := bnd (FX12_holds y1 y0 s) fun x1 s1 => if x1 = 0 then some (0, 0, s1) else fX12_street_127 kb a0 a1 a2 a3 a4 a5 a6 s1
noncomputable def fX12_street_118 (kb : Co) (a0 a1 a2 a3 a4 a5 a6 y0 : Int) (s : St) : Res := fX12_street_119 kb a0 a1 a2 a3 a4 a5 a6 0 y0 s
noncomputable def fX12_street_114 (kb : Co) (a0 a1 a2 a3 a4 a5 a6 y0 : Int) (s : St) : Res := fX12_street_119 kb a0 a1 a2 a3 a4 a5 a6 3 y0 s
noncomputable def fX12_street_95 (kb : Co) (a0 a1 a2 a3 a4 a5 a6 y0 : Int) (s : St) : Res := if (gm s 12 a0 14) = 16 then fX12_street_114 kb a0 a1 a2 a3 a4 a5 a6 y0 s else bnd (FX12_streetBetween a0 a1 a2 s) fun x1 s1 => if x1 = (-1) then fX12_street_118 kb a0 a1 a2 a3 a4 a5 a6 y0 s1 else fX12_street_114 kb a0 a1 a2 a3 a4 a5 a6 y0 s1
noncomputable def fX12_street_86 (kb : Co) (a0 a1 a2 a3 a4 a5 a6 a8 y0 : Int) (s : St) : Res := if a8 = 0 then fX12_street_119 kb a0 a1 a2 a3 a4 a5 a6 2 y0 s else fX12_street_95 kb a0 a1 a2 a3 a4 a5 a6 y0 s
noncomputable def fX12_street_74 (kb : Co) (a0 a1 a2 a3 a4 a5 a6 a7 y0 : Int) (s : St) : Res := if a7 = 0 then fX12_street_119 kb a0 a1 a2 a3 a4 a5 a6 1 a0 s else fX12_street_86 kb a0 a1 a2 a3 a4 a5 a6 y0 a0 s
noncomputable def fX12_street_73 (kb : Co) (a0 a1 a2 a3 a4 a5 a6 a7 : Int) (s : St) : Res := fX12_street_74 kb a0 a1 a2 a3 a4 a5 a6 a7 0 s
noncomputable def fX12_street_19 (kb : Co) (a0 a1 a2 a3 a4 a5 a6 y0 : Int) (s : St) : Res := if a1 = a2 then fX12_street_73 kb a0 a1 a2 a3 a4 a5 a6 y0 s else bnd (FX12_in a3 1 30 s) fun x1 s1 => if x1 = 0 then fX12_street_73 kb a0 a1 a2 a3 a4 a5 a6 y0 s1 else bnd (FX12_in a4 3 30 s1) fun x2 s2 => if x2 = 0 then fX12_street_73 kb a0 a1 a2 a3 a4 a5 a6 y0 s2 else bnd (FX12_in a5 2 30 s2) fun x3 s3 => if x3 = 0 then fX12_street_73 kb a0 a1 a2 a3 a4 a5 a6 y0 s3 else bnd (FX12_in a6 1 99 s3) fun x4 s4 => if x4 = 0 then fX12_street_73 kb a0 a1 a2 a3 a4 a5 a6 y0 s4 else fX12_street_74 kb a0 a1 a2 a3 a4 a5 a6 y0 1 s4
noncomputable def fX12_street_18 (kb : Co) (a0 a1 a2 a3 a4 a5 a6 : Int) (s : St) : Res := fX12_street_19 kb a0 a1 a2 a3 a4 a5 a6 0 s
noncomputable def fX12_street_0 (kb : Co) (a0 a1 a2 a3 a4 a5 a6 : Int) (s : St) : Res := bnd (FX12_isCorner a1 s) fun x1 s1 => if x1 = 0 then fX12_street_18 kb a0 a1 a2 a3 a4 a5 a6 s1 else bnd (FX12_isCorner a2 s1) fun x2 s2 => if x2 = 0 then fX12_street_18 kb a0 a1 a2 a3 a4 a5 a6 s2 else fX12_street_19 kb a0 a1 a2 a3 a4 a5 a6 1 s2
noncomputable def tX12_street_127 (kb : Co) : List Rw := []
noncomputable def tX12_street_119 (kb : Co) : List Rw := (127, [(3, 12), (0, 0), (0, 0), (0, 0), (0, 0), (0, 0), (0, 0), (7, 0), (7, 0)], [], fun xs ys s => fX12_street_127 kb (xs.getD 0 0) (xs.getD 1 0) (xs.getD 2 0) (xs.getD 3 0) (xs.getD 4 0) (xs.getD 5 0) (xs.getD 6 0) s) :: tX12_street_127 kb
noncomputable def tX12_street_118 (kb : Co) : List Rw := (119, [(3, 12), (0, 0), (0, 0), (0, 0), (0, 0), (0, 0), (0, 0), (7, 0), (7, 0)], [(0, 0), (3, 12)], fun xs ys s => fX12_street_119 kb (xs.getD 0 0) (xs.getD 1 0) (xs.getD 2 0) (xs.getD 3 0) (xs.getD 4 0) (xs.getD 5 0) (xs.getD 6 0) (ys.getD 0 0) (ys.getD 1 0) s) :: tX12_street_119 kb
noncomputable def tX12_street_114 (kb : Co) : List Rw := (118, [(3, 12), (0, 0), (0, 0), (0, 0), (0, 0), (0, 0), (0, 0), (7, 0), (7, 0)], [(3, 12)], fun xs ys s => fX12_street_118 kb (xs.getD 0 0) (xs.getD 1 0) (xs.getD 2 0) (xs.getD 3 0) (xs.getD 4 0) (xs.getD 5 0) (xs.getD 6 0) (ys.getD 0 0) s) :: tX12_street_118 kb
noncomputable def tX12_street_95 (kb : Co) : List Rw := (114, [(3, 12), (0, 0), (0, 0), (0, 0), (0, 0), (0, 0), (0, 0), (7, 0), (7, 0)], [(3, 12)], fun xs ys s => fX12_street_114 kb (xs.getD 0 0) (xs.getD 1 0) (xs.getD 2 0) (xs.getD 3 0) (xs.getD 4 0) (xs.getD 5 0) (xs.getD 6 0) (ys.getD 0 0) s) :: tX12_street_114 kb
noncomputable def tX12_street_86 (kb : Co) : List Rw := (95, [(3, 12), (0, 0), (0, 0), (0, 0), (0, 0), (0, 0), (0, 0), (7, 0), (7, 0)], [(3, 12)], fun xs ys s => fX12_street_95 kb (xs.getD 0 0) (xs.getD 1 0) (xs.getD 2 0) (xs.getD 3 0) (xs.getD 4 0) (xs.getD 5 0) (xs.getD 6 0) (ys.getD 0 0) s) :: tX12_street_95 kb
noncomputable def tX12_street_74 (kb : Co) : List Rw := (86, [(3, 12), (0, 0), (0, 0), (0, 0), (0, 0), (0, 0), (0, 0), (7, 0), (0, 0)], [(3, 12)], fun xs ys s => fX12_street_86 kb (xs.getD 0 0) (xs.getD 1 0) (xs.getD 2 0) (xs.getD 3 0) (xs.getD 4 0) (xs.getD 5 0) (xs.getD 6 0) (xs.getD 7 0) (ys.getD 0 0) s) :: tX12_street_86 kb
noncomputable def tX12_street_73 (kb : Co) : List Rw := (74, [(3, 12), (0, 0), (0, 0), (0, 0), (0, 0), (0, 0), (0, 0), (0, 0), (7, 0)], [(0, 0)], fun xs ys s => fX12_street_74 kb (xs.getD 0 0) (xs.getD 1 0) (xs.getD 2 0) (xs.getD 3 0) (xs.getD 4 0) (xs.getD 5 0) (xs.getD 6 0) (xs.getD 7 0) (ys.getD 0 0) s) :: tX12_street_74 kb
noncomputable def tX12_street_19 (kb : Co) : List Rw := (73, [(3, 12), (0, 0), (0, 0), (0, 0), (0, 0), (0, 0), (0, 0), (0, 0), (7, 0)], [], fun xs ys s => fX12_street_73 kb (xs.getD 0 0) (xs.getD 1 0) (xs.getD 2 0) (xs.getD 3 0) (xs.getD 4 0) (xs.getD 5 0) (xs.getD 6 0) (xs.getD 7 0) s) :: tX12_street_73 kb
noncomputable def tX12_street_18 (kb : Co) : List Rw := (19, [(3, 12), (0, 0), (0, 0), (0, 0), (0, 0), (0, 0), (0, 0), (7, 0), (7, 0)], [(0, 0)], fun xs ys s => fX12_street_19 kb (xs.getD 0 0) (xs.getD 1 0) (xs.getD 2 0) (xs.getD 3 0) (xs.getD 4 0) (xs.getD 5 0) (xs.getD 6 0) (ys.getD 0 0) s) :: tX12_street_19 kb
noncomputable def tX12_street_0 (kb : Co) : List Rw := (18, [(3, 12), (0, 0), (0, 0), (0, 0), (0, 0), (0, 0), (0, 0), (7, 0), (7, 0)], [], fun xs ys s => fX12_street_18 kb (xs.getD 0 0) (xs.getD 1 0) (xs.getD 2 0) (xs.getD 3 0) (xs.getD 4 0) (xs.getD 5 0) (xs.getD 6 0) s) :: tX12_street_18 kb
noncomputable def rX12_street (kb : Co) : List Rw := (0, [(3, 12), (0, 0), (0, 0), (0, 0), (0, 0), (0, 0), (0, 0), (7, 0), (7, 0)], [], fun xs ys s => fX12_street_0 kb (xs.getD 0 0) (xs.getD 1 0) (xs.getD 2 0) (xs.getD 3 0) (xs.getD 4 0) (xs.getD 5 0) (xs.getD 6 0) s) :: tX12_street_0 kb
noncomputable def kX12_street : Nat → Co
  | 0 => nk
  | n + 1 => fam (rX12_street (kX12_street n)) nk
noncomputable def FX12_street (a0 a1 a2 a3 a4 a5 a6 : Int) (s : St) : Res := fX12_street_0 (kX12_street 0) a0 a1 a2 a3 a4 a5 a6 s
noncomputable def gX12_street : Fn := fun xs s => FX12_street (xs.getD 0 0) (xs.getD 1 0) (xs.getD 2 0) (xs.getD 3 0) (xs.getD 4 0) (xs.getD 5 0) (xs.getD 6 0) s
noncomputable def mdX12_street : MD := ([(3, 12), (0, 0), (0, 0), (0, 0), (0, 0), (0, 0), (0, 0)], (0, 0), yX12_street, cX12_street, (9, (some .int), 2, 42, []))
-- FloatparadeModel.isBound(I)Z
noncomputable def fX12_isBound_23 (kb : Co) (y0 : Int) (s : St) : Res := if (y0 : Int) = 0 ∨ (y0 : Int) = 1 then some (0, y0, s) else none
noncomputable def fX12_isBound_22 (kb : Co) (s : St) : Res := fX12_isBound_23 kb 0 s
noncomputable def fX12_isBound_18 (kb : Co) (s : St) : Res := fX12_isBound_23 kb 1 s
noncomputable def fX12_isBound_0 (kb : Co) (a0 a1 : Int) (s : St) : Res := if 0 ≤ a1 ∧ a1 < 2 then if 0 < (gm s 130 a0 a1) then fX12_isBound_18 kb s else if 0 ≤ a1 ∧ a1 < 2 then if 0 < (gm s 126 a0 a1) then fX12_isBound_18 kb s else fX12_isBound_22 kb s else none else none
noncomputable def tX12_isBound_23 (kb : Co) : List Rw := []
noncomputable def tX12_isBound_22 (kb : Co) : List Rw := (23, [(7, 0), (7, 0)], [(0, 0)], fun xs ys s => fX12_isBound_23 kb (ys.getD 0 0) s) :: tX12_isBound_23 kb
noncomputable def tX12_isBound_18 (kb : Co) : List Rw := (22, [(7, 0), (7, 0)], [], fun xs ys s => fX12_isBound_22 kb s) :: tX12_isBound_22 kb
noncomputable def tX12_isBound_0 (kb : Co) : List Rw := (18, [(7, 0), (7, 0)], [], fun xs ys s => fX12_isBound_18 kb s) :: tX12_isBound_18 kb
noncomputable def rX12_isBound (kb : Co) : List Rw := (0, [(3, 12), (0, 0)], [], fun xs ys s => fX12_isBound_0 kb (xs.getD 0 0) (xs.getD 1 0) s) :: tX12_isBound_0 kb
noncomputable def kX12_isBound : Nat → Co
  | 0 => nk
  | n + 1 => fam (rX12_isBound (kX12_isBound n)) nk
noncomputable def FX12_isBound (a0 a1 : Int) (s : St) : Res := fX12_isBound_0 (kX12_isBound 0) a0 a1 s
noncomputable def gX12_isBound : Fn := fun xs s => FX12_isBound (xs.getD 0 0) (xs.getD 1 0) s
noncomputable def mdX12_isBound : MD := ([(3, 12), (0, 0)], (0, 0), yX12_isBound, cX12_isBound, (2, (some .boolean), 0, 0, []))
-- FloatparadeModel.route(II)V
noncomputable def fX12_route_59 (kb : Co) (s : St) : Res := some (0, 0, s)
noncomputable def fX12_route_36 (kb : Co) (a0 a1 a2 y0 y1 : Int) (s : St) : Res := bnd (FX12_holds y1 y0 s) fun x1 s1 => if x1 = 0 then fX12_route_59 kb s1 else if 0 ≤ (wr (10 * a1)) ∧ (wr (10 * a1)) < 20 then if 0 ≤ a1 ∧ a1 < 2 then fX12_route_59 kb (pm (pm s1 122 a0 (wr (10 * a1)) a2) 121 a0 a1 1) else none else none
noncomputable def fX12_route_35 (kb : Co) (a0 a1 a2 y0 : Int) (s : St) : Res := fX12_route_36 kb a0 a1 a2 0 y0 s
noncomputable def fX12_route_23 (kb : Co) (a0 a1 a2 y0 : Int) (s : St) : Res := bnd (FX12_isBound a0 a1 s) fun x1 s1 => if x1 = 0 then fX12_route_35 kb a0 a1 a2 y0 s1 else fX12_route_36 kb a0 a1 a2 3 y0 s1
noncomputable def fX12_route_12 (kb : Co) (a0 a1 a2 y0 : Int) (s : St) : Res := bnd (FX12_isLeague a1 s) fun x1 s1 => if x1 = 0 then fX12_route_36 kb a0 a1 a2 2 y0 s1 else fX12_route_23 kb a0 a1 a2 y0 s1
noncomputable def fX12_route_0 (kb : Co) (a0 a1 a2 : Int) (s : St) : Res := bnd (FX12_isCorner a2 s) fun x1 s1 => if x1 = 0 then fX12_route_36 kb a0 a1 a2 1 a0 s1 else fX12_route_12 kb a0 a1 a2 a0 s1
noncomputable def tX12_route_59 (kb : Co) : List Rw := []
noncomputable def tX12_route_36 (kb : Co) : List Rw := (59, [(7, 0), (7, 0), (7, 0)], [], fun xs ys s => fX12_route_59 kb s) :: tX12_route_59 kb
noncomputable def tX12_route_35 (kb : Co) : List Rw := (36, [(3, 12), (0, 0), (0, 0)], [(0, 0), (3, 12)], fun xs ys s => fX12_route_36 kb (xs.getD 0 0) (xs.getD 1 0) (xs.getD 2 0) (ys.getD 0 0) (ys.getD 1 0) s) :: tX12_route_36 kb
noncomputable def tX12_route_23 (kb : Co) : List Rw := (35, [(3, 12), (0, 0), (0, 0)], [(3, 12)], fun xs ys s => fX12_route_35 kb (xs.getD 0 0) (xs.getD 1 0) (xs.getD 2 0) (ys.getD 0 0) s) :: tX12_route_35 kb
noncomputable def tX12_route_12 (kb : Co) : List Rw := (23, [(3, 12), (0, 0), (0, 0)], [(3, 12)], fun xs ys s => fX12_route_23 kb (xs.getD 0 0) (xs.getD 1 0) (xs.getD 2 0) (ys.getD 0 0) s) :: tX12_route_23 kb
noncomputable def tX12_route_0 (kb : Co) : List Rw := (12, [(3, 12), (0, 0), (0, 0)], [(3, 12)], fun xs ys s => fX12_route_12 kb (xs.getD 0 0) (xs.getD 1 0) (xs.getD 2 0) (ys.getD 0 0) s) :: tX12_route_12 kb
noncomputable def rX12_route (kb : Co) : List Rw := (0, [(3, 12), (0, 0), (0, 0)], [], fun xs ys s => fX12_route_0 kb (xs.getD 0 0) (xs.getD 1 0) (xs.getD 2 0) s) :: tX12_route_0 kb
noncomputable def kX12_route : Nat → Co
  | 0 => nk
  | n + 1 => fam (rX12_route (kX12_route n)) nk
noncomputable def FX12_route (a0 a1 a2 : Int) (s : St) : Res := fX12_route_0 (kX12_route 0) a0 a1 a2 s
noncomputable def gX12_route : Fn := fun xs s => FX12_route (xs.getD 0 0) (xs.getD 1 0) (xs.getD 2 0) s
noncomputable def mdX12_route : MD := ([(3, 12), (0, 0), (0, 0)], (9, 0), yX12_route, cX12_route, (3, none, 2, 42, []))
-- FloatparadeModel.streetOf(II)I
noncomputable def fX12_streetOf_0 (kb : Co) (a0 a1 a2 : Int) (s : St) : Res := if 0 ≤ (wr ((wr (10 * a1)) + a2)) ∧ (wr ((wr (10 * a1)) + a2)) < 20 then if 0 ≤ (wr ((wr ((wr (10 * a1)) + a2)) + 1)) ∧ (wr ((wr ((wr (10 * a1)) + a2)) + 1)) < 20 then bnd (FX12_streetBetween a0 (gm s 122 a0 (wr ((wr (10 * a1)) + a2))) (gm s 122 a0 (wr ((wr ((wr (10 * a1)) + a2)) + 1))) s) fun x1 s1 => some (0, x1, s1) else none else none
noncomputable def tX12_streetOf_0 (kb : Co) : List Rw := []
noncomputable def rX12_streetOf (kb : Co) : List Rw := (0, [(3, 12), (0, 0), (0, 0)], [], fun xs ys s => fX12_streetOf_0 kb (xs.getD 0 0) (xs.getD 1 0) (xs.getD 2 0) s) :: tX12_streetOf_0 kb
noncomputable def kX12_streetOf : Nat → Co
  | 0 => nk
  | n + 1 => fam (rX12_streetOf (kX12_streetOf n)) nk
noncomputable def FX12_streetOf (a0 a1 a2 : Int) (s : St) : Res := fX12_streetOf_0 (kX12_streetOf 0) a0 a1 a2 s
noncomputable def gX12_streetOf : Fn := fun xs s => FX12_streetOf (xs.getD 0 0) (xs.getD 1 0) (xs.getD 2 0) s
noncomputable def mdX12_streetOf : MD := ([(3, 12), (0, 0), (0, 0)], (0, 0), yX12_streetOf, cX12_streetOf, (3, (some .int), 1, 25, []))
-- FloatparadeModel.cellOf(II)I
noncomputable def fX12_cellOf_55 (kb : Co) (y0 : Int) (s : St) : Res := some (0, y0, s)
noncomputable def fX12_cellOf_54 (kb : Co) (a3 : Int) (s : St) : Res := fX12_cellOf_55 kb a3 s
noncomputable def fX12_cellOf_32 (kb : Co) (a0 a1 a2 a3 : Int) (s : St) : Res := if 0 < a2 then (if 0 ≤ a1 ∧ a1 < 2 then if a2 = (wr ((gm s 121 a0 a1) - 1)) then fX12_cellOf_55 kb (wr (a3 - 1)) s else fX12_cellOf_54 kb a3 s else none) else fX12_cellOf_54 kb a3 s
noncomputable def fX12_cellOf_5 (kb : Co) (a0 a1 a2 a3 a4 : Int) (s : St) : Res := if a4 < a2 then (bnd (FX12_streetOf a0 a1 a4 s) fun x1 s1 => if 0 ≤ x1 ∧ x1 < 16 then kb 5 [(3, 12, a0), (0, 0, a1), (0, 0, a2), (0, 0, (wr (a3 + (gm s1 117 a0 x1)))), (0, 0, (wr (a4 + 1)))] [] s1 else none) else fX12_cellOf_32 kb a0 a1 a2 a3 s
noncomputable def fX12_cellOf_0 (kb : Co) (a0 a1 a2 : Int) (s : St) : Res := fX12_cellOf_5 kb a0 a1 a2 0 0 s
noncomputable def tX12_cellOf_55 (kb : Co) : List Rw := []
noncomputable def tX12_cellOf_54 (kb : Co) : List Rw := (55, [(7, 0), (7, 0), (7, 0), (7, 0), (7, 0)], [(0, 0)], fun xs ys s => fX12_cellOf_55 kb (ys.getD 0 0) s) :: tX12_cellOf_55 kb
noncomputable def tX12_cellOf_32 (kb : Co) : List Rw := (54, [(7, 0), (7, 0), (7, 0), (0, 0), (7, 0)], [], fun xs ys s => fX12_cellOf_54 kb (xs.getD 0 0) s) :: tX12_cellOf_54 kb
noncomputable def tX12_cellOf_5 (kb : Co) : List Rw := (32, [(3, 12), (0, 0), (0, 0), (0, 0), (7, 0)], [], fun xs ys s => fX12_cellOf_32 kb (xs.getD 0 0) (xs.getD 1 0) (xs.getD 2 0) (xs.getD 3 0) s) :: tX12_cellOf_32 kb
noncomputable def tX12_cellOf_0 (kb : Co) : List Rw := (5, [(3, 12), (0, 0), (0, 0), (0, 0), (0, 0)], [], fun xs ys s => fX12_cellOf_5 kb (xs.getD 0 0) (xs.getD 1 0) (xs.getD 2 0) (xs.getD 3 0) (xs.getD 4 0) s) :: tX12_cellOf_5 kb
noncomputable def rX12_cellOf (kb : Co) : List Rw := (0, [(3, 12), (0, 0), (0, 0), (7, 0), (7, 0)], [], fun xs ys s => fX12_cellOf_0 kb (xs.getD 0 0) (xs.getD 1 0) (xs.getD 2 0) s) :: tX12_cellOf_0 kb
noncomputable def kX12_cellOf : Nat → Co
  | 0 => nk
  | n + 1 => fam (rX12_cellOf (kX12_cellOf n)) nk
noncomputable def FX12_cellOf (a0 a1 a2 : Int) (s : St) : Res := fX12_cellOf_0 (kX12_cellOf 9999) a0 a1 a2 s
noncomputable def gX12_cellOf : Fn := fun xs s => FX12_cellOf (xs.getD 0 0) (xs.getD 1 0) (xs.getD 2 0) s
noncomputable def mdX12_cellOf : MD := ([(3, 12), (0, 0), (0, 0)], (0, 0), yX12_cellOf, cX12_cellOf, (5, (some .int), 2, 47, []))
-- FloatparadeModel.cells(I)I
noncomputable def fX12_cells_36 (kb : Co) (a2 : Int) (s : St) : Res := some (0, a2, s)
noncomputable def fX12_cells_4 (kb : Co) (a0 a1 a2 a3 : Int) (s : St) : Res := if 0 ≤ a1 ∧ a1 < 2 then if a3 < (wr ((gm s 121 a0 a1) - 1)) then (bnd (FX12_streetOf a0 a1 a3 s) fun x1 s1 => if 0 ≤ x1 ∧ x1 < 16 then kb 4 [(3, 12, a0), (0, 0, a1), (0, 0, (wr (a2 + (gm s1 117 a0 x1)))), (0, 0, (wr (a3 + 1)))] [] s1 else none) else fX12_cells_36 kb a2 s else none
noncomputable def fX12_cells_0 (kb : Co) (a0 a1 : Int) (s : St) : Res := fX12_cells_4 kb a0 a1 0 0 s
noncomputable def tX12_cells_36 (kb : Co) : List Rw := []
noncomputable def tX12_cells_4 (kb : Co) : List Rw := (36, [(7, 0), (7, 0), (0, 0), (7, 0)], [], fun xs ys s => fX12_cells_36 kb (xs.getD 0 0) s) :: tX12_cells_36 kb
noncomputable def tX12_cells_0 (kb : Co) : List Rw := (4, [(3, 12), (0, 0), (0, 0), (0, 0)], [], fun xs ys s => fX12_cells_4 kb (xs.getD 0 0) (xs.getD 1 0) (xs.getD 2 0) (xs.getD 3 0) s) :: tX12_cells_4 kb
noncomputable def rX12_cells (kb : Co) : List Rw := (0, [(3, 12), (0, 0), (7, 0), (7, 0)], [], fun xs ys s => fX12_cells_0 kb (xs.getD 0 0) (xs.getD 1 0) s) :: tX12_cells_0 kb
noncomputable def kX12_cells : Nat → Co
  | 0 => nk
  | n + 1 => fam (rX12_cells (kX12_cells n)) nk
noncomputable def FX12_cells (a0 a1 : Int) (s : St) : Res := fX12_cells_0 (kX12_cells 9999) a0 a1 s
noncomputable def gX12_cells : Fn := fun xs s => FX12_cells (xs.getD 0 0) (xs.getD 1 0) s
noncomputable def mdX12_cells : MD := ([(3, 12), (0, 0)], (0, 0), yX12_cells, cX12_cells, (4, (some .int), 2, 47, []))
-- FloatparadeModel.placeOf(II)I
noncomputable def fX12_placeOf_45 (kb : Co) (a3 : Int) (s : St) : Res := some (0, a3, s)
noncomputable def fX12_placeOf_38 (kb : Co) (a0 a1 a2 a4 y0 : Int) (s : St) : Res := kb 5 [(3, 12, a0), (0, 0, a1), (0, 0, a2), (0, 0, y0), (0, 0, (wr (a4 + 1)))] [] s
noncomputable def fX12_placeOf_37 (kb : Co) (a0 a1 a2 a3 a4 : Int) (s : St) : Res := fX12_placeOf_38 kb a0 a1 a2 a4 a3 s
noncomputable def fX12_placeOf_5 (kb : Co) (a0 a1 a2 a3 a4 : Int) (s : St) : Res := if 0 ≤ a1 ∧ a1 < 2 then if a4 < (gm s 121 a0 a1) then (if 0 ≤ (wr ((wr (10 * a1)) + a4)) ∧ (wr ((wr (10 * a1)) + a4)) < 20 then if (gm s 122 a0 (wr ((wr (10 * a1)) + a4))) = a2 then fX12_placeOf_38 kb a0 a1 a2 a4 a4 s else fX12_placeOf_37 kb a0 a1 a2 a3 a4 s else none) else fX12_placeOf_45 kb a3 s else none
noncomputable def fX12_placeOf_0 (kb : Co) (a0 a1 a2 : Int) (s : St) : Res := fX12_placeOf_5 kb a0 a1 a2 (-1) 0 s
noncomputable def tX12_placeOf_45 (kb : Co) : List Rw := []
noncomputable def tX12_placeOf_38 (kb : Co) : List Rw := (45, [(7, 0), (7, 0), (7, 0), (0, 0), (7, 0)], [], fun xs ys s => fX12_placeOf_45 kb (xs.getD 0 0) s) :: tX12_placeOf_45 kb
noncomputable def tX12_placeOf_37 (kb : Co) : List Rw := (38, [(3, 12), (0, 0), (0, 0), (7, 0), (0, 0)], [(0, 0)], fun xs ys s => fX12_placeOf_38 kb (xs.getD 0 0) (xs.getD 1 0) (xs.getD 2 0) (xs.getD 3 0) (ys.getD 0 0) s) :: tX12_placeOf_38 kb
noncomputable def tX12_placeOf_5 (kb : Co) : List Rw := (37, [(3, 12), (0, 0), (0, 0), (0, 0), (0, 0)], [], fun xs ys s => fX12_placeOf_37 kb (xs.getD 0 0) (xs.getD 1 0) (xs.getD 2 0) (xs.getD 3 0) (xs.getD 4 0) s) :: tX12_placeOf_37 kb
noncomputable def tX12_placeOf_0 (kb : Co) : List Rw := (5, [(3, 12), (0, 0), (0, 0), (0, 0), (0, 0)], [], fun xs ys s => fX12_placeOf_5 kb (xs.getD 0 0) (xs.getD 1 0) (xs.getD 2 0) (xs.getD 3 0) (xs.getD 4 0) s) :: tX12_placeOf_5 kb
noncomputable def rX12_placeOf (kb : Co) : List Rw := (0, [(3, 12), (0, 0), (0, 0), (7, 0), (7, 0)], [], fun xs ys s => fX12_placeOf_0 kb (xs.getD 0 0) (xs.getD 1 0) (xs.getD 2 0) s) :: tX12_placeOf_0 kb
noncomputable def kX12_placeOf : Nat → Co
  | 0 => nk
  | n + 1 => fam (rX12_placeOf (kX12_placeOf n)) nk
noncomputable def FX12_placeOf (a0 a1 a2 : Int) (s : St) : Res := fX12_placeOf_0 (kX12_placeOf 9999) a0 a1 a2 s
noncomputable def gX12_placeOf : Fn := fun xs s => FX12_placeOf (xs.getD 0 0) (xs.getD 1 0) (xs.getD 2 0) s
noncomputable def mdX12_placeOf : MD := ([(3, 12), (0, 0), (0, 0)], (0, 0), yX12_placeOf, cX12_placeOf, (5, (some .int), 0, 0, []))
-- FloatparadeModel.canGoOn(II)Z
noncomputable def fX12_canGoOn_62 (kb : Co) (y0 : Int) (s : St) : Res := if (y0 : Int) = 0 ∨ (y0 : Int) = 1 then some (0, y0, s) else none
noncomputable def fX12_canGoOn_61 (kb : Co) (s : St) : Res := fX12_canGoOn_62 kb 0 s
noncomputable def fX12_canGoOn_0 (kb : Co) (a0 a1 a2 : Int) (s : St) : Res := if 0 ≤ a1 ∧ a1 < 2 then bnd (FX12_isBound a0 a1 s) fun x1 s1 => if x1 = 0 then (bnd (FX12_in (gm s 121 a0 a1) 1 9 s1) fun x2 s2 => if x2 = 0 then fX12_canGoOn_61 kb s2 else bnd (FX12_placeOf a0 a1 a2 s2) fun x3 s3 => if x3 = (-1) then (if 0 ≤ (wr ((wr ((wr (10 * a1)) + (gm s 121 a0 a1))) - 1)) ∧ (wr ((wr ((wr (10 * a1)) + (gm s 121 a0 a1))) - 1)) < 20 then bnd (FX12_streetBetween a0 (gm s3 122 a0 (wr ((wr ((wr (10 * a1)) + (gm s 121 a0 a1))) - 1))) a2 s3) fun x4 s4 => if x4 = (-1) then fX12_canGoOn_61 kb s4 else fX12_canGoOn_62 kb 1 s4 else none) else fX12_canGoOn_61 kb s3) else fX12_canGoOn_61 kb s1 else none
noncomputable def tX12_canGoOn_62 (kb : Co) : List Rw := []
noncomputable def tX12_canGoOn_61 (kb : Co) : List Rw := (62, [(7, 0), (7, 0), (7, 0), (7, 0)], [(0, 0)], fun xs ys s => fX12_canGoOn_62 kb (ys.getD 0 0) s) :: tX12_canGoOn_62 kb
noncomputable def tX12_canGoOn_0 (kb : Co) : List Rw := (61, [(7, 0), (7, 0), (7, 0), (7, 0)], [], fun xs ys s => fX12_canGoOn_61 kb s) :: tX12_canGoOn_61 kb
noncomputable def rX12_canGoOn (kb : Co) : List Rw := (0, [(3, 12), (0, 0), (0, 0), (7, 0)], [], fun xs ys s => fX12_canGoOn_0 kb (xs.getD 0 0) (xs.getD 1 0) (xs.getD 2 0) s) :: tX12_canGoOn_0 kb
noncomputable def kX12_canGoOn : Nat → Co
  | 0 => nk
  | n + 1 => fam (rX12_canGoOn (kX12_canGoOn n)) nk
noncomputable def FX12_canGoOn (a0 a1 a2 : Int) (s : St) : Res := fX12_canGoOn_0 (kX12_canGoOn 0) a0 a1 a2 s
noncomputable def gX12_canGoOn : Fn := fun xs s => FX12_canGoOn (xs.getD 0 0) (xs.getD 1 0) (xs.getD 2 0) s
noncomputable def mdX12_canGoOn : MD := ([(3, 12), (0, 0), (0, 0)], (0, 0), yX12_canGoOn, cX12_canGoOn, (4, (some .boolean), 1, 25, []))
-- FloatparadeModel.goOn(II)I
noncomputable def fX12_goOn_45 (kb : Co) (a0 a1 a2 : Int) (s : St) : Res := if 0 ≤ a1 ∧ a1 < 2 then if 0 ≤ (wr ((wr (10 * a1)) + (gm s 121 a0 a1))) ∧ (wr ((wr (10 * a1)) + (gm s 121 a0 a1))) < 20 then if 0 ≤ a1 ∧ a1 < 2 then if 0 ≤ a1 ∧ a1 < 2 then bnd (FX12_cells a0 a1 (pm (pm s 122 a0 (wr ((wr (10 * a1)) + (gm s 121 a0 a1))) a2) 121 a0 a1 (wr ((gm (pm s 122 a0 (wr ((wr (10 * a1)) + (gm s 121 a0 a1))) a2) 121 a0 a1) + 1)))) fun x1 s1 => some (0, x1, s1) else none else none else none else none
noncomputable def fX12_goOn_37 (kb : Co) (a0 a1 a2 y0 y1 : Int) (s : St) : Res := bnd (FX12_holds y1 y0 s) fun x1 s1 => if x1 = 0 then some (0, 0, s1) else fX12_goOn_45 kb a0 a1 a2 s1
noncomputable def fX12_goOn_36 (kb : Co) (a0 a1 a2 y0 : Int) (s : St) : Res := fX12_goOn_37 kb a0 a1 a2 3 y0 s
noncomputable def fX12_goOn_23 (kb : Co) (a0 a1 a2 y0 : Int) (s : St) : Res := bnd (FX12_canGoOn a0 a1 a2 s) fun x1 s1 => if x1 = 0 then fX12_goOn_36 kb a0 a1 a2 y0 s1 else fX12_goOn_37 kb a0 a1 a2 0 y0 s1
noncomputable def fX12_goOn_12 (kb : Co) (a0 a1 a2 y0 : Int) (s : St) : Res := bnd (FX12_isLeague a1 s) fun x1 s1 => if x1 = 0 then fX12_goOn_37 kb a0 a1 a2 2 y0 s1 else fX12_goOn_23 kb a0 a1 a2 y0 s1
noncomputable def fX12_goOn_0 (kb : Co) (a0 a1 a2 : Int) (s : St) : Res := bnd (FX12_isCorner a2 s) fun x1 s1 => if x1 = 0 then fX12_goOn_37 kb a0 a1 a2 1 a0 s1 else fX12_goOn_12 kb a0 a1 a2 a0 s1
noncomputable def tX12_goOn_45 (kb : Co) : List Rw := []
noncomputable def tX12_goOn_37 (kb : Co) : List Rw := (45, [(3, 12), (0, 0), (0, 0)], [], fun xs ys s => fX12_goOn_45 kb (xs.getD 0 0) (xs.getD 1 0) (xs.getD 2 0) s) :: tX12_goOn_45 kb
noncomputable def tX12_goOn_36 (kb : Co) : List Rw := (37, [(3, 12), (0, 0), (0, 0)], [(0, 0), (3, 12)], fun xs ys s => fX12_goOn_37 kb (xs.getD 0 0) (xs.getD 1 0) (xs.getD 2 0) (ys.getD 0 0) (ys.getD 1 0) s) :: tX12_goOn_37 kb
noncomputable def tX12_goOn_23 (kb : Co) : List Rw := (36, [(3, 12), (0, 0), (0, 0)], [(3, 12)], fun xs ys s => fX12_goOn_36 kb (xs.getD 0 0) (xs.getD 1 0) (xs.getD 2 0) (ys.getD 0 0) s) :: tX12_goOn_36 kb
noncomputable def tX12_goOn_12 (kb : Co) : List Rw := (23, [(3, 12), (0, 0), (0, 0)], [(3, 12)], fun xs ys s => fX12_goOn_23 kb (xs.getD 0 0) (xs.getD 1 0) (xs.getD 2 0) (ys.getD 0 0) s) :: tX12_goOn_23 kb
noncomputable def tX12_goOn_0 (kb : Co) : List Rw := (12, [(3, 12), (0, 0), (0, 0)], [(3, 12)], fun xs ys s => fX12_goOn_12 kb (xs.getD 0 0) (xs.getD 1 0) (xs.getD 2 0) (ys.getD 0 0) s) :: tX12_goOn_12 kb
noncomputable def rX12_goOn (kb : Co) : List Rw := (0, [(3, 12), (0, 0), (0, 0)], [], fun xs ys s => fX12_goOn_0 kb (xs.getD 0 0) (xs.getD 1 0) (xs.getD 2 0) s) :: tX12_goOn_0 kb
noncomputable def kX12_goOn : Nat → Co
  | 0 => nk
  | n + 1 => fam (rX12_goOn (kX12_goOn n)) nk
noncomputable def FX12_goOn (a0 a1 a2 : Int) (s : St) : Res := fX12_goOn_0 (kX12_goOn 0) a0 a1 a2 s
noncomputable def gX12_goOn : Fn := fun xs s => FX12_goOn (xs.getD 0 0) (xs.getD 1 0) (xs.getD 2 0) s
noncomputable def mdX12_goOn : MD := ([(3, 12), (0, 0), (0, 0)], (0, 0), yX12_goOn, cX12_goOn, (3, (some .int), 3, 70, []))
-- FloatparadeModel.jury(IZ)Z
noncomputable def fX12_jury_21 (kb : Co) (a0 a1 a2 : Int) (s : St) : Res := if 0 ≤ a1 ∧ a1 < 12 then if (0 ≤ a1 ∧ a1 < 12) ∧ ((a2 : Int) = 0 ∨ (a2 : Int) = 1) then if ((gm s 123 a0 a1) : Int) = 0 ∨ ((gm s 123 a0 a1) : Int) = 1 then some (0, (gm s 123 a0 a1), (pm s 123 a0 a1 a2)) else none else none else none
noncomputable def fX12_jury_13 (kb : Co) (a0 a1 a2 y0 y1 : Int) (s : St) : Res := bnd (FX12_holds y1 y0 s) fun x1 s1 => if x1 = 0 then (if (0 : Int) = 0 ∨ (0 : Int) = 1 then some (0, 0, s1) else none) else fX12_jury_21 kb a0 a1 a2 s1
noncomputable def fX12_jury_12 (kb : Co) (a0 a1 a2 y0 : Int) (s : St) : Res := fX12_jury_13 kb a0 a1 a2 1 y0 s
noncomputable def fX12_jury_0 (kb : Co) (a0 a1 a2 : Int) (s : St) : Res := bnd (FX12_isCorner a1 s) fun x1 s1 => if x1 = 0 then fX12_jury_12 kb a0 a1 a2 a0 s1 else fX12_jury_13 kb a0 a1 a2 0 a0 s1
noncomputable def tX12_jury_21 (kb : Co) : List Rw := []
noncomputable def tX12_jury_13 (kb : Co) : List Rw := (21, [(3, 12), (0, 0), (0, 0), (7, 0)], [], fun xs ys s => fX12_jury_21 kb (xs.getD 0 0) (xs.getD 1 0) (xs.getD 2 0) s) :: tX12_jury_21 kb
noncomputable def tX12_jury_12 (kb : Co) : List Rw := (13, [(3, 12), (0, 0), (0, 0), (7, 0)], [(0, 0), (3, 12)], fun xs ys s => fX12_jury_13 kb (xs.getD 0 0) (xs.getD 1 0) (xs.getD 2 0) (ys.getD 0 0) (ys.getD 1 0) s) :: tX12_jury_13 kb
noncomputable def tX12_jury_0 (kb : Co) : List Rw := (12, [(3, 12), (0, 0), (0, 0), (7, 0)], [(3, 12)], fun xs ys s => fX12_jury_12 kb (xs.getD 0 0) (xs.getD 1 0) (xs.getD 2 0) (ys.getD 0 0) s) :: tX12_jury_12 kb
noncomputable def rX12_jury (kb : Co) : List Rw := (0, [(3, 12), (0, 0), (0, 0), (7, 0)], [], fun xs ys s => fX12_jury_0 kb (xs.getD 0 0) (xs.getD 1 0) (xs.getD 2 0) s) :: tX12_jury_0 kb
noncomputable def kX12_jury : Nat → Co
  | 0 => nk
  | n + 1 => fam (rX12_jury (kX12_jury n)) nk
noncomputable def FX12_jury (a0 a1 a2 : Int) (s : St) : Res := fX12_jury_0 (kX12_jury 0) a0 a1 a2 s
noncomputable def gX12_jury : Fn := fun xs s => FX12_jury (xs.getD 0 0) (xs.getD 1 0) (xs.getD 2 0) s
noncomputable def mdX12_jury : MD := ([(3, 12), (0, 0), (0, 0)], (0, 0), yX12_jury, cX12_jury, (4, (some .boolean), 2, 42, []))
-- FloatparadeModel.at(II)I
noncomputable def fX12_at_0 (kb : Co) (a0 a1 : Int) (s : St) : Res := some (0, (wr ((wr (12 * a0)) + (wr (4 * a1)))), s)
noncomputable def tX12_at_0 (kb : Co) : List Rw := []
noncomputable def rX12_at (kb : Co) : List Rw := (0, [(0, 0), (0, 0)], [], fun xs ys s => fX12_at_0 kb (xs.getD 0 0) (xs.getD 1 0) s) :: tX12_at_0 kb
noncomputable def kX12_at : Nat → Co
  | 0 => nk
  | n + 1 => fam (rX12_at (kX12_at n)) nk
noncomputable def FX12_at (a0 a1 : Int) (s : St) : Res := fX12_at_0 (kX12_at 0) a0 a1 s
noncomputable def gX12_at : Fn := fun xs s => FX12_at (xs.getD 0 0) (xs.getD 1 0) s
noncomputable def mdX12_at : MD := ([(0, 0), (0, 0)], (0, 0), yX12_at, cX12_at, (2, (some .int), 0, 0, []))
-- FloatparadeModel.isFloat(II)Z
noncomputable def fX12_isFloat_29 (kb : Co) (y0 : Int) (s : St) : Res := if (y0 : Int) = 0 ∨ (y0 : Int) = 1 then some (0, y0, s) else none
noncomputable def fX12_isFloat_28 (kb : Co) (s : St) : Res := fX12_isFloat_29 kb 0 s
noncomputable def fX12_isFloat_0 (kb : Co) (a0 a1 a2 : Int) (s : St) : Res := bnd (FX12_isSociety a0 a1 s) fun x1 s1 => if x1 = 0 then fX12_isFloat_28 kb s1 else if 0 ≤ a1 ∧ a1 < 10 then bnd (FX12_in a2 0 (wr ((gm s1 112 a0 a1) - 1)) s1) fun x2 s2 => if x2 = 0 then fX12_isFloat_28 kb s2 else fX12_isFloat_29 kb 1 s2 else none
noncomputable def tX12_isFloat_29 (kb : Co) : List Rw := []
noncomputable def tX12_isFloat_28 (kb : Co) : List Rw := (29, [(7, 0), (7, 0), (7, 0)], [(0, 0)], fun xs ys s => fX12_isFloat_29 kb (ys.getD 0 0) s) :: tX12_isFloat_29 kb
noncomputable def tX12_isFloat_0 (kb : Co) : List Rw := (28, [(7, 0), (7, 0), (7, 0)], [], fun xs ys s => fX12_isFloat_28 kb s) :: tX12_isFloat_28 kb
noncomputable def rX12_isFloat (kb : Co) : List Rw := (0, [(3, 12), (0, 0), (0, 0)], [], fun xs ys s => fX12_isFloat_0 kb (xs.getD 0 0) (xs.getD 1 0) (xs.getD 2 0) s) :: tX12_isFloat_0 kb
noncomputable def kX12_isFloat : Nat → Co
  | 0 => nk
  | n + 1 => fam (rX12_isFloat (kX12_isFloat n)) nk
noncomputable def FX12_isFloat (a0 a1 a2 : Int) (s : St) : Res := fX12_isFloat_0 (kX12_isFloat 0) a0 a1 a2 s
noncomputable def gX12_isFloat : Fn := fun xs s => FX12_isFloat (xs.getD 0 0) (xs.getD 1 0) (xs.getD 2 0) s
noncomputable def mdX12_isFloat : MD := ([(3, 12), (0, 0), (0, 0)], (0, 0), yX12_isFloat, cX12_isFloat, (3, (some .boolean), 2, 43, []))
-- FloatparadeModel.build(IIIII)I
noncomputable def fX12_build_107 (kb : Co) (a0 a1 a2 a3 a4 a5 : Int) (s : St) : Res := if 0 ≤ a1 ∧ a1 < 10 then bnd (FX12_at a1 (gm s 112 a0 a1) s) fun x1 s1 => if 0 ≤ x1 ∧ x1 < 120 then if 0 ≤ (wr (x1 + 1)) ∧ (wr (x1 + 1)) < 120 then if 0 ≤ (wr (x1 + 2)) ∧ (wr (x1 + 2)) < 120 then if 0 ≤ (wr (x1 + 3)) ∧ (wr (x1 + 3)) < 120 then if 0 ≤ a1 ∧ a1 < 10 then if 0 ≤ a1 ∧ a1 < 10 then if 0 ≤ a1 ∧ a1 < 10 then some (0, (wr ((gm (pm (pm (pm (pm (pm s1 113 a0 x1 a2) 113 a0 (wr (x1 + 1)) a3) 113 a0 (wr (x1 + 2)) a4) 113 a0 (wr (x1 + 3)) a5) 112 a0 a1 (wr ((gm (pm (pm (pm (pm s1 113 a0 x1 a2) 113 a0 (wr (x1 + 1)) a3) 113 a0 (wr (x1 + 2)) a4) 113 a0 (wr (x1 + 3)) a5) 112 a0 a1) + 1))) 112 a0 a1) - 1)), (pm (pm (pm (pm (pm s1 113 a0 x1 a2) 113 a0 (wr (x1 + 1)) a3) 113 a0 (wr (x1 + 2)) a4) 113 a0 (wr (x1 + 3)) a5) 112 a0 a1 (wr ((gm (pm (pm (pm (pm s1 113 a0 x1 a2) 113 a0 (wr (x1 + 1)) a3) 113 a0 (wr (x1 + 2)) a4) 113 a0 (wr (x1 + 3)) a5) 112 a0 a1) + 1)))) else none else none else none else none else none else none else none else none
noncomputable def fX12_build_99 (kb : Co) (a0 a1 a2 a3 a4 a5 y0 y1 : Int) (s : St) : Res := bnd (FX12_holds y1 y0 s) fun x1 s1 => if x1 = 0 then some (0, 0, s1) else fX12_build_107 kb a0 a1 a2 a3 a4 a5 s1
noncomputable def fX12_build_98 (kb : Co) (a0 a1 a2 a3 a4 a5 y0 : Int) (s : St) : Res := fX12_build_99 kb a0 a1 a2 a3 a4 a5 0 y0 s
noncomputable def fX12_build_94 (kb : Co) (a0 a1 a2 a3 a4 a5 y0 : Int) (s : St) : Res := fX12_build_99 kb a0 a1 a2 a3 a4 a5 3 y0 s
noncomputable def fX12_build_75 (kb : Co) (a0 a1 a2 a3 a4 a5 y0 : Int) (s : St) : Res := if 0 ≤ a1 ∧ a1 < 10 then if (gm s 112 a0 a1) = 3 then fX12_build_94 kb a0 a1 a2 a3 a4 a5 y0 s else if 0 ≤ a1 ∧ a1 < 10 then if (gm s 124 a0 a1) = 0 then fX12_build_98 kb a0 a1 a2 a3 a4 a5 y0 s else fX12_build_94 kb a0 a1 a2 a3 a4 a5 y0 s else none else none
noncomputable def fX12_build_66 (kb : Co) (a0 a1 a2 a3 a4 a5 a7 y0 : Int) (s : St) : Res := if a7 = 0 then fX12_build_99 kb a0 a1 a2 a3 a4 a5 2 y0 s else fX12_build_75 kb a0 a1 a2 a3 a4 a5 y0 s
noncomputable def fX12_build_54 (kb : Co) (a0 a1 a2 a3 a4 a5 a6 y0 : Int) (s : St) : Res := if a6 = 0 then fX12_build_99 kb a0 a1 a2 a3 a4 a5 1 a0 s else fX12_build_66 kb a0 a1 a2 a3 a4 a5 y0 a0 s
noncomputable def fX12_build_53 (kb : Co) (a0 a1 a2 a3 a4 a5 a6 : Int) (s : St) : Res := fX12_build_54 kb a0 a1 a2 a3 a4 a5 a6 0 s
noncomputable def fX12_build_0 (kb : Co) (a0 a1 a2 a3 a4 a5 : Int) (s : St) : Res := bnd (FX12_isSociety a0 a1 s) fun x1 s1 => bnd (FX12_in a2 1 20 s1) fun x2 s2 => if x2 = 0 then fX12_build_53 kb a0 a1 a2 a3 a4 a5 x1 s2 else bnd (FX12_in a3 1 20 s2) fun x3 s3 => if x3 = 0 then fX12_build_53 kb a0 a1 a2 a3 a4 a5 x1 s3 else bnd (FX12_in a4 1 99 s3) fun x4 s4 => if x4 = 0 then fX12_build_53 kb a0 a1 a2 a3 a4 a5 x1 s4 else bnd (FX12_in a5 1 20 s4) fun x5 s5 => if x5 = 0 then fX12_build_53 kb a0 a1 a2 a3 a4 a5 x1 s5 else fX12_build_54 kb a0 a1 a2 a3 a4 a5 x1 1 s5
noncomputable def tX12_build_107 (kb : Co) : List Rw := []
noncomputable def tX12_build_99 (kb : Co) : List Rw := (107, [(3, 12), (0, 0), (0, 0), (0, 0), (0, 0), (0, 0), (7, 0), (7, 0), (7, 0)], [], fun xs ys s => fX12_build_107 kb (xs.getD 0 0) (xs.getD 1 0) (xs.getD 2 0) (xs.getD 3 0) (xs.getD 4 0) (xs.getD 5 0) s) :: tX12_build_107 kb
noncomputable def tX12_build_98 (kb : Co) : List Rw := (99, [(3, 12), (0, 0), (0, 0), (0, 0), (0, 0), (0, 0), (7, 0), (7, 0), (7, 0)], [(0, 0), (3, 12)], fun xs ys s => fX12_build_99 kb (xs.getD 0 0) (xs.getD 1 0) (xs.getD 2 0) (xs.getD 3 0) (xs.getD 4 0) (xs.getD 5 0) (ys.getD 0 0) (ys.getD 1 0) s) :: tX12_build_99 kb
noncomputable def tX12_build_94 (kb : Co) : List Rw := (98, [(3, 12), (0, 0), (0, 0), (0, 0), (0, 0), (0, 0), (7, 0), (7, 0), (7, 0)], [(3, 12)], fun xs ys s => fX12_build_98 kb (xs.getD 0 0) (xs.getD 1 0) (xs.getD 2 0) (xs.getD 3 0) (xs.getD 4 0) (xs.getD 5 0) (ys.getD 0 0) s) :: tX12_build_98 kb
noncomputable def tX12_build_75 (kb : Co) : List Rw := (94, [(3, 12), (0, 0), (0, 0), (0, 0), (0, 0), (0, 0), (7, 0), (7, 0), (7, 0)], [(3, 12)], fun xs ys s => fX12_build_94 kb (xs.getD 0 0) (xs.getD 1 0) (xs.getD 2 0) (xs.getD 3 0) (xs.getD 4 0) (xs.getD 5 0) (ys.getD 0 0) s) :: tX12_build_94 kb
noncomputable def tX12_build_66 (kb : Co) : List Rw := (75, [(3, 12), (0, 0), (0, 0), (0, 0), (0, 0), (0, 0), (7, 0), (7, 0), (7, 0)], [(3, 12)], fun xs ys s => fX12_build_75 kb (xs.getD 0 0) (xs.getD 1 0) (xs.getD 2 0) (xs.getD 3 0) (xs.getD 4 0) (xs.getD 5 0) (ys.getD 0 0) s) :: tX12_build_75 kb
noncomputable def tX12_build_54 (kb : Co) : List Rw := (66, [(3, 12), (0, 0), (0, 0), (0, 0), (0, 0), (0, 0), (7, 0), (0, 0), (7, 0)], [(3, 12)], fun xs ys s => fX12_build_66 kb (xs.getD 0 0) (xs.getD 1 0) (xs.getD 2 0) (xs.getD 3 0) (xs.getD 4 0) (xs.getD 5 0) (xs.getD 6 0) (ys.getD 0 0) s) :: tX12_build_66 kb
noncomputable def tX12_build_53 (kb : Co) : List Rw := (54, [(3, 12), (0, 0), (0, 0), (0, 0), (0, 0), (0, 0), (0, 0), (7, 0), (7, 0)], [(0, 0)], fun xs ys s => fX12_build_54 kb (xs.getD 0 0) (xs.getD 1 0) (xs.getD 2 0) (xs.getD 3 0) (xs.getD 4 0) (xs.getD 5 0) (xs.getD 6 0) (ys.getD 0 0) s) :: tX12_build_54 kb
noncomputable def tX12_build_0 (kb : Co) : List Rw := (53, [(3, 12), (0, 0), (0, 0), (0, 0), (0, 0), (0, 0), (0, 0), (7, 0), (7, 0)], [], fun xs ys s => fX12_build_53 kb (xs.getD 0 0) (xs.getD 1 0) (xs.getD 2 0) (xs.getD 3 0) (xs.getD 4 0) (xs.getD 5 0) (xs.getD 6 0) s) :: tX12_build_53 kb
noncomputable def rX12_build (kb : Co) : List Rw := (0, [(3, 12), (0, 0), (0, 0), (0, 0), (0, 0), (0, 0), (7, 0), (7, 0), (7, 0)], [], fun xs ys s => fX12_build_0 kb (xs.getD 0 0) (xs.getD 1 0) (xs.getD 2 0) (xs.getD 3 0) (xs.getD 4 0) (xs.getD 5 0) s) :: tX12_build_0 kb
noncomputable def kX12_build : Nat → Co
  | 0 => nk
  | n + 1 => fam (rX12_build (kX12_build n)) nk
noncomputable def FX12_build (a0 a1 a2 a3 a4 a5 : Int) (s : St) : Res := fX12_build_0 (kX12_build 0) a0 a1 a2 a3 a4 a5 s
noncomputable def gX12_build : Fn := fun xs s => FX12_build (xs.getD 0 0) (xs.getD 1 0) (xs.getD 2 0) (xs.getD 3 0) (xs.getD 4 0) (xs.getD 5 0) s
noncomputable def mdX12_build : MD := ([(3, 12), (0, 0), (0, 0), (0, 0), (0, 0), (0, 0)], (0, 0), yX12_build, cX12_build, (9, (some .int), 2, 43, []))
-- FloatparadeModel.cut(IIIIII)I
noncomputable def fX12_cut_141 (kb : Co) (a0 a3 a4 a5 a6 a8 : Int) (s : St) : Res := if 0 ≤ a8 ∧ a8 < 120 then if 0 ≤ (wr (a8 + 1)) ∧ (wr (a8 + 1)) < 120 then if 0 ≤ (wr (a8 + 2)) ∧ (wr (a8 + 2)) < 120 then if 0 ≤ (wr (a8 + 3)) ∧ (wr (a8 + 3)) < 120 then if 0 ≤ a8 ∧ a8 < 120 then if 0 ≤ (wr (a8 + 1)) ∧ (wr (a8 + 1)) < 120 then if 0 ≤ (wr (a8 + 2)) ∧ (wr (a8 + 2)) < 120 then if 0 ≤ (wr (a8 + 3)) ∧ (wr (a8 + 3)) < 120 then some (0, (wr ((wr ((wr ((wr ((wr ((wr ((wr ((gm s 113 a0 a8) + (gm s 113 a0 (wr (a8 + 1))))) + (gm s 113 a0 (wr (a8 + 2))))) + (gm s 113 a0 (wr (a8 + 3))))) - a3)) - a4)) - a5)) - a6)), (pm (pm (pm (pm s 113 a0 a8 a3) 113 a0 (wr (a8 + 1)) a4) 113 a0 (wr (a8 + 2)) a5) 113 a0 (wr (a8 + 3)) a6)) else none else none else none else none else none else none else none else none
noncomputable def fX12_cut_133 (kb : Co) (a0 a3 a4 a5 a6 a8 y0 y1 : Int) (s : St) : Res := bnd (FX12_holds y1 y0 s) fun x1 s1 => if x1 = 0 then some (0, 0, s1) else fX12_cut_141 kb a0 a3 a4 a5 a6 a8 s1
noncomputable def fX12_cut_132 (kb : Co) (a0 a3 a4 a5 a6 a8 y0 : Int) (s : St) : Res := fX12_cut_133 kb a0 a3 a4 a5 a6 a8 0 y0 s
noncomputable def fX12_cut_119 (kb : Co) (a0 a1 a3 a4 a5 a6 a8 y0 : Int) (s : St) : Res := if 0 ≤ a1 ∧ a1 < 10 then if (gm s 124 a0 a1) = 0 then fX12_cut_132 kb a0 a3 a4 a5 a6 a8 y0 s else fX12_cut_133 kb a0 a3 a4 a5 a6 a8 3 y0 s else none
noncomputable def fX12_cut_110 (kb : Co) (a0 a1 a3 a4 a5 a6 a8 a9 y0 : Int) (s : St) : Res := if a9 = 0 then fX12_cut_133 kb a0 a3 a4 a5 a6 a8 2 y0 s else fX12_cut_119 kb a0 a1 a3 a4 a5 a6 a8 y0 s
noncomputable def fX12_cut_98 (kb : Co) (a0 a1 a3 a4 a5 a6 a7 a8 y0 : Int) (s : St) : Res := if a7 = 0 then fX12_cut_133 kb a0 a3 a4 a5 a6 a8 1 a0 s else fX12_cut_110 kb a0 a1 a3 a4 a5 a6 a8 y0 a0 s
noncomputable def fX12_cut_97 (kb : Co) (a0 a1 a3 a4 a5 a6 a7 a8 : Int) (s : St) : Res := fX12_cut_98 kb a0 a1 a3 a4 a5 a6 a7 a8 0 s
noncomputable def fX12_cut_22 (kb : Co) (a0 a1 a3 a4 a5 a6 a7 y0 : Int) (s : St) : Res := if 0 ≤ y0 ∧ y0 < 120 then bnd (FX12_in a3 1 (gm s 113 a0 y0) s) fun x1 s1 => if x1 = 0 then fX12_cut_97 kb a0 a1 a3 a4 a5 a6 a7 y0 s1 else if 0 ≤ (wr (y0 + 1)) ∧ (wr (y0 + 1)) < 120 then bnd (FX12_in a4 1 (gm s1 113 a0 (wr (y0 + 1))) s1) fun x2 s2 => if x2 = 0 then fX12_cut_97 kb a0 a1 a3 a4 a5 a6 a7 y0 s2 else if 0 ≤ (wr (y0 + 2)) ∧ (wr (y0 + 2)) < 120 then bnd (FX12_in a5 1 (gm s2 113 a0 (wr (y0 + 2))) s2) fun x3 s3 => if x3 = 0 then fX12_cut_97 kb a0 a1 a3 a4 a5 a6 a7 y0 s3 else if 0 ≤ (wr (y0 + 3)) ∧ (wr (y0 + 3)) < 120 then bnd (FX12_in a6 1 (gm s3 113 a0 (wr (y0 + 3))) s3) fun x4 s4 => if x4 = 0 then fX12_cut_97 kb a0 a1 a3 a4 a5 a6 a7 y0 s4 else fX12_cut_98 kb a0 a1 a3 a4 a5 a6 a7 y0 1 s4 else none else none else none else none
noncomputable def fX12_cut_21 (kb : Co) (a0 a1 a3 a4 a5 a6 a7 : Int) (s : St) : Res := fX12_cut_22 kb a0 a1 a3 a4 a5 a6 a7 0 s
noncomputable def fX12_cut_0 (kb : Co) (a0 a1 a2 a3 a4 a5 a6 : Int) (s : St) : Res := bnd (FX12_isFloat a0 a1 a2 s) fun x1 s1 => if x1 = 0 then fX12_cut_21 kb a0 a1 a3 a4 a5 a6 x1 s1 else bnd (FX12_at a1 a2 s1) fun x2 s2 => fX12_cut_22 kb a0 a1 a3 a4 a5 a6 x1 x2 s2
noncomputable def tX12_cut_141 (kb : Co) : List Rw := []
noncomputable def tX12_cut_133 (kb : Co) : List Rw := (141, [(3, 12), (7, 0), (7, 0), (0, 0), (0, 0), (0, 0), (0, 0), (7, 0), (0, 0), (7, 0), (7, 0)], [], fun xs ys s => fX12_cut_141 kb (xs.getD 0 0) (xs.getD 1 0) (xs.getD 2 0) (xs.getD 3 0) (xs.getD 4 0) (xs.getD 5 0) s) :: tX12_cut_141 kb
noncomputable def tX12_cut_132 (kb : Co) : List Rw := (133, [(3, 12), (7, 0), (7, 0), (0, 0), (0, 0), (0, 0), (0, 0), (7, 0), (0, 0), (7, 0), (7, 0)], [(0, 0), (3, 12)], fun xs ys s => fX12_cut_133 kb (xs.getD 0 0) (xs.getD 1 0) (xs.getD 2 0) (xs.getD 3 0) (xs.getD 4 0) (xs.getD 5 0) (ys.getD 0 0) (ys.getD 1 0) s) :: tX12_cut_133 kb
noncomputable def tX12_cut_119 (kb : Co) : List Rw := (132, [(3, 12), (7, 0), (7, 0), (0, 0), (0, 0), (0, 0), (0, 0), (7, 0), (0, 0), (7, 0), (7, 0)], [(3, 12)], fun xs ys s => fX12_cut_132 kb (xs.getD 0 0) (xs.getD 1 0) (xs.getD 2 0) (xs.getD 3 0) (xs.getD 4 0) (xs.getD 5 0) (ys.getD 0 0) s) :: tX12_cut_132 kb
noncomputable def tX12_cut_110 (kb : Co) : List Rw := (119, [(3, 12), (0, 0), (7, 0), (0, 0), (0, 0), (0, 0), (0, 0), (7, 0), (0, 0), (7, 0), (7, 0)], [(3, 12)], fun xs ys s => fX12_cut_119 kb (xs.getD 0 0) (xs.getD 1 0) (xs.getD 2 0) (xs.getD 3 0) (xs.getD 4 0) (xs.getD 5 0) (xs.getD 6 0) (ys.getD 0 0) s) :: tX12_cut_119 kb
noncomputable def tX12_cut_98 (kb : Co) : List Rw := (110, [(3, 12), (0, 0), (7, 0), (0, 0), (0, 0), (0, 0), (0, 0), (7, 0), (0, 0), (0, 0), (7, 0)], [(3, 12)], fun xs ys s => fX12_cut_110 kb (xs.getD 0 0) (xs.getD 1 0) (xs.getD 2 0) (xs.getD 3 0) (xs.getD 4 0) (xs.getD 5 0) (xs.getD 6 0) (xs.getD 7 0) (ys.getD 0 0) s) :: tX12_cut_110 kb
noncomputable def tX12_cut_97 (kb : Co) : List Rw := (98, [(3, 12), (0, 0), (7, 0), (0, 0), (0, 0), (0, 0), (0, 0), (0, 0), (0, 0), (7, 0), (7, 0)], [(0, 0)], fun xs ys s => fX12_cut_98 kb (xs.getD 0 0) (xs.getD 1 0) (xs.getD 2 0) (xs.getD 3 0) (xs.getD 4 0) (xs.getD 5 0) (xs.getD 6 0) (xs.getD 7 0) (ys.getD 0 0) s) :: tX12_cut_98 kb
noncomputable def tX12_cut_22 (kb : Co) : List Rw := (97, [(3, 12), (0, 0), (7, 0), (0, 0), (0, 0), (0, 0), (0, 0), (0, 0), (0, 0), (7, 0), (7, 0)], [], fun xs ys s => fX12_cut_97 kb (xs.getD 0 0) (xs.getD 1 0) (xs.getD 2 0) (xs.getD 3 0) (xs.getD 4 0) (xs.getD 5 0) (xs.getD 6 0) (xs.getD 7 0) s) :: tX12_cut_97 kb
noncomputable def tX12_cut_21 (kb : Co) : List Rw := (22, [(3, 12), (0, 0), (7, 0), (0, 0), (0, 0), (0, 0), (0, 0), (0, 0), (7, 0), (7, 0), (7, 0)], [(0, 0)], fun xs ys s => fX12_cut_22 kb (xs.getD 0 0) (xs.getD 1 0) (xs.getD 2 0) (xs.getD 3 0) (xs.getD 4 0) (xs.getD 5 0) (xs.getD 6 0) (ys.getD 0 0) s) :: tX12_cut_22 kb
noncomputable def tX12_cut_0 (kb : Co) : List Rw := (21, [(3, 12), (0, 0), (7, 0), (0, 0), (0, 0), (0, 0), (0, 0), (0, 0), (7, 0), (7, 0), (7, 0)], [], fun xs ys s => fX12_cut_21 kb (xs.getD 0 0) (xs.getD 1 0) (xs.getD 2 0) (xs.getD 3 0) (xs.getD 4 0) (xs.getD 5 0) (xs.getD 6 0) s) :: tX12_cut_21 kb
noncomputable def rX12_cut (kb : Co) : List Rw := (0, [(3, 12), (0, 0), (0, 0), (0, 0), (0, 0), (0, 0), (0, 0), (7, 0), (7, 0), (7, 0), (7, 0)], [], fun xs ys s => fX12_cut_0 kb (xs.getD 0 0) (xs.getD 1 0) (xs.getD 2 0) (xs.getD 3 0) (xs.getD 4 0) (xs.getD 5 0) (xs.getD 6 0) s) :: tX12_cut_0 kb
noncomputable def kX12_cut : Nat → Co
  | 0 => nk
  | n + 1 => fam (rX12_cut (kX12_cut n)) nk
noncomputable def FX12_cut (a0 a1 a2 a3 a4 a5 a6 : Int) (s : St) : Res := fX12_cut_0 (kX12_cut 0) a0 a1 a2 a3 a4 a5 a6 s
noncomputable def gX12_cut : Fn := fun xs s => FX12_cut (xs.getD 0 0) (xs.getD 1 0) (xs.getD 2 0) (xs.getD 3 0) (xs.getD 4 0) (xs.getD 5 0) (xs.getD 6 0) s
noncomputable def mdX12_cut : MD := ([(3, 12), (0, 0), (0, 0), (0, 0), (0, 0), (0, 0), (0, 0)], (0, 0), yX12_cut, cX12_cut, (11, (some .int), 3, 65, []))
-- FloatparadeModel.isFit(II)Z
noncomputable def fX12_isFit_184 (kb : Co) (a5 : Int) (s : St) : Res := if (a5 : Int) = 0 ∨ (a5 : Int) = 1 then some (0, a5, s) else none
noncomputable def fX12_isFit_176 (kb : Co) (a0 a3 a4 a6 y0 : Int) (s : St) : Res := kb 34 [(3, 12, a0), (7, 0, 0), (7, 0, 0), (0, 0, a3), (0, 0, a4), (0, 0, y0), (0, 0, (wr (a6 + 1))), (7, 0, 0)] [] s
noncomputable def fX12_isFit_175 (kb : Co) (a0 a3 a4 a6 : Int) (s : St) : Res := fX12_isFit_176 kb a0 a3 a4 a6 0 s
noncomputable def fX12_isFit_171 (kb : Co) (a0 a3 a4 a6 : Int) (s : St) : Res := fX12_isFit_176 kb a0 a3 a4 a6 1 s
noncomputable def fX12_isFit_125 (kb : Co) (a0 a3 a4 a6 a7 y0 : Int) (s : St) : Res := if y0 = 0 then fX12_isFit_175 kb a0 a3 a4 a6 s else if a6 = 0 then fX12_isFit_171 kb a0 a3 a4 a6 s else if 0 ≤ (wr (a4 + 3)) ∧ (wr (a4 + 3)) < 120 then if 0 ≤ a7 ∧ a7 < 16 then bnd (FX12_streetOf a0 a3 (wr (a6 - 1)) s) fun x1 s1 => if 0 ≤ x1 ∧ x1 < 16 then if (wr ((gm s 118 a0 a7) + (gm s1 118 a0 x1))) < (gm s 113 a0 (wr (a4 + 3))) then fX12_isFit_175 kb a0 a3 a4 a6 s1 else fX12_isFit_171 kb a0 a3 a4 a6 s1 else none else none else none
noncomputable def fX12_isFit_124 (kb : Co) (a0 a3 a4 a6 a7 : Int) (s : St) : Res := fX12_isFit_125 kb a0 a3 a4 a6 a7 0 s
noncomputable def fX12_isFit_34 (kb : Co) (a0 a3 a4 a5 a6 : Int) (s : St) : Res := if 0 ≤ a3 ∧ a3 < 2 then if a6 < (wr ((gm s 121 a0 a3) - 1)) then (bnd (FX12_streetOf a0 a3 a6 s) fun x1 s1 => if a5 = 0 then fX12_isFit_124 kb a0 a3 a4 a6 x1 s1 else if 0 ≤ a4 ∧ a4 < 120 then if 0 ≤ x1 ∧ x1 < 16 then if (wr ((gm s1 118 a0 x1) - 2)) < (gm s1 113 a0 a4) then fX12_isFit_124 kb a0 a3 a4 a6 x1 s1 else if 0 ≤ (wr (a4 + 1)) ∧ (wr (a4 + 1)) < 120 then if 0 ≤ x1 ∧ x1 < 16 then if (wr ((gm s1 119 a0 x1) - 1)) < (gm s1 113 a0 (wr (a4 + 1))) then fX12_isFit_124 kb a0 a3 a4 a6 x1 s1 else if 0 ≤ (wr (a4 + 2)) ∧ (wr (a4 + 2)) < 120 then if 0 ≤ x1 ∧ x1 < 16 then if (gm s1 120 a0 x1) < (gm s1 113 a0 (wr (a4 + 2))) then fX12_isFit_124 kb a0 a3 a4 a6 x1 s1 else fX12_isFit_125 kb a0 a3 a4 a6 x1 1 s1 else none else none else none else none else none else none) else fX12_isFit_184 kb a5 s else none
noncomputable def fX12_isFit_29 (kb : Co) (a0 a3 a4 y0 : Int) (s : St) : Res := fX12_isFit_34 kb a0 a3 a4 y0 0 s
noncomputable def fX12_isFit_28 (kb : Co) (a0 a3 a4 : Int) (s : St) : Res := fX12_isFit_29 kb a0 a3 a4 0 s
noncomputable def fX12_isFit_0 (kb : Co) (a0 a1 a2 : Int) (s : St) : Res := if 0 ≤ a1 ∧ a1 < 10 then bnd (FX12_at a1 a2 s) fun x1 s1 => if 0 ≤ (gm s 102 a0 a1) ∧ (gm s 102 a0 a1) < 2 then if 1 < (gm s1 121 a0 (gm s 102 a0 a1)) then fX12_isFit_29 kb a0 (gm s 102 a0 a1) x1 1 s1 else fX12_isFit_28 kb a0 (gm s 102 a0 a1) x1 s1 else none else none
noncomputable def tX12_isFit_184 (kb : Co) : List Rw := []
noncomputable def tX12_isFit_176 (kb : Co) : List Rw := (184, [(7, 0), (7, 0), (7, 0), (7, 0), (7, 0), (0, 0), (7, 0), (7, 0)], [], fun xs ys s => fX12_isFit_184 kb (xs.getD 0 0) s) :: tX12_isFit_184 kb
noncomputable def tX12_isFit_175 (kb : Co) : List Rw := (176, [(3, 12), (7, 0), (7, 0), (0, 0), (0, 0), (7, 0), (0, 0), (7, 0)], [(0, 0)], fun xs ys s => fX12_isFit_176 kb (xs.getD 0 0) (xs.getD 1 0) (xs.getD 2 0) (xs.getD 3 0) (ys.getD 0 0) s) :: tX12_isFit_176 kb
noncomputable def tX12_isFit_171 (kb : Co) : List Rw := (175, [(3, 12), (7, 0), (7, 0), (0, 0), (0, 0), (7, 0), (0, 0), (7, 0)], [], fun xs ys s => fX12_isFit_175 kb (xs.getD 0 0) (xs.getD 1 0) (xs.getD 2 0) (xs.getD 3 0) s) :: tX12_isFit_175 kb
noncomputable def tX12_isFit_125 (kb : Co) : List Rw := (171, [(3, 12), (7, 0), (7, 0), (0, 0), (0, 0), (7, 0), (0, 0), (7, 0)], [], fun xs ys s => fX12_isFit_171 kb (xs.getD 0 0) (xs.getD 1 0) (xs.getD 2 0) (xs.getD 3 0) s) :: tX12_isFit_171 kb
noncomputable def tX12_isFit_124 (kb : Co) : List Rw := (125, [(3, 12), (7, 0), (7, 0), (0, 0), (0, 0), (7, 0), (0, 0), (0, 0)], [(0, 0)], fun xs ys s => fX12_isFit_125 kb (xs.getD 0 0) (xs.getD 1 0) (xs.getD 2 0) (xs.getD 3 0) (xs.getD 4 0) (ys.getD 0 0) s) :: tX12_isFit_125 kb
noncomputable def tX12_isFit_34 (kb : Co) : List Rw := (124, [(3, 12), (7, 0), (7, 0), (0, 0), (0, 0), (7, 0), (0, 0), (0, 0)], [], fun xs ys s => fX12_isFit_124 kb (xs.getD 0 0) (xs.getD 1 0) (xs.getD 2 0) (xs.getD 3 0) (xs.getD 4 0) s) :: tX12_isFit_124 kb
noncomputable def tX12_isFit_29 (kb : Co) : List Rw := (34, [(3, 12), (7, 0), (7, 0), (0, 0), (0, 0), (0, 0), (0, 0), (7, 0)], [], fun xs ys s => fX12_isFit_34 kb (xs.getD 0 0) (xs.getD 1 0) (xs.getD 2 0) (xs.getD 3 0) (xs.getD 4 0) s) :: tX12_isFit_34 kb
noncomputable def tX12_isFit_28 (kb : Co) : List Rw := (29, [(3, 12), (7, 0), (7, 0), (0, 0), (0, 0), (7, 0), (7, 0), (7, 0)], [(0, 0)], fun xs ys s => fX12_isFit_29 kb (xs.getD 0 0) (xs.getD 1 0) (xs.getD 2 0) (ys.getD 0 0) s) :: tX12_isFit_29 kb
noncomputable def tX12_isFit_0 (kb : Co) : List Rw := (28, [(3, 12), (7, 0), (7, 0), (0, 0), (0, 0), (7, 0), (7, 0), (7, 0)], [], fun xs ys s => fX12_isFit_28 kb (xs.getD 0 0) (xs.getD 1 0) (xs.getD 2 0) s) :: tX12_isFit_28 kb
noncomputable def rX12_isFit (kb : Co) : List Rw := (0, [(3, 12), (0, 0), (0, 0), (7, 0), (7, 0), (7, 0), (7, 0), (7, 0)], [], fun xs ys s => fX12_isFit_0 kb (xs.getD 0 0) (xs.getD 1 0) (xs.getD 2 0) s) :: tX12_isFit_0 kb
noncomputable def kX12_isFit : Nat → Co
  | 0 => nk
  | n + 1 => fam (rX12_isFit (kX12_isFit n)) nk
noncomputable def FX12_isFit (a0 a1 a2 : Int) (s : St) : Res := fX12_isFit_0 (kX12_isFit 9999) a0 a1 a2 s
noncomputable def gX12_isFit : Fn := fun xs s => FX12_isFit (xs.getD 0 0) (xs.getD 1 0) (xs.getD 2 0) s
noncomputable def mdX12_isFit : MD := ([(3, 12), (0, 0), (0, 0)], (0, 0), yX12_isFit, cX12_isFit, (8, (some .boolean), 2, 47, []))
-- FloatparadeModel.fits(II)Z
noncomputable def fX12_fits_35 (kb : Co) (y0 : Int) (s : St) : Res := if (y0 : Int) = 0 ∨ (y0 : Int) = 1 then some (0, y0, s) else none
noncomputable def fX12_fits_34 (kb : Co) (s : St) : Res := fX12_fits_35 kb 0 s
noncomputable def fX12_fits_15 (kb : Co) (a0 a1 a2 y0 y1 : Int) (s : St) : Res := bnd (FX12_holds y1 y0 s) fun x1 s1 => if x1 = 0 then fX12_fits_34 kb s1 else bnd (FX12_isFit a0 a1 a2 s1) fun x2 s2 => if x2 = 0 then fX12_fits_34 kb s2 else fX12_fits_35 kb 1 s2
noncomputable def fX12_fits_14 (kb : Co) (a0 a1 a2 y0 : Int) (s : St) : Res := fX12_fits_15 kb a0 a1 a2 1 y0 s
noncomputable def fX12_fits_0 (kb : Co) (a0 a1 a2 : Int) (s : St) : Res := bnd (FX12_isFloat a0 a1 a2 s) fun x1 s1 => if x1 = 0 then fX12_fits_14 kb a0 a1 a2 a0 s1 else fX12_fits_15 kb a0 a1 a2 0 a0 s1
noncomputable def tX12_fits_35 (kb : Co) : List Rw := []
noncomputable def tX12_fits_34 (kb : Co) : List Rw := (35, [(7, 0), (7, 0), (7, 0)], [(0, 0)], fun xs ys s => fX12_fits_35 kb (ys.getD 0 0) s) :: tX12_fits_35 kb
noncomputable def tX12_fits_15 (kb : Co) : List Rw := (34, [(7, 0), (7, 0), (7, 0)], [], fun xs ys s => fX12_fits_34 kb s) :: tX12_fits_34 kb
noncomputable def tX12_fits_14 (kb : Co) : List Rw := (15, [(3, 12), (0, 0), (0, 0)], [(0, 0), (3, 12)], fun xs ys s => fX12_fits_15 kb (xs.getD 0 0) (xs.getD 1 0) (xs.getD 2 0) (ys.getD 0 0) (ys.getD 1 0) s) :: tX12_fits_15 kb
noncomputable def tX12_fits_0 (kb : Co) : List Rw := (14, [(3, 12), (0, 0), (0, 0)], [(3, 12)], fun xs ys s => fX12_fits_14 kb (xs.getD 0 0) (xs.getD 1 0) (xs.getD 2 0) (ys.getD 0 0) s) :: tX12_fits_14 kb
noncomputable def rX12_fits (kb : Co) : List Rw := (0, [(3, 12), (0, 0), (0, 0)], [], fun xs ys s => fX12_fits_0 kb (xs.getD 0 0) (xs.getD 1 0) (xs.getD 2 0) s) :: tX12_fits_0 kb
noncomputable def kX12_fits : Nat → Co
  | 0 => nk
  | n + 1 => fam (rX12_fits (kX12_fits n)) nk
noncomputable def FX12_fits (a0 a1 a2 : Int) (s : St) : Res := fX12_fits_0 (kX12_fits 0) a0 a1 a2 s
noncomputable def gX12_fits : Fn := fun xs s => FX12_fits (xs.getD 0 0) (xs.getD 1 0) (xs.getD 2 0) s
noncomputable def mdX12_fits : MD := ([(3, 12), (0, 0), (0, 0)], (0, 0), yX12_fits, cX12_fits, (3, (some .boolean), 3, 74, []))
-- FloatparadeModel.swaps(III)V
noncomputable def fX12_swaps_0 (kb : Co) (a0 a1 a2 a3 : Int) (s : St) : Res := if 0 ≤ (wr ((wr (10 * a1)) + a2)) ∧ (wr ((wr (10 * a1)) + a2)) < 20 then if 0 ≤ (wr ((wr (10 * a1)) + a3)) ∧ (wr ((wr (10 * a1)) + a3)) < 20 then if 0 ≤ (wr ((wr (10 * a1)) + a2)) ∧ (wr ((wr (10 * a1)) + a2)) < 20 then if 0 ≤ (wr ((wr (10 * a1)) + a3)) ∧ (wr ((wr (10 * a1)) + a3)) < 20 then some (0, 0, (pm (pm s 127 a0 (wr ((wr (10 * a1)) + a2)) (gm s 127 a0 (wr ((wr (10 * a1)) + a3)))) 127 a0 (wr ((wr (10 * a1)) + a3)) (gm s 127 a0 (wr ((wr (10 * a1)) + a2))))) else none else none else none else none
noncomputable def tX12_swaps_0 (kb : Co) : List Rw := []
noncomputable def rX12_swaps (kb : Co) : List Rw := (0, [(3, 12), (0, 0), (0, 0), (0, 0), (7, 0)], [], fun xs ys s => fX12_swaps_0 kb (xs.getD 0 0) (xs.getD 1 0) (xs.getD 2 0) (xs.getD 3 0) s) :: tX12_swaps_0 kb
noncomputable def kX12_swaps : Nat → Co
  | 0 => nk
  | n + 1 => fam (rX12_swaps (kX12_swaps n)) nk
noncomputable def FX12_swaps (a0 a1 a2 a3 : Int) (s : St) : Res := fX12_swaps_0 (kX12_swaps 0) a0 a1 a2 a3 s
noncomputable def gX12_swaps : Fn := fun xs s => FX12_swaps (xs.getD 0 0) (xs.getD 1 0) (xs.getD 2 0) (xs.getD 3 0) s
noncomputable def mdX12_swaps : MD := ([(3, 12), (0, 0), (0, 0), (0, 0)], (9, 0), yX12_swaps, cX12_swaps, (5, none, 0, 0, []))
-- FloatparadeModel.areFoes(II)Z
noncomputable def fX12_areFoes_0 (kb : Co) (a0 a1 a2 : Int) (s : St) : Res := if 0 ≤ (wr ((wr (10 * a1)) + a2)) ∧ (wr ((wr (10 * a1)) + a2)) < 20 then if 0 ≤ (wr ((wr ((wr (10 * a1)) + a2)) + 1)) ∧ (wr ((wr ((wr (10 * a1)) + a2)) + 1)) < 20 then if 0 ≤ (wr ((wr (10 * (gm s 127 a0 (wr ((wr (10 * a1)) + a2))))) + (gm s 127 a0 (wr ((wr ((wr (10 * a1)) + a2)) + 1))))) ∧ (wr ((wr (10 * (gm s 127 a0 (wr ((wr (10 * a1)) + a2))))) + (gm s 127 a0 (wr ((wr ((wr (10 * a1)) + a2)) + 1))))) < 100 then if ((gm s 105 a0 (wr ((wr (10 * (gm s 127 a0 (wr ((wr (10 * a1)) + a2))))) + (gm s 127 a0 (wr ((wr ((wr (10 * a1)) + a2)) + 1)))))) : Int) = 0 ∨ ((gm s 105 a0 (wr ((wr (10 * (gm s 127 a0 (wr ((wr (10 * a1)) + a2))))) + (gm s 127 a0 (wr ((wr ((wr (10 * a1)) + a2)) + 1)))))) : Int) = 1 then some (0, (gm s 105 a0 (wr ((wr (10 * (gm s 127 a0 (wr ((wr (10 * a1)) + a2))))) + (gm s 127 a0 (wr ((wr ((wr (10 * a1)) + a2)) + 1)))))), s) else none else none else none else none
noncomputable def tX12_areFoes_0 (kb : Co) : List Rw := []
noncomputable def rX12_areFoes (kb : Co) : List Rw := (0, [(3, 12), (0, 0), (0, 0)], [], fun xs ys s => fX12_areFoes_0 kb (xs.getD 0 0) (xs.getD 1 0) (xs.getD 2 0) s) :: tX12_areFoes_0 kb
noncomputable def kX12_areFoes : Nat → Co
  | 0 => nk
  | n + 1 => fam (rX12_areFoes (kX12_areFoes n)) nk
noncomputable def FX12_areFoes (a0 a1 a2 : Int) (s : St) : Res := fX12_areFoes_0 (kX12_areFoes 0) a0 a1 a2 s
noncomputable def gX12_areFoes : Fn := fun xs s => FX12_areFoes (xs.getD 0 0) (xs.getD 1 0) (xs.getD 2 0) s
noncomputable def mdX12_areFoes : MD := ([(3, 12), (0, 0), (0, 0)], (0, 0), yX12_areFoes, cX12_areFoes, (3, (some .boolean), 0, 0, []))
-- FloatparadeModel.firstFoes(I)I
noncomputable def fX12_firstFoes_36 (kb : Co) (a2 : Int) (s : St) : Res := some (0, a2, s)
noncomputable def fX12_firstFoes_29 (kb : Co) (a0 a1 a3 y0 : Int) (s : St) : Res := kb 11 [(3, 12, a0), (0, 0, a1), (0, 0, y0), (0, 0, (wr (a3 + (-1))))] [] s
noncomputable def fX12_firstFoes_28 (kb : Co) (a0 a1 a2 a3 : Int) (s : St) : Res := fX12_firstFoes_29 kb a0 a1 a3 a2 s
noncomputable def fX12_firstFoes_11 (kb : Co) (a0 a1 a2 a3 : Int) (s : St) : Res := if a3 < 0 then fX12_firstFoes_36 kb a2 s else bnd (FX12_areFoes a0 a1 a3 s) fun x1 s1 => if x1 = 0 then fX12_firstFoes_28 kb a0 a1 a2 a3 s1 else fX12_firstFoes_29 kb a0 a1 a3 a3 s1
noncomputable def fX12_firstFoes_0 (kb : Co) (a0 a1 : Int) (s : St) : Res := if 0 ≤ a1 ∧ a1 < 2 then fX12_firstFoes_11 kb a0 a1 (-1) (wr ((gm s 126 a0 a1) - 2)) s else none
noncomputable def tX12_firstFoes_36 (kb : Co) : List Rw := []
noncomputable def tX12_firstFoes_29 (kb : Co) : List Rw := (36, [(7, 0), (7, 0), (0, 0), (7, 0)], [], fun xs ys s => fX12_firstFoes_36 kb (xs.getD 0 0) s) :: tX12_firstFoes_36 kb
noncomputable def tX12_firstFoes_28 (kb : Co) : List Rw := (29, [(3, 12), (0, 0), (7, 0), (0, 0)], [(0, 0)], fun xs ys s => fX12_firstFoes_29 kb (xs.getD 0 0) (xs.getD 1 0) (xs.getD 2 0) (ys.getD 0 0) s) :: tX12_firstFoes_29 kb
noncomputable def tX12_firstFoes_11 (kb : Co) : List Rw := (28, [(3, 12), (0, 0), (0, 0), (0, 0)], [], fun xs ys s => fX12_firstFoes_28 kb (xs.getD 0 0) (xs.getD 1 0) (xs.getD 2 0) (xs.getD 3 0) s) :: tX12_firstFoes_28 kb
noncomputable def tX12_firstFoes_0 (kb : Co) : List Rw := (11, [(3, 12), (0, 0), (0, 0), (0, 0)], [], fun xs ys s => fX12_firstFoes_11 kb (xs.getD 0 0) (xs.getD 1 0) (xs.getD 2 0) (xs.getD 3 0) s) :: tX12_firstFoes_11 kb
noncomputable def rX12_firstFoes (kb : Co) : List Rw := (0, [(3, 12), (0, 0), (7, 0), (7, 0)], [], fun xs ys s => fX12_firstFoes_0 kb (xs.getD 0 0) (xs.getD 1 0) s) :: tX12_firstFoes_0 kb
noncomputable def kX12_firstFoes : Nat → Co
  | 0 => nk
  | n + 1 => fam (rX12_firstFoes (kX12_firstFoes n)) nk
noncomputable def FX12_firstFoes (a0 a1 : Int) (s : St) : Res := fX12_firstFoes_0 (kX12_firstFoes 9999) a0 a1 s
noncomputable def gX12_firstFoes : Fn := fun xs s => FX12_firstFoes (xs.getD 0 0) (xs.getD 1 0) s
noncomputable def mdX12_firstFoes : MD := ([(3, 12), (0, 0)], (0, 0), yX12_firstFoes, cX12_firstFoes, (4, (some .int), 1, 22, []))
-- FloatparadeModel.rankOf(I)I
noncomputable def fX12_rankOf_46 (kb : Co) (y0 : Int) (s : St) : Res := some (0, y0, s)
noncomputable def fX12_rankOf_35 (kb : Co) (a0 a1 : Int) (s : St) : Res := if 0 ≤ a1 ∧ a1 < 10 then fX12_rankOf_46 kb (wr ((wr (10 * (gm s 125 a0 a1))) + a1)) s else none
noncomputable def fX12_rankOf_19 (kb : Co) (a0 a1 a2 : Int) (s : St) : Res := if 0 ≤ a2 ∧ a2 < 2 then if a1 = (gm s 129 a0 a2) then fX12_rankOf_46 kb 10000 s else fX12_rankOf_35 kb a0 a1 s else none
noncomputable def fX12_rankOf_0 (kb : Co) (a0 a1 : Int) (s : St) : Res := if 0 ≤ a1 ∧ a1 < 10 then if a1 = (gm s 12 a0 28) then fX12_rankOf_46 kb (-1) s else fX12_rankOf_19 kb a0 a1 (gm s 102 a0 a1) s else none
noncomputable def tX12_rankOf_46 (kb : Co) : List Rw := []
noncomputable def tX12_rankOf_35 (kb : Co) : List Rw := (46, [(7, 0), (7, 0), (7, 0)], [(0, 0)], fun xs ys s => fX12_rankOf_46 kb (ys.getD 0 0) s) :: tX12_rankOf_46 kb
noncomputable def tX12_rankOf_19 (kb : Co) : List Rw := (35, [(3, 12), (0, 0), (7, 0)], [], fun xs ys s => fX12_rankOf_35 kb (xs.getD 0 0) (xs.getD 1 0) s) :: tX12_rankOf_35 kb
noncomputable def tX12_rankOf_0 (kb : Co) : List Rw := (19, [(3, 12), (0, 0), (0, 0)], [], fun xs ys s => fX12_rankOf_19 kb (xs.getD 0 0) (xs.getD 1 0) (xs.getD 2 0) s) :: tX12_rankOf_19 kb
noncomputable def rX12_rankOf (kb : Co) : List Rw := (0, [(3, 12), (0, 0), (7, 0)], [], fun xs ys s => fX12_rankOf_0 kb (xs.getD 0 0) (xs.getD 1 0) s) :: tX12_rankOf_0 kb
noncomputable def kX12_rankOf : Nat → Co
  | 0 => nk
  | n + 1 => fam (rX12_rankOf (kX12_rankOf n)) nk
noncomputable def FX12_rankOf (a0 a1 : Int) (s : St) : Res := fX12_rankOf_0 (kX12_rankOf 0) a0 a1 s
noncomputable def gX12_rankOf : Fn := fun xs s => FX12_rankOf (xs.getD 0 0) (xs.getD 1 0) s
noncomputable def mdX12_rankOf : MD := ([(3, 12), (0, 0)], (0, 0), yX12_rankOf, cX12_rankOf, (3, (some .int), 0, 0, []))
-- FloatparadeModel.findsOrder(I)V
noncomputable def fX12_findsOrder_208 (kb : Co) (s : St) : Res := some (0, 0, s)
noncomputable def fX12_findsOrder_201 (kb : Co) (a0 a1 a2 a4 y0 : Int) (s : St) : Res := kb 135 [(3, 12, a0), (0, 0, a1), (0, 0, a2), (0, 0, y0), (0, 0, (wr (a4 + 1)))] [] s
noncomputable def fX12_findsOrder_196 (kb : Co) (a0 a1 a2 a4 : Int) (s : St) : Res := bnd (FX12_firstFoes a0 a1 s) fun x1 s1 => fX12_findsOrder_201 kb a0 a1 a2 a4 x1 s1
noncomputable def fX12_findsOrder_181 (kb : Co) (a0 a1 a2 a3 a4 : Int) (s : St) : Res := if (wr (a3 + 2)) < a2 then fX12_findsOrder_196 kb a0 a1 a2 a4 s else if a3 = 0 then fX12_findsOrder_201 kb a0 a1 a2 a4 (-1) s else fX12_findsOrder_196 kb a0 a1 a2 a4 s
noncomputable def fX12_findsOrder_168 (kb : Co) (a0 a1 a2 a3 a4 : Int) (s : St) : Res := if 0 < a3 then (bnd (FX12_swaps a0 a1 a3 (wr (a3 - 1)) s) fun _ s1 => fX12_findsOrder_181 kb a0 a1 a2 a3 a4 s1) else fX12_findsOrder_181 kb a0 a1 a2 a3 a4 s
noncomputable def fX12_findsOrder_135 (kb : Co) (a0 a1 a2 a3 a4 : Int) (s : St) : Res := if a4 < 10 then (if a3 = (-1) then fX12_findsOrder_208 kb s else if (wr (a3 + 2)) < a2 then (bnd (FX12_swaps a0 a1 (wr (a3 + 1)) (wr (a3 + 2)) s) fun _ s1 => fX12_findsOrder_181 kb a0 a1 a2 a3 a4 s1) else fX12_findsOrder_168 kb a0 a1 a2 a3 a4 s) else fX12_findsOrder_208 kb s
noncomputable def fX12_findsOrder_119 (kb : Co) (a0 a1 a2 : Int) (s : St) : Res := if 0 ≤ a1 ∧ a1 < 2 then bnd (FX12_firstFoes a0 a1 (pm s 126 a0 a1 a2)) fun x1 s1 => fX12_findsOrder_135 kb a0 a1 a2 x1 0 s1 else none
noncomputable def fX12_findsOrder_113 (kb : Co) (a0 a1 a2 a3 : Int) (s : St) : Res := kb 4 [(3, 12, a0), (0, 0, a1), (0, 0, a2), (0, 0, (wr (a3 + 1))), (7, 0, 0)] [] s
noncomputable def fX12_findsOrder_97 (kb : Co) (a0 a1 a2 a3 a4 : Int) (s : St) : Res := if 0 ≤ (wr ((wr (10 * a1)) + a4)) ∧ (wr ((wr (10 * a1)) + a4)) < 20 then fX12_findsOrder_113 kb a0 a1 (wr (a2 + 1)) a3 (pm s 127 a0 (wr ((wr (10 * a1)) + a4)) a3) else none
noncomputable def fX12_findsOrder_34 (kb : Co) (a0 a1 a2 a3 a4 : Int) (s : St) : Res := if 0 < a4 then (if 0 ≤ (wr ((wr ((wr (10 * a1)) + a4)) - 1)) ∧ (wr ((wr ((wr (10 * a1)) + a4)) - 1)) < 20 then bnd (FX12_rankOf a0 (gm s 127 a0 (wr ((wr ((wr (10 * a1)) + a4)) - 1))) s) fun x1 s1 => bnd (FX12_rankOf a0 a3 s1) fun x2 s2 => if x2 < x1 then (if 0 ≤ (wr ((wr ((wr (10 * a1)) + a4)) - 1)) ∧ (wr ((wr ((wr (10 * a1)) + a4)) - 1)) < 20 then if 0 ≤ (wr ((wr (10 * a1)) + a4)) ∧ (wr ((wr (10 * a1)) + a4)) < 20 then kb 34 [(3, 12, a0), (0, 0, a1), (0, 0, a2), (0, 0, a3), (0, 0, (wr (a4 + (-1))))] [] (pm s2 127 a0 (wr ((wr (10 * a1)) + a4)) (gm s2 127 a0 (wr ((wr ((wr (10 * a1)) + a4)) - 1)))) else none else none) else fX12_findsOrder_97 kb a0 a1 a2 a3 a4 s2 else none) else fX12_findsOrder_97 kb a0 a1 a2 a3 a4 s
noncomputable def fX12_findsOrder_4 (kb : Co) (a0 a1 a2 a3 : Int) (s : St) : Res := if a3 < (gm s 12 a0 1) then (if 0 ≤ a3 ∧ a3 < 10 then if (gm s 102 a0 a3) = a1 then (if 0 ≤ a3 ∧ a3 < 10 then if (gm s 124 a0 a3) = 0 then fX12_findsOrder_113 kb a0 a1 a2 a3 s else fX12_findsOrder_34 kb a0 a1 a2 a3 a2 s else none) else fX12_findsOrder_113 kb a0 a1 a2 a3 s else none) else fX12_findsOrder_119 kb a0 a1 a2 s
noncomputable def fX12_findsOrder_0 (kb : Co) (a0 a1 : Int) (s : St) : Res := fX12_findsOrder_4 kb a0 a1 0 0 s
noncomputable def tX12_findsOrder_208 (kb : Co) : List Rw := []
noncomputable def tX12_findsOrder_201 (kb : Co) : List Rw := (208, [(7, 0), (7, 0), (7, 0), (7, 0), (7, 0)], [], fun xs ys s => fX12_findsOrder_208 kb s) :: tX12_findsOrder_208 kb
noncomputable def tX12_findsOrder_196 (kb : Co) : List Rw := (201, [(3, 12), (0, 0), (0, 0), (7, 0), (0, 0)], [(0, 0)], fun xs ys s => fX12_findsOrder_201 kb (xs.getD 0 0) (xs.getD 1 0) (xs.getD 2 0) (xs.getD 3 0) (ys.getD 0 0) s) :: tX12_findsOrder_201 kb
noncomputable def tX12_findsOrder_181 (kb : Co) : List Rw := (196, [(3, 12), (0, 0), (0, 0), (7, 0), (0, 0)], [], fun xs ys s => fX12_findsOrder_196 kb (xs.getD 0 0) (xs.getD 1 0) (xs.getD 2 0) (xs.getD 3 0) s) :: tX12_findsOrder_196 kb
noncomputable def tX12_findsOrder_168 (kb : Co) : List Rw := (181, [(3, 12), (0, 0), (0, 0), (0, 0), (0, 0)], [], fun xs ys s => fX12_findsOrder_181 kb (xs.getD 0 0) (xs.getD 1 0) (xs.getD 2 0) (xs.getD 3 0) (xs.getD 4 0) s) :: tX12_findsOrder_181 kb
noncomputable def tX12_findsOrder_135 (kb : Co) : List Rw := (168, [(3, 12), (0, 0), (0, 0), (0, 0), (0, 0)], [], fun xs ys s => fX12_findsOrder_168 kb (xs.getD 0 0) (xs.getD 1 0) (xs.getD 2 0) (xs.getD 3 0) (xs.getD 4 0) s) :: tX12_findsOrder_168 kb
noncomputable def tX12_findsOrder_119 (kb : Co) : List Rw := (135, [(3, 12), (0, 0), (0, 0), (0, 0), (0, 0)], [], fun xs ys s => fX12_findsOrder_135 kb (xs.getD 0 0) (xs.getD 1 0) (xs.getD 2 0) (xs.getD 3 0) (xs.getD 4 0) s) :: tX12_findsOrder_135 kb
noncomputable def tX12_findsOrder_113 (kb : Co) : List Rw := (119, [(3, 12), (0, 0), (0, 0), (7, 0), (7, 0)], [], fun xs ys s => fX12_findsOrder_119 kb (xs.getD 0 0) (xs.getD 1 0) (xs.getD 2 0) s) :: tX12_findsOrder_119 kb
noncomputable def tX12_findsOrder_97 (kb : Co) : List Rw := (113, [(3, 12), (0, 0), (0, 0), (0, 0), (7, 0)], [], fun xs ys s => fX12_findsOrder_113 kb (xs.getD 0 0) (xs.getD 1 0) (xs.getD 2 0) (xs.getD 3 0) s) :: tX12_findsOrder_113 kb
noncomputable def tX12_findsOrder_34 (kb : Co) : List Rw := (97, [(3, 12), (0, 0), (0, 0), (0, 0), (0, 0)], [], fun xs ys s => fX12_findsOrder_97 kb (xs.getD 0 0) (xs.getD 1 0) (xs.getD 2 0) (xs.getD 3 0) (xs.getD 4 0) s) :: tX12_findsOrder_97 kb
noncomputable def tX12_findsOrder_4 (kb : Co) : List Rw := (34, [(3, 12), (0, 0), (0, 0), (0, 0), (0, 0)], [], fun xs ys s => fX12_findsOrder_34 kb (xs.getD 0 0) (xs.getD 1 0) (xs.getD 2 0) (xs.getD 3 0) (xs.getD 4 0) s) :: tX12_findsOrder_34 kb
noncomputable def tX12_findsOrder_0 (kb : Co) : List Rw := (4, [(3, 12), (0, 0), (0, 0), (0, 0), (7, 0)], [], fun xs ys s => fX12_findsOrder_4 kb (xs.getD 0 0) (xs.getD 1 0) (xs.getD 2 0) (xs.getD 3 0) s) :: tX12_findsOrder_4 kb
noncomputable def rX12_findsOrder (kb : Co) : List Rw := (0, [(3, 12), (0, 0), (7, 0), (7, 0), (7, 0)], [], fun xs ys s => fX12_findsOrder_0 kb (xs.getD 0 0) (xs.getD 1 0) s) :: tX12_findsOrder_0 kb
noncomputable def kX12_findsOrder : Nat → Co
  | 0 => nk
  | n + 1 => fam (rX12_findsOrder (kX12_findsOrder n)) nk
noncomputable def FX12_findsOrder (a0 a1 : Int) (s : St) : Res := fX12_findsOrder_0 (kX12_findsOrder 9999) a0 a1 s
noncomputable def gX12_findsOrder : Fn := fun xs s => FX12_findsOrder (xs.getD 0 0) (xs.getD 1 0) s
noncomputable def mdX12_findsOrder : MD := ([(3, 12), (0, 0)], (9, 0), yX12_findsOrder, cX12_findsOrder, (5, none, 2, 45, []))
-- FloatparadeModel.canEnter(I)Z
noncomputable def fX12_canEnter_73 (kb : Co) (a3 : Int) (s : St) : Res := if (a3 : Int) = 0 ∨ (a3 : Int) = 1 then some (0, a3, s) else none
noncomputable def fX12_canEnter_44 (kb : Co) (a0 a1 a3 a4 : Int) (s : St) : Res := if 0 ≤ a1 ∧ a1 < 10 then if a4 < (gm s 112 a0 a1) then (if a3 = 0 then fX12_canEnter_73 kb a3 s else bnd (FX12_isFit a0 a1 a4 s) fun x1 s1 => kb 44 [(3, 12, a0), (0, 0, a1), (7, 0, 0), (0, 0, x1), (0, 0, (wr (a4 + 1)))] [] s1) else fX12_canEnter_73 kb a3 s else none
noncomputable def fX12_canEnter_40 (kb : Co) (a0 a1 y0 : Int) (s : St) : Res := fX12_canEnter_44 kb a0 a1 y0 0 s
noncomputable def fX12_canEnter_39 (kb : Co) (a0 a1 : Int) (s : St) : Res := fX12_canEnter_40 kb a0 a1 0 s
noncomputable def fX12_canEnter_0 (kb : Co) (a0 a1 : Int) (s : St) : Res := if 0 ≤ a1 ∧ a1 < 10 then if 0 ≤ a1 ∧ a1 < 10 then if (gm s 124 a0 a1) = 0 then (if 0 ≤ (gm s 102 a0 a1) ∧ (gm s 102 a0 a1) < 2 then if (gm s 130 a0 (gm s 102 a0 a1)) = 0 then (if 0 ≤ (gm s 102 a0 a1) ∧ (gm s 102 a0 a1) < 2 then if 1 < (gm s 121 a0 (gm s 102 a0 a1)) then fX12_canEnter_40 kb a0 a1 1 s else fX12_canEnter_39 kb a0 a1 s else none) else fX12_canEnter_39 kb a0 a1 s else none) else fX12_canEnter_39 kb a0 a1 s else none else none
noncomputable def tX12_canEnter_73 (kb : Co) : List Rw := []
noncomputable def tX12_canEnter_44 (kb : Co) : List Rw := (73, [(7, 0), (7, 0), (7, 0), (0, 0), (7, 0)], [], fun xs ys s => fX12_canEnter_73 kb (xs.getD 0 0) s) :: tX12_canEnter_73 kb
noncomputable def tX12_canEnter_40 (kb : Co) : List Rw := (44, [(3, 12), (0, 0), (7, 0), (0, 0), (0, 0)], [], fun xs ys s => fX12_canEnter_44 kb (xs.getD 0 0) (xs.getD 1 0) (xs.getD 2 0) (xs.getD 3 0) s) :: tX12_canEnter_44 kb
noncomputable def tX12_canEnter_39 (kb : Co) : List Rw := (40, [(3, 12), (0, 0), (7, 0), (7, 0), (7, 0)], [(0, 0)], fun xs ys s => fX12_canEnter_40 kb (xs.getD 0 0) (xs.getD 1 0) (ys.getD 0 0) s) :: tX12_canEnter_40 kb
noncomputable def tX12_canEnter_0 (kb : Co) : List Rw := (39, [(3, 12), (0, 0), (7, 0), (7, 0), (7, 0)], [], fun xs ys s => fX12_canEnter_39 kb (xs.getD 0 0) (xs.getD 1 0) s) :: tX12_canEnter_39 kb
noncomputable def rX12_canEnter (kb : Co) : List Rw := (0, [(3, 12), (0, 0), (7, 0), (7, 0), (7, 0)], [], fun xs ys s => fX12_canEnter_0 kb (xs.getD 0 0) (xs.getD 1 0) s) :: tX12_canEnter_0 kb
noncomputable def kX12_canEnter : Nat → Co
  | 0 => nk
  | n + 1 => fam (rX12_canEnter (kX12_canEnter n)) nk
noncomputable def FX12_canEnter (a0 a1 : Int) (s : St) : Res := fX12_canEnter_0 (kX12_canEnter 9999) a0 a1 s
noncomputable def gX12_canEnter : Fn := fun xs s => FX12_canEnter (xs.getD 0 0) (xs.getD 1 0) s
noncomputable def mdX12_canEnter : MD := ([(3, 12), (0, 0)], (0, 0), yX12_canEnter, cX12_canEnter, (5, (some .boolean), 3, 74, []))
-- FloatparadeModel.enter(II)I
noncomputable def fX12_enter_50 (kb : Co) (a0 a1 a2 : Int) (s : St) : Res := if (0 ≤ a1 ∧ a1 < 10) ∧ ((1 : Int) = 0 ∨ (1 : Int) = 1) then if 0 ≤ a1 ∧ a1 < 10 then if 0 ≤ a1 ∧ a1 < 10 then bnd (FX12_findsOrder a0 (gm (pm (pm s 124 a0 a1 1) 125 a0 a1 a2) 102 a0 a1) (pm (pm s 124 a0 a1 1) 125 a0 a1 a2)) fun _ s1 => if 0 ≤ a1 ∧ a1 < 10 then if 0 ≤ (gm s1 102 a0 a1) ∧ (gm s1 102 a0 a1) < 2 then some (0, (gm s1 126 a0 (gm s1 102 a0 a1)), s1) else none else none else none else none else none
noncomputable def fX12_enter_42 (kb : Co) (a0 a1 a2 y0 y1 : Int) (s : St) : Res := bnd (FX12_holds y1 y0 s) fun x1 s1 => if x1 = 0 then some (0, 0, s1) else fX12_enter_50 kb a0 a1 a2 s1
noncomputable def fX12_enter_41 (kb : Co) (a0 a1 a2 y0 : Int) (s : St) : Res := fX12_enter_42 kb a0 a1 a2 3 y0 s
noncomputable def fX12_enter_29 (kb : Co) (a0 a1 a2 y0 : Int) (s : St) : Res := bnd (FX12_canEnter a0 a1 s) fun x1 s1 => if x1 = 0 then fX12_enter_41 kb a0 a1 a2 y0 s1 else fX12_enter_42 kb a0 a1 a2 0 y0 s1
noncomputable def fX12_enter_15 (kb : Co) (a0 a1 a2 y0 : Int) (s : St) : Res := bnd (FX12_in a2 0 99 s) fun x1 s1 => if x1 = 0 then fX12_enter_42 kb a0 a1 a2 2 y0 s1 else fX12_enter_29 kb a0 a1 a2 y0 s1
noncomputable def fX12_enter_0 (kb : Co) (a0 a1 a2 : Int) (s : St) : Res := bnd (FX12_isSociety a0 a1 s) fun x1 s1 => if x1 = 0 then fX12_enter_42 kb a0 a1 a2 1 a0 s1 else fX12_enter_15 kb a0 a1 a2 a0 s1
noncomputable def tX12_enter_50 (kb : Co) : List Rw := []
noncomputable def tX12_enter_42 (kb : Co) : List Rw := (50, [(3, 12), (0, 0), (0, 0), (7, 0)], [], fun xs ys s => fX12_enter_50 kb (xs.getD 0 0) (xs.getD 1 0) (xs.getD 2 0) s) :: tX12_enter_50 kb
noncomputable def tX12_enter_41 (kb : Co) : List Rw := (42, [(3, 12), (0, 0), (0, 0), (7, 0)], [(0, 0), (3, 12)], fun xs ys s => fX12_enter_42 kb (xs.getD 0 0) (xs.getD 1 0) (xs.getD 2 0) (ys.getD 0 0) (ys.getD 1 0) s) :: tX12_enter_42 kb
noncomputable def tX12_enter_29 (kb : Co) : List Rw := (41, [(3, 12), (0, 0), (0, 0), (7, 0)], [(3, 12)], fun xs ys s => fX12_enter_41 kb (xs.getD 0 0) (xs.getD 1 0) (xs.getD 2 0) (ys.getD 0 0) s) :: tX12_enter_41 kb
noncomputable def tX12_enter_15 (kb : Co) : List Rw := (29, [(3, 12), (0, 0), (0, 0), (7, 0)], [(3, 12)], fun xs ys s => fX12_enter_29 kb (xs.getD 0 0) (xs.getD 1 0) (xs.getD 2 0) (ys.getD 0 0) s) :: tX12_enter_29 kb
noncomputable def tX12_enter_0 (kb : Co) : List Rw := (15, [(3, 12), (0, 0), (0, 0), (7, 0)], [(3, 12)], fun xs ys s => fX12_enter_15 kb (xs.getD 0 0) (xs.getD 1 0) (xs.getD 2 0) (ys.getD 0 0) s) :: tX12_enter_15 kb
noncomputable def rX12_enter (kb : Co) : List Rw := (0, [(3, 12), (0, 0), (0, 0), (7, 0)], [], fun xs ys s => fX12_enter_0 kb (xs.getD 0 0) (xs.getD 1 0) (xs.getD 2 0) s) :: tX12_enter_0 kb
noncomputable def kX12_enter : Nat → Co
  | 0 => nk
  | n + 1 => fam (rX12_enter (kX12_enter n)) nk
noncomputable def FX12_enter (a0 a1 a2 : Int) (s : St) : Res := fX12_enter_0 (kX12_enter 0) a0 a1 a2 s
noncomputable def gX12_enter : Fn := fun xs s => FX12_enter (xs.getD 0 0) (xs.getD 1 0) (xs.getD 2 0) s
noncomputable def mdX12_enter : MD := ([(3, 12), (0, 0), (0, 0)], (0, 0), yX12_enter, cX12_enter, (4, (some .int), 4, 98, []))
-- FloatparadeModel.placeIn(I)I
noncomputable def fX12_placeIn_52 (kb : Co) (a3 : Int) (s : St) : Res := some (0, a3, s)
noncomputable def fX12_placeIn_45 (kb : Co) (a0 a1 a2 a4 y0 : Int) (s : St) : Res := kb 12 [(3, 12, a0), (0, 0, a1), (0, 0, a2), (0, 0, y0), (0, 0, (wr (a4 + 1)))] [] s
noncomputable def fX12_placeIn_44 (kb : Co) (a0 a1 a2 a3 a4 : Int) (s : St) : Res := fX12_placeIn_45 kb a0 a1 a2 a4 a3 s
noncomputable def fX12_placeIn_12 (kb : Co) (a0 a1 a2 a3 a4 : Int) (s : St) : Res := if 0 ≤ a2 ∧ a2 < 2 then if a4 < (gm s 126 a0 a2) then (if 0 ≤ (wr ((wr (10 * a2)) + a4)) ∧ (wr ((wr (10 * a2)) + a4)) < 20 then if (gm s 127 a0 (wr ((wr (10 * a2)) + a4))) = a1 then fX12_placeIn_45 kb a0 a1 a2 a4 a4 s else fX12_placeIn_44 kb a0 a1 a2 a3 a4 s else none) else fX12_placeIn_52 kb a3 s else none
noncomputable def fX12_placeIn_0 (kb : Co) (a0 a1 : Int) (s : St) : Res := if 0 ≤ a1 ∧ a1 < 10 then fX12_placeIn_12 kb a0 a1 (gm s 102 a0 a1) (-1) 0 s else none
noncomputable def tX12_placeIn_52 (kb : Co) : List Rw := []
noncomputable def tX12_placeIn_45 (kb : Co) : List Rw := (52, [(7, 0), (7, 0), (7, 0), (0, 0), (7, 0)], [], fun xs ys s => fX12_placeIn_52 kb (xs.getD 0 0) s) :: tX12_placeIn_52 kb
noncomputable def tX12_placeIn_44 (kb : Co) : List Rw := (45, [(3, 12), (0, 0), (0, 0), (7, 0), (0, 0)], [(0, 0)], fun xs ys s => fX12_placeIn_45 kb (xs.getD 0 0) (xs.getD 1 0) (xs.getD 2 0) (xs.getD 3 0) (ys.getD 0 0) s) :: tX12_placeIn_45 kb
noncomputable def tX12_placeIn_12 (kb : Co) : List Rw := (44, [(3, 12), (0, 0), (0, 0), (0, 0), (0, 0)], [], fun xs ys s => fX12_placeIn_44 kb (xs.getD 0 0) (xs.getD 1 0) (xs.getD 2 0) (xs.getD 3 0) (xs.getD 4 0) s) :: tX12_placeIn_44 kb
noncomputable def tX12_placeIn_0 (kb : Co) : List Rw := (12, [(3, 12), (0, 0), (0, 0), (0, 0), (0, 0)], [], fun xs ys s => fX12_placeIn_12 kb (xs.getD 0 0) (xs.getD 1 0) (xs.getD 2 0) (xs.getD 3 0) (xs.getD 4 0) s) :: tX12_placeIn_12 kb
noncomputable def rX12_placeIn (kb : Co) : List Rw := (0, [(3, 12), (0, 0), (7, 0), (7, 0), (7, 0)], [], fun xs ys s => fX12_placeIn_0 kb (xs.getD 0 0) (xs.getD 1 0) s) :: tX12_placeIn_0 kb
noncomputable def kX12_placeIn : Nat → Co
  | 0 => nk
  | n + 1 => fam (rX12_placeIn (kX12_placeIn n)) nk
noncomputable def FX12_placeIn (a0 a1 : Int) (s : St) : Res := fX12_placeIn_0 (kX12_placeIn 9999) a0 a1 s
noncomputable def gX12_placeIn : Fn := fun xs s => FX12_placeIn (xs.getD 0 0) (xs.getD 1 0) s
noncomputable def mdX12_placeIn : MD := ([(3, 12), (0, 0)], (0, 0), yX12_placeIn, cX12_placeIn, (5, (some .int), 0, 0, []))
-- FloatparadeModel.areNeighbours(III)Z
noncomputable def fX12_areNeighbours_30 (kb : Co) (y0 : Int) (s : St) : Res := if (y0 : Int) = 0 ∨ (y0 : Int) = 1 then some (0, y0, s) else none
noncomputable def fX12_areNeighbours_29 (kb : Co) (s : St) : Res := fX12_areNeighbours_30 kb 0 s
noncomputable def fX12_areNeighbours_25 (kb : Co) (s : St) : Res := fX12_areNeighbours_30 kb 1 s
noncomputable def fX12_areNeighbours_0 (kb : Co) (a0 a2 a3 : Int) (s : St) : Res := bnd (FX12_placeIn a0 a2 s) fun x1 s1 => bnd (FX12_placeIn a0 a3 s1) fun x2 s2 => if (wr (x1 - x2)) = 1 then fX12_areNeighbours_25 kb s2 else if (wr (x1 - x2)) = (-1) then fX12_areNeighbours_25 kb s2 else fX12_areNeighbours_29 kb s2
noncomputable def tX12_areNeighbours_30 (kb : Co) : List Rw := []
noncomputable def tX12_areNeighbours_29 (kb : Co) : List Rw := (30, [(7, 0), (7, 0), (7, 0), (7, 0), (7, 0)], [(0, 0)], fun xs ys s => fX12_areNeighbours_30 kb (ys.getD 0 0) s) :: tX12_areNeighbours_30 kb
noncomputable def tX12_areNeighbours_25 (kb : Co) : List Rw := (29, [(7, 0), (7, 0), (7, 0), (7, 0), (7, 0)], [], fun xs ys s => fX12_areNeighbours_29 kb s) :: tX12_areNeighbours_29 kb
noncomputable def tX12_areNeighbours_0 (kb : Co) : List Rw := (25, [(7, 0), (7, 0), (7, 0), (7, 0), (7, 0)], [], fun xs ys s => fX12_areNeighbours_25 kb s) :: tX12_areNeighbours_25 kb
noncomputable def rX12_areNeighbours (kb : Co) : List Rw := (0, [(3, 12), (7, 0), (0, 0), (0, 0), (7, 0)], [], fun xs ys s => fX12_areNeighbours_0 kb (xs.getD 0 0) (xs.getD 1 0) (xs.getD 2 0) s) :: tX12_areNeighbours_0 kb
noncomputable def kX12_areNeighbours : Nat → Co
  | 0 => nk
  | n + 1 => fam (rX12_areNeighbours (kX12_areNeighbours n)) nk
noncomputable def FX12_areNeighbours (a0 a2 a3 : Int) (s : St) : Res := fX12_areNeighbours_0 (kX12_areNeighbours 0) a0 a2 a3 s
noncomputable def gX12_areNeighbours : Fn := fun xs s => FX12_areNeighbours (xs.getD 0 0) (xs.getD 2 0) (xs.getD 3 0) s
noncomputable def mdX12_areNeighbours : MD := ([(3, 12), (0, 0), (0, 0), (0, 0)], (0, 0), yX12_areNeighbours, cX12_areNeighbours, (5, (some .boolean), 1, 24, []))
-- FloatparadeModel.change(II)Z
noncomputable def fX12_change_304 (kb : Co) (a8 : Int) (s : St) : Res := if (a8 : Int) = 0 ∨ (a8 : Int) = 1 then some (0, a8, s) else none
noncomputable def fX12_change_289 (kb : Co) (a0 a5 a6 a7 a8 : Int) (s : St) : Res := if a8 = 0 then fX12_change_304 kb a8 s else bnd (FX12_swaps a0 a5 a6 a7 s) fun _ s1 => fX12_change_304 kb a8 s1
noncomputable def fX12_change_281 (kb : Co) (a0 a5 a6 a7 a9 y0 : Int) (s : St) : Res := kb 144 [(3, 12, a0), (7, 0, 0), (7, 0, 0), (7, 0, 0), (7, 0, 0), (0, 0, a5), (0, 0, a6), (0, 0, a7), (0, 0, y0), (0, 0, (wr (a9 + 1))), (7, 0, 0), (7, 0, 0)] [] s
noncomputable def fX12_change_280 (kb : Co) (a0 a5 a6 a7 a9 : Int) (s : St) : Res := fX12_change_281 kb a0 a5 a6 a7 a9 0 s
noncomputable def fX12_change_276 (kb : Co) (a0 a5 a6 a7 a9 : Int) (s : St) : Res := fX12_change_281 kb a0 a5 a6 a7 a9 1 s
noncomputable def fX12_change_238 (kb : Co) (a0 a5 a6 a7 a8 a9 a10 y0 y1 y2 : Int) (s : St) : Res := if 0 ≤ (wr (y1 + y0)) ∧ (wr (y1 + y0)) < 20 then if a8 = 0 then fX12_change_280 kb a0 a5 a6 a7 a9 s else if 0 ≤ (wr ((wr (10 * a10)) + (gm s 127 y2 (wr (y1 + y0))))) ∧ (wr ((wr (10 * a10)) + (gm s 127 y2 (wr (y1 + y0))))) < 100 then if (gm s 105 a0 (wr ((wr (10 * a10)) + (gm s 127 y2 (wr (y1 + y0)))))) = 0 then fX12_change_276 kb a0 a5 a6 a7 a9 s else bnd (FX12_areNeighbours a0 a10 (gm s 127 y2 (wr (y1 + y0))) s) fun x1 s1 => if x1 = 0 then fX12_change_280 kb a0 a5 a6 a7 a9 s1 else fX12_change_276 kb a0 a5 a6 a7 a9 s1 else none else none
noncomputable def fX12_change_234 (kb : Co) (a0 a5 a6 a7 a8 a9 a10 y0 y1 : Int) (s : St) : Res := fX12_change_238 kb a0 a5 a6 a7 a8 a9 a10 (wr (a9 + 1)) y0 y1 s
noncomputable def fX12_change_220 (kb : Co) (a0 a5 a6 a7 a8 a9 a10 y0 y1 : Int) (s : St) : Res := if (wr (a9 + 1)) = a7 then fX12_change_238 kb a0 a5 a6 a7 a8 a9 a10 a6 y0 y1 s else fX12_change_234 kb a0 a5 a6 a7 a8 a9 a10 y0 y1 s
noncomputable def fX12_change_193 (kb : Co) (a0 a5 a6 a7 a8 a9 y0 y1 y2 : Int) (s : St) : Res := if 0 ≤ (wr (y1 + y0)) ∧ (wr (y1 + y0)) < 20 then if (wr (a9 + 1)) = a6 then fX12_change_238 kb a0 a5 a6 a7 a8 a9 (gm s 127 y2 (wr (y1 + y0))) a7 (wr (10 * a5)) a0 s else fX12_change_220 kb a0 a5 a6 a7 a8 a9 (gm s 127 y2 (wr (y1 + y0))) (wr (10 * a5)) a0 s else none
noncomputable def fX12_change_191 (kb : Co) (a0 a5 a6 a7 a8 a9 y0 y1 : Int) (s : St) : Res := fX12_change_193 kb a0 a5 a6 a7 a8 a9 a9 y0 y1 s
noncomputable def fX12_change_179 (kb : Co) (a0 a5 a6 a7 a8 a9 y0 y1 : Int) (s : St) : Res := if a9 = a7 then fX12_change_193 kb a0 a5 a6 a7 a8 a9 a6 y0 y1 s else fX12_change_191 kb a0 a5 a6 a7 a8 a9 y0 y1 s
noncomputable def fX12_change_144 (kb : Co) (a0 a5 a6 a7 a8 a9 : Int) (s : St) : Res := if 0 ≤ a5 ∧ a5 < 2 then if a9 < (wr ((gm s 126 a0 a5) - 1)) then (if a9 = a6 then fX12_change_193 kb a0 a5 a6 a7 a8 a9 a7 (wr (10 * a5)) a0 s else fX12_change_179 kb a0 a5 a6 a7 a8 a9 (wr (10 * a5)) a0 s) else fX12_change_289 kb a0 a5 a6 a7 a8 s else none
noncomputable def fX12_change_116 (kb : Co) (a0 a1 a2 : Int) (s : St) : Res := if 0 ≤ a1 ∧ a1 < 10 then bnd (FX12_placeIn a0 a1 s) fun x1 s1 => bnd (FX12_placeIn a0 a2 s1) fun x2 s2 => fX12_change_144 kb a0 (gm s 102 a0 a1) x1 x2 1 0 s2 else none
noncomputable def fX12_change_108 (kb : Co) (a0 a1 a2 y0 y1 : Int) (s : St) : Res := bnd (FX12_holds y1 y0 s) fun x1 s1 => if x1 = 0 then (if (0 : Int) = 0 ∨ (0 : Int) = 1 then some (0, 0, s1) else none) else fX12_change_116 kb a0 a1 a2 s1
noncomputable def fX12_change_107 (kb : Co) (a0 a1 a2 y0 : Int) (s : St) : Res := fX12_change_108 kb a0 a1 a2 3 y0 s
noncomputable def fX12_change_98 (kb : Co) (a0 a1 a2 a4 y0 : Int) (s : St) : Res := if a4 = 0 then fX12_change_107 kb a0 a1 a2 y0 s else fX12_change_108 kb a0 a1 a2 0 y0 s
noncomputable def fX12_change_89 (kb : Co) (a0 a1 a2 a4 y0 : Int) (s : St) : Res := if a1 = a2 then fX12_change_108 kb a0 a1 a2 2 y0 s else fX12_change_98 kb a0 a1 a2 a4 y0 s
noncomputable def fX12_change_78 (kb : Co) (a0 a1 a2 a3 y0 : Int) (s : St) : Res := if a3 = 0 then fX12_change_108 kb a0 a1 a2 1 a0 s else fX12_change_89 kb a0 a1 a2 y0 a0 s
noncomputable def fX12_change_77 (kb : Co) (a0 a1 a2 a3 : Int) (s : St) : Res := fX12_change_78 kb a0 a1 a2 a3 0 s
noncomputable def fX12_change_21 (kb : Co) (a0 a1 a2 y0 : Int) (s : St) : Res := if y0 = 0 then fX12_change_77 kb a0 a1 a2 y0 s else if 0 ≤ a1 ∧ a1 < 10 then if (gm s 124 a0 a1) = 0 then fX12_change_77 kb a0 a1 a2 y0 s else if 0 ≤ a2 ∧ a2 < 10 then if (gm s 124 a0 a2) = 0 then fX12_change_77 kb a0 a1 a2 y0 s else if 0 ≤ a1 ∧ a1 < 10 then if 0 ≤ a2 ∧ a2 < 10 then if (gm s 102 a0 a1) = (gm s 102 a0 a2) then (if 0 ≤ a1 ∧ a1 < 10 then if 0 ≤ (gm s 102 a0 a1) ∧ (gm s 102 a0 a1) < 2 then if (gm s 130 a0 (gm s 102 a0 a1)) = 0 then fX12_change_78 kb a0 a1 a2 y0 1 s else fX12_change_77 kb a0 a1 a2 y0 s else none else none) else fX12_change_77 kb a0 a1 a2 y0 s else none else none else none else none
noncomputable def fX12_change_20 (kb : Co) (a0 a1 a2 : Int) (s : St) : Res := fX12_change_21 kb a0 a1 a2 0 s
noncomputable def fX12_change_0 (kb : Co) (a0 a1 a2 : Int) (s : St) : Res := bnd (FX12_isSociety a0 a1 s) fun x1 s1 => if x1 = 0 then fX12_change_20 kb a0 a1 a2 s1 else bnd (FX12_isSociety a0 a2 s1) fun x2 s2 => if x2 = 0 then fX12_change_20 kb a0 a1 a2 s2 else fX12_change_21 kb a0 a1 a2 1 s2
noncomputable def tX12_change_304 (kb : Co) : List Rw := []
noncomputable def tX12_change_289 (kb : Co) : List Rw := (304, [(7, 0), (7, 0), (7, 0), (7, 0), (7, 0), (7, 0), (7, 0), (7, 0), (0, 0), (7, 0), (7, 0), (7, 0)], [], fun xs ys s => fX12_change_304 kb (xs.getD 0 0) s) :: tX12_change_304 kb
noncomputable def tX12_change_281 (kb : Co) : List Rw := (289, [(3, 12), (7, 0), (7, 0), (7, 0), (7, 0), (0, 0), (0, 0), (0, 0), (0, 0), (7, 0), (7, 0), (7, 0)], [], fun xs ys s => fX12_change_289 kb (xs.getD 0 0) (xs.getD 1 0) (xs.getD 2 0) (xs.getD 3 0) (xs.getD 4 0) s) :: tX12_change_289 kb
noncomputable def tX12_change_280 (kb : Co) : List Rw := (281, [(3, 12), (7, 0), (7, 0), (7, 0), (7, 0), (0, 0), (0, 0), (0, 0), (7, 0), (0, 0), (7, 0), (7, 0)], [(0, 0)], fun xs ys s => fX12_change_281 kb (xs.getD 0 0) (xs.getD 1 0) (xs.getD 2 0) (xs.getD 3 0) (xs.getD 4 0) (ys.getD 0 0) s) :: tX12_change_281 kb
noncomputable def tX12_change_276 (kb : Co) : List Rw := (280, [(3, 12), (7, 0), (7, 0), (7, 0), (7, 0), (0, 0), (0, 0), (0, 0), (7, 0), (0, 0), (7, 0), (7, 0)], [], fun xs ys s => fX12_change_280 kb (xs.getD 0 0) (xs.getD 1 0) (xs.getD 2 0) (xs.getD 3 0) (xs.getD 4 0) s) :: tX12_change_280 kb
noncomputable def tX12_change_238 (kb : Co) : List Rw := (276, [(3, 12), (7, 0), (7, 0), (7, 0), (7, 0), (0, 0), (0, 0), (0, 0), (7, 0), (0, 0), (7, 0), (7, 0)], [], fun xs ys s => fX12_change_276 kb (xs.getD 0 0) (xs.getD 1 0) (xs.getD 2 0) (xs.getD 3 0) (xs.getD 4 0) s) :: tX12_change_276 kb
noncomputable def tX12_change_234 (kb : Co) : List Rw := (238, [(3, 12), (7, 0), (7, 0), (7, 0), (7, 0), (0, 0), (0, 0), (0, 0), (0, 0), (0, 0), (0, 0), (7, 0)], [(0, 0), (0, 0), (3, 127)], fun xs ys s => fX12_change_238 kb (xs.getD 0 0) (xs.getD 1 0) (xs.getD 2 0) (xs.getD 3 0) (xs.getD 4 0) (xs.getD 5 0) (xs.getD 6 0) (ys.getD 0 0) (ys.getD 1 0) (ys.getD 2 0) s) :: tX12_change_238 kb
noncomputable def tX12_change_220 (kb : Co) : List Rw := (234, [(3, 12), (7, 0), (7, 0), (7, 0), (7, 0), (0, 0), (0, 0), (0, 0), (0, 0), (0, 0), (0, 0), (7, 0)], [(0, 0), (3, 127)], fun xs ys s => fX12_change_234 kb (xs.getD 0 0) (xs.getD 1 0) (xs.getD 2 0) (xs.getD 3 0) (xs.getD 4 0) (xs.getD 5 0) (xs.getD 6 0) (ys.getD 0 0) (ys.getD 1 0) s) :: tX12_change_234 kb
noncomputable def tX12_change_193 (kb : Co) : List Rw := (220, [(3, 12), (7, 0), (7, 0), (7, 0), (7, 0), (0, 0), (0, 0), (0, 0), (0, 0), (0, 0), (0, 0), (7, 0)], [(0, 0), (3, 127)], fun xs ys s => fX12_change_220 kb (xs.getD 0 0) (xs.getD 1 0) (xs.getD 2 0) (xs.getD 3 0) (xs.getD 4 0) (xs.getD 5 0) (xs.getD 6 0) (ys.getD 0 0) (ys.getD 1 0) s) :: tX12_change_220 kb
noncomputable def tX12_change_191 (kb : Co) : List Rw := (193, [(3, 12), (7, 0), (7, 0), (7, 0), (7, 0), (0, 0), (0, 0), (0, 0), (0, 0), (0, 0), (7, 0), (7, 0)], [(0, 0), (0, 0), (3, 127)], fun xs ys s => fX12_change_193 kb (xs.getD 0 0) (xs.getD 1 0) (xs.getD 2 0) (xs.getD 3 0) (xs.getD 4 0) (xs.getD 5 0) (ys.getD 0 0) (ys.getD 1 0) (ys.getD 2 0) s) :: tX12_change_193 kb
noncomputable def tX12_change_179 (kb : Co) : List Rw := (191, [(3, 12), (7, 0), (7, 0), (7, 0), (7, 0), (0, 0), (0, 0), (0, 0), (0, 0), (0, 0), (7, 0), (7, 0)], [(0, 0), (3, 127)], fun xs ys s => fX12_change_191 kb (xs.getD 0 0) (xs.getD 1 0) (xs.getD 2 0) (xs.getD 3 0) (xs.getD 4 0) (xs.getD 5 0) (ys.getD 0 0) (ys.getD 1 0) s) :: tX12_change_191 kb
noncomputable def tX12_change_144 (kb : Co) : List Rw := (179, [(3, 12), (7, 0), (7, 0), (7, 0), (7, 0), (0, 0), (0, 0), (0, 0), (0, 0), (0, 0), (7, 0), (7, 0)], [(0, 0), (3, 127)], fun xs ys s => fX12_change_179 kb (xs.getD 0 0) (xs.getD 1 0) (xs.getD 2 0) (xs.getD 3 0) (xs.getD 4 0) (xs.getD 5 0) (ys.getD 0 0) (ys.getD 1 0) s) :: tX12_change_179 kb
noncomputable def tX12_change_116 (kb : Co) : List Rw := (144, [(3, 12), (7, 0), (7, 0), (7, 0), (7, 0), (0, 0), (0, 0), (0, 0), (0, 0), (0, 0), (7, 0), (7, 0)], [], fun xs ys s => fX12_change_144 kb (xs.getD 0 0) (xs.getD 1 0) (xs.getD 2 0) (xs.getD 3 0) (xs.getD 4 0) (xs.getD 5 0) s) :: tX12_change_144 kb
noncomputable def tX12_change_108 (kb : Co) : List Rw := (116, [(3, 12), (0, 0), (0, 0), (7, 0), (7, 0), (7, 0), (7, 0), (7, 0), (7, 0), (7, 0), (7, 0), (7, 0)], [], fun xs ys s => fX12_change_116 kb (xs.getD 0 0) (xs.getD 1 0) (xs.getD 2 0) s) :: tX12_change_116 kb
noncomputable def tX12_change_107 (kb : Co) : List Rw := (108, [(3, 12), (0, 0), (0, 0), (7, 0), (7, 0), (7, 0), (7, 0), (7, 0), (7, 0), (7, 0), (7, 0), (7, 0)], [(0, 0), (3, 12)], fun xs ys s => fX12_change_108 kb (xs.getD 0 0) (xs.getD 1 0) (xs.getD 2 0) (ys.getD 0 0) (ys.getD 1 0) s) :: tX12_change_108 kb
noncomputable def tX12_change_98 (kb : Co) : List Rw := (107, [(3, 12), (0, 0), (0, 0), (7, 0), (7, 0), (7, 0), (7, 0), (7, 0), (7, 0), (7, 0), (7, 0), (7, 0)], [(3, 12)], fun xs ys s => fX12_change_107 kb (xs.getD 0 0) (xs.getD 1 0) (xs.getD 2 0) (ys.getD 0 0) s) :: tX12_change_107 kb
noncomputable def tX12_change_89 (kb : Co) : List Rw := (98, [(3, 12), (0, 0), (0, 0), (7, 0), (0, 0), (7, 0), (7, 0), (7, 0), (7, 0), (7, 0), (7, 0), (7, 0)], [(3, 12)], fun xs ys s => fX12_change_98 kb (xs.getD 0 0) (xs.getD 1 0) (xs.getD 2 0) (xs.getD 3 0) (ys.getD 0 0) s) :: tX12_change_98 kb
noncomputable def tX12_change_78 (kb : Co) : List Rw := (89, [(3, 12), (0, 0), (0, 0), (7, 0), (0, 0), (7, 0), (7, 0), (7, 0), (7, 0), (7, 0), (7, 0), (7, 0)], [(3, 12)], fun xs ys s => fX12_change_89 kb (xs.getD 0 0) (xs.getD 1 0) (xs.getD 2 0) (xs.getD 3 0) (ys.getD 0 0) s) :: tX12_change_89 kb
noncomputable def tX12_change_77 (kb : Co) : List Rw := (78, [(3, 12), (0, 0), (0, 0), (0, 0), (7, 0), (7, 0), (7, 0), (7, 0), (7, 0), (7, 0), (7, 0), (7, 0)], [(0, 0)], fun xs ys s => fX12_change_78 kb (xs.getD 0 0) (xs.getD 1 0) (xs.getD 2 0) (xs.getD 3 0) (ys.getD 0 0) s) :: tX12_change_78 kb
noncomputable def tX12_change_21 (kb : Co) : List Rw := (77, [(3, 12), (0, 0), (0, 0), (0, 0), (7, 0), (7, 0), (7, 0), (7, 0), (7, 0), (7, 0), (7, 0), (7, 0)], [], fun xs ys s => fX12_change_77 kb (xs.getD 0 0) (xs.getD 1 0) (xs.getD 2 0) (xs.getD 3 0) s) :: tX12_change_77 kb
noncomputable def tX12_change_20 (kb : Co) : List Rw := (21, [(3, 12), (0, 0), (0, 0), (7, 0), (7, 0), (7, 0), (7, 0), (7, 0), (7, 0), (7, 0), (7, 0), (7, 0)], [(0, 0)], fun xs ys s => fX12_change_21 kb (xs.getD 0 0) (xs.getD 1 0) (xs.getD 2 0) (ys.getD 0 0) s) :: tX12_change_21 kb
noncomputable def tX12_change_0 (kb : Co) : List Rw := (20, [(3, 12), (0, 0), (0, 0), (7, 0), (7, 0), (7, 0), (7, 0), (7, 0), (7, 0), (7, 0), (7, 0), (7, 0)], [], fun xs ys s => fX12_change_20 kb (xs.getD 0 0) (xs.getD 1 0) (xs.getD 2 0) s) :: tX12_change_20 kb
noncomputable def rX12_change (kb : Co) : List Rw := (0, [(3, 12), (0, 0), (0, 0), (7, 0), (7, 0), (7, 0), (7, 0), (7, 0), (7, 0), (7, 0), (7, 0), (7, 0)], [], fun xs ys s => fX12_change_0 kb (xs.getD 0 0) (xs.getD 1 0) (xs.getD 2 0) s) :: tX12_change_0 kb
noncomputable def kX12_change : Nat → Co
  | 0 => nk
  | n + 1 => fam (rX12_change (kX12_change n)) nk
noncomputable def FX12_change (a0 a1 a2 : Int) (s : St) : Res := fX12_change_0 (kX12_change 9999) a0 a1 a2 s
noncomputable def gX12_change : Fn := fun xs s => FX12_change (xs.getD 0 0) (xs.getD 1 0) (xs.getD 2 0) s
noncomputable def mdX12_change : MD := ([(3, 12), (0, 0), (0, 0)], (0, 0), yX12_change, cX12_change, (12, (some .boolean), 2, 48, []))
-- FloatparadeModel.order(II)I
noncomputable def fX12_order_54 (kb : Co) (y0 : Int) (s : St) : Res := some (0, y0, s)
noncomputable def fX12_order_53 (kb : Co) (s : St) : Res := fX12_order_54 kb (-1) s
noncomputable def fX12_order_29 (kb : Co) (a0 a1 a2 : Int) (s : St) : Res := if 0 ≤ a1 ∧ a1 < 2 then if a2 < (gm s 126 a0 a1) then (if 0 ≤ (wr ((wr (10 * a1)) + a2)) ∧ (wr ((wr (10 * a1)) + a2)) < 20 then fX12_order_54 kb (gm s 127 a0 (wr ((wr (10 * a1)) + a2))) s else none) else fX12_order_53 kb s else none
noncomputable def fX12_order_21 (kb : Co) (a0 a1 a2 y0 y1 : Int) (s : St) : Res := bnd (FX12_holds y1 y0 s) fun x1 s1 => if x1 = 0 then some (0, 0, s1) else fX12_order_29 kb a0 a1 a2 s1
noncomputable def fX12_order_20 (kb : Co) (a0 a1 a2 y0 : Int) (s : St) : Res := fX12_order_21 kb a0 a1 a2 2 y0 s
noncomputable def fX12_order_9 (kb : Co) (a0 a1 a2 y0 : Int) (s : St) : Res := bnd (FX12_isLeague a1 s) fun x1 s1 => if x1 = 0 then fX12_order_20 kb a0 a1 a2 y0 s1 else fX12_order_21 kb a0 a1 a2 0 y0 s1
noncomputable def fX12_order_0 (kb : Co) (a0 a1 a2 : Int) (s : St) : Res := if a2 < 0 then fX12_order_21 kb a0 a1 a2 1 a0 s else fX12_order_9 kb a0 a1 a2 a0 s
noncomputable def tX12_order_54 (kb : Co) : List Rw := []
noncomputable def tX12_order_53 (kb : Co) : List Rw := (54, [(7, 0), (7, 0), (7, 0)], [(0, 0)], fun xs ys s => fX12_order_54 kb (ys.getD 0 0) s) :: tX12_order_54 kb
noncomputable def tX12_order_29 (kb : Co) : List Rw := (53, [(7, 0), (7, 0), (7, 0)], [], fun xs ys s => fX12_order_53 kb s) :: tX12_order_53 kb
noncomputable def tX12_order_21 (kb : Co) : List Rw := (29, [(3, 12), (0, 0), (0, 0)], [], fun xs ys s => fX12_order_29 kb (xs.getD 0 0) (xs.getD 1 0) (xs.getD 2 0) s) :: tX12_order_29 kb
noncomputable def tX12_order_20 (kb : Co) : List Rw := (21, [(3, 12), (0, 0), (0, 0)], [(0, 0), (3, 12)], fun xs ys s => fX12_order_21 kb (xs.getD 0 0) (xs.getD 1 0) (xs.getD 2 0) (ys.getD 0 0) (ys.getD 1 0) s) :: tX12_order_21 kb
noncomputable def tX12_order_9 (kb : Co) : List Rw := (20, [(3, 12), (0, 0), (0, 0)], [(3, 12)], fun xs ys s => fX12_order_20 kb (xs.getD 0 0) (xs.getD 1 0) (xs.getD 2 0) (ys.getD 0 0) s) :: tX12_order_20 kb
noncomputable def tX12_order_0 (kb : Co) : List Rw := (9, [(3, 12), (0, 0), (0, 0)], [(3, 12)], fun xs ys s => fX12_order_9 kb (xs.getD 0 0) (xs.getD 1 0) (xs.getD 2 0) (ys.getD 0 0) s) :: tX12_order_9 kb
noncomputable def rX12_order (kb : Co) : List Rw := (0, [(3, 12), (0, 0), (0, 0)], [], fun xs ys s => fX12_order_0 kb (xs.getD 0 0) (xs.getD 1 0) (xs.getD 2 0) s) :: tX12_order_0 kb
noncomputable def kX12_order : Nat → Co
  | 0 => nk
  | n + 1 => fam (rX12_order (kX12_order n)) nk
noncomputable def FX12_order (a0 a1 a2 : Int) (s : St) : Res := fX12_order_0 (kX12_order 0) a0 a1 a2 s
noncomputable def gX12_order : Fn := fun xs s => FX12_order (xs.getD 0 0) (xs.getD 1 0) (xs.getD 2 0) s
noncomputable def mdX12_order : MD := ([(3, 12), (0, 0), (0, 0)], (0, 0), yX12_order, cX12_order, (3, (some .int), 2, 42, []))
-- FloatparadeModel.adds(IIII)V
noncomputable def fX12_adds_0 (kb : Co) (a0 a1 a2 a3 a4 : Int) (s : St) : Res := if 0 ≤ a1 ∧ a1 < 2 then if 0 ≤ (wr ((wr (60 * a1)) + (gm s 134 a0 a1))) ∧ (wr ((wr (60 * a1)) + (gm s 134 a0 a1))) < 120 then if 0 ≤ (wr ((wr (60 * a1)) + (gm s 134 a0 a1))) ∧ (wr ((wr (60 * a1)) + (gm s 134 a0 a1))) < 120 then if 0 ≤ (wr ((wr (60 * a1)) + (gm s 134 a0 a1))) ∧ (wr ((wr (60 * a1)) + (gm s 134 a0 a1))) < 120 then if 0 ≤ (wr ((wr (60 * a1)) + (gm s 134 a0 a1))) ∧ (wr ((wr (60 * a1)) + (gm s 134 a0 a1))) < 120 then if 0 ≤ (wr ((wr (60 * a1)) + (gm s 134 a0 a1))) ∧ (wr ((wr (60 * a1)) + (gm s 134 a0 a1))) < 120 then if (0 ≤ (wr ((wr (60 * a1)) + (gm s 134 a0 a1))) ∧ (wr ((wr (60 * a1)) + (gm s 134 a0 a1))) < 120) ∧ ((0 : Int) = 0 ∨ (0 : Int) = 1) then if 0 ≤ a1 ∧ a1 < 2 then if 0 ≤ a1 ∧ a1 < 2 then some (0, 0, (pm (pm (pm (pm (pm (pm (pm s 135 a0 (wr ((wr (60 * a1)) + (gm s 134 a0 a1))) a2) 136 a0 (wr ((wr (60 * a1)) + (gm s 134 a0 a1))) a3) 137 a0 (wr ((wr (60 * a1)) + (gm s 134 a0 a1))) a4) 138 a0 (wr ((wr (60 * a1)) + (gm s 134 a0 a1))) (-1)) 139 a0 (wr ((wr (60 * a1)) + (gm s 134 a0 a1))) 0) 140 a0 (wr ((wr (60 * a1)) + (gm s 134 a0 a1))) 0) 134 a0 a1 (wr ((gm (pm (pm (pm (pm (pm (pm s 135 a0 (wr ((wr (60 * a1)) + (gm s 134 a0 a1))) a2) 136 a0 (wr ((wr (60 * a1)) + (gm s 134 a0 a1))) a3) 137 a0 (wr ((wr (60 * a1)) + (gm s 134 a0 a1))) a4) 138 a0 (wr ((wr (60 * a1)) + (gm s 134 a0 a1))) (-1)) 139 a0 (wr ((wr (60 * a1)) + (gm s 134 a0 a1))) 0) 140 a0 (wr ((wr (60 * a1)) + (gm s 134 a0 a1))) 0) 134 a0 a1) + 1)))) else none else none else none else none else none else none else none else none else none
noncomputable def tX12_adds_0 (kb : Co) : List Rw := []
noncomputable def rX12_adds (kb : Co) : List Rw := (0, [(3, 12), (0, 0), (0, 0), (0, 0), (0, 0), (7, 0)], [], fun xs ys s => fX12_adds_0 kb (xs.getD 0 0) (xs.getD 1 0) (xs.getD 2 0) (xs.getD 3 0) (xs.getD 4 0) s) :: tX12_adds_0 kb
noncomputable def kX12_adds : Nat → Co
  | 0 => nk
  | n + 1 => fam (rX12_adds (kX12_adds n)) nk
noncomputable def FX12_adds (a0 a1 a2 a3 a4 : Int) (s : St) : Res := fX12_adds_0 (kX12_adds 0) a0 a1 a2 a3 a4 s
noncomputable def gX12_adds : Fn := fun xs s => FX12_adds (xs.getD 0 0) (xs.getD 1 0) (xs.getD 2 0) (xs.getD 3 0) (xs.getD 4 0) s
noncomputable def mdX12_adds : MD := ([(3, 12), (0, 0), (0, 0), (0, 0), (0, 0)], (9, 0), yX12_adds, cX12_adds, (6, none, 0, 0, []))
-- FloatparadeModel.begin(III)I
noncomputable def fX12_begin_279 (kb : Co) (a0 a1 : Int) (s : St) : Res := if 0 ≤ a1 ∧ a1 < 2 then some (0, (gm s 134 a0 a1), s) else none
noncomputable def fX12_begin_273 (kb : Co) (a0 a1 a5 : Int) (s : St) : Res := kb 144 [(3, 12, a0), (0, 0, a1), (7, 0, 0), (7, 0, 0), (7, 0, 0), (0, 0, (wr (a5 + 1))), (7, 0, 0), (7, 0, 0), (7, 0, 0)] [] s
noncomputable def fX12_begin_253 (kb : Co) (a0 a1 a5 a6 a7 : Int) (s : St) : Res := if 0 ≤ a6 ∧ a6 < 10 then if (gm s 112 a0 a6) = 0 then (bnd (FX12_adds a0 a1 a6 (-1) a7 s) fun _ s1 => fX12_begin_273 kb a0 a1 a5 s1) else fX12_begin_273 kb a0 a1 a5 s else none
noncomputable def fX12_begin_202 (kb : Co) (a0 a1 a5 a6 a7 a8 : Int) (s : St) : Res := if 0 ≤ a6 ∧ a6 < 10 then if a8 < (gm s 112 a0 a6) then (bnd (FX12_at a6 a8 s) fun x1 s1 => if 0 ≤ (wr (x1 + 3)) ∧ (wr (x1 + 3)) < 120 then bnd (FX12_adds a0 a1 a6 a8 (gm s1 113 a0 (wr (x1 + 3))) s1) fun _ s2 => bnd (FX12_adds a0 a1 a6 (-1) a7 s2) fun _ s3 => kb 202 [(3, 12, a0), (0, 0, a1), (7, 0, 0), (7, 0, 0), (7, 0, 0), (0, 0, a5), (0, 0, a6), (0, 0, a7), (0, 0, (wr (a8 + 1)))] [] s3 else none) else fX12_begin_253 kb a0 a1 a5 a6 a7 s else none
noncomputable def fX12_begin_197 (kb : Co) (a0 a1 a5 a6 y0 : Int) (s : St) : Res := fX12_begin_202 kb a0 a1 a5 a6 y0 0 s
noncomputable def fX12_begin_195 (kb : Co) (a0 a1 a5 a6 a7 : Int) (s : St) : Res := fX12_begin_197 kb a0 a1 a5 a6 a7 s
noncomputable def fX12_begin_144 (kb : Co) (a0 a1 a5 : Int) (s : St) : Res := if 0 ≤ a1 ∧ a1 < 2 then if a5 < (gm s 126 a0 a1) then (if 0 ≤ (wr ((wr (10 * a1)) + a5)) ∧ (wr ((wr (10 * a1)) + a5)) < 20 then if 0 ≤ (gm s 127 a0 (wr ((wr (10 * a1)) + a5))) ∧ (gm s 127 a0 (wr ((wr (10 * a1)) + a5))) < 10 then if 10 = 0 then none else if 9 < (wr ((idv (gm s 103 a0 (gm s 127 a0 (wr ((wr (10 * a1)) + a5)))) 10) + 1)) then fX12_begin_197 kb a0 a1 a5 (gm s 127 a0 (wr ((wr (10 * a1)) + a5))) 9 s else fX12_begin_195 kb a0 a1 a5 (gm s 127 a0 (wr ((wr (10 * a1)) + a5))) (wr ((idv (gm s 103 a0 (gm s 127 a0 (wr ((wr (10 * a1)) + a5)))) 10) + 1)) s else none else none) else fX12_begin_279 kb a0 a1 s else none
noncomputable def fX12_begin_141 (kb : Co) (a0 a1 : Int) (s : St) : Res := fX12_begin_144 kb a0 a1 0 s
noncomputable def fX12_begin_115 (kb : Co) (a0 a1 a5 : Int) (s : St) : Res := if a5 < 12 then (if 0 ≤ (wr ((wr (12 * a1)) + a5)) ∧ (wr ((wr (12 * a1)) + a5)) < 24 then kb 115 [(3, 12, a0), (0, 0, a1), (7, 0, 0), (7, 0, 0), (7, 0, 0), (0, 0, (wr (a5 + 1))), (7, 0, 0), (7, 0, 0), (7, 0, 0)] [] (pm s 141 a0 (wr ((wr (12 * a1)) + a5)) 0) else none) else fX12_begin_141 kb a0 a1 s
noncomputable def fX12_begin_77 (kb : Co) (a0 a1 a2 a3 : Int) (s : St) : Res := if 0 ≤ a1 ∧ a1 < 2 then if 0 ≤ a1 ∧ a1 < 2 then if 0 ≤ a1 ∧ a1 < 2 then if 0 ≤ a1 ∧ a1 < 2 then if 0 ≤ a1 ∧ a1 < 2 then fX12_begin_115 kb a0 a1 0 (pm (pm (pm (pm (pm s 130 a0 a1 1) 131 a0 a1 0) 132 a0 a1 a2) 133 a0 a1 a3) 134 a0 a1 0) else none else none else none else none else none
noncomputable def fX12_begin_69 (kb : Co) (a0 a1 a2 a3 y0 y1 : Int) (s : St) : Res := bnd (FX12_holds y1 y0 s) fun x1 s1 => if x1 = 0 then some (0, 0, s1) else fX12_begin_77 kb a0 a1 a2 a3 s1
noncomputable def fX12_begin_68 (kb : Co) (a0 a1 a2 a3 y0 : Int) (s : St) : Res := fX12_begin_69 kb a0 a1 a2 a3 0 y0 s
noncomputable def fX12_begin_64 (kb : Co) (a0 a1 a2 a3 y0 : Int) (s : St) : Res := fX12_begin_69 kb a0 a1 a2 a3 2 y0 s
noncomputable def fX12_begin_46 (kb : Co) (a0 a1 a2 a3 y0 : Int) (s : St) : Res := if 0 ≤ a1 ∧ a1 < 2 then if 0 < (gm s 130 a0 a1) then fX12_begin_64 kb a0 a1 a2 a3 y0 s else if 0 ≤ a1 ∧ a1 < 2 then if (gm s 126 a0 a1) = 0 then fX12_begin_64 kb a0 a1 a2 a3 y0 s else fX12_begin_68 kb a0 a1 a2 a3 y0 s else none else none
noncomputable def fX12_begin_34 (kb : Co) (a0 a1 a2 a3 y0 : Int) (s : St) : Res := if y0 = 0 then fX12_begin_69 kb a0 a1 a2 a3 1 a0 s else fX12_begin_46 kb a0 a1 a2 a3 a0 s
noncomputable def fX12_begin_33 (kb : Co) (a0 a1 a2 a3 : Int) (s : St) : Res := fX12_begin_34 kb a0 a1 a2 a3 0 s
noncomputable def fX12_begin_0 (kb : Co) (a0 a1 a2 a3 : Int) (s : St) : Res := bnd (FX12_isLeague a1 s) fun x1 s1 => if x1 = 0 then fX12_begin_33 kb a0 a1 a2 a3 s1 else bnd (FX12_in a2 1 200 s1) fun x2 s2 => if x2 = 0 then fX12_begin_33 kb a0 a1 a2 a3 s2 else bnd (FX12_in a3 a2 200 s2) fun x3 s3 => if x3 = 0 then fX12_begin_33 kb a0 a1 a2 a3 s3 else fX12_begin_34 kb a0 a1 a2 a3 1 s3
noncomputable def tX12_begin_279 (kb : Co) : List Rw := []
noncomputable def tX12_begin_273 (kb : Co) : List Rw := (279, [(3, 12), (0, 0), (7, 0), (7, 0), (7, 0), (7, 0), (7, 0), (7, 0), (7, 0)], [], fun xs ys s => fX12_begin_279 kb (xs.getD 0 0) (xs.getD 1 0) s) :: tX12_begin_279 kb
noncomputable def tX12_begin_253 (kb : Co) : List Rw := (273, [(3, 12), (0, 0), (7, 0), (7, 0), (7, 0), (0, 0), (7, 0), (7, 0), (7, 0)], [], fun xs ys s => fX12_begin_273 kb (xs.getD 0 0) (xs.getD 1 0) (xs.getD 2 0) s) :: tX12_begin_273 kb
noncomputable def tX12_begin_202 (kb : Co) : List Rw := (253, [(3, 12), (0, 0), (7, 0), (7, 0), (7, 0), (0, 0), (0, 0), (0, 0), (7, 0)], [], fun xs ys s => fX12_begin_253 kb (xs.getD 0 0) (xs.getD 1 0) (xs.getD 2 0) (xs.getD 3 0) (xs.getD 4 0) s) :: tX12_begin_253 kb
noncomputable def tX12_begin_197 (kb : Co) : List Rw := (202, [(3, 12), (0, 0), (7, 0), (7, 0), (7, 0), (0, 0), (0, 0), (0, 0), (0, 0)], [], fun xs ys s => fX12_begin_202 kb (xs.getD 0 0) (xs.getD 1 0) (xs.getD 2 0) (xs.getD 3 0) (xs.getD 4 0) (xs.getD 5 0) s) :: tX12_begin_202 kb
noncomputable def tX12_begin_195 (kb : Co) : List Rw := (197, [(3, 12), (0, 0), (7, 0), (7, 0), (7, 0), (0, 0), (0, 0), (7, 0), (7, 0)], [(0, 0)], fun xs ys s => fX12_begin_197 kb (xs.getD 0 0) (xs.getD 1 0) (xs.getD 2 0) (xs.getD 3 0) (ys.getD 0 0) s) :: tX12_begin_197 kb
noncomputable def tX12_begin_144 (kb : Co) : List Rw := (195, [(3, 12), (0, 0), (7, 0), (7, 0), (7, 0), (0, 0), (0, 0), (0, 0), (7, 0)], [], fun xs ys s => fX12_begin_195 kb (xs.getD 0 0) (xs.getD 1 0) (xs.getD 2 0) (xs.getD 3 0) (xs.getD 4 0) s) :: tX12_begin_195 kb
noncomputable def tX12_begin_141 (kb : Co) : List Rw := (144, [(3, 12), (0, 0), (7, 0), (7, 0), (7, 0), (0, 0), (7, 0), (7, 0), (7, 0)], [], fun xs ys s => fX12_begin_144 kb (xs.getD 0 0) (xs.getD 1 0) (xs.getD 2 0) s) :: tX12_begin_144 kb
noncomputable def tX12_begin_115 (kb : Co) : List Rw := (141, [(3, 12), (0, 0), (7, 0), (7, 0), (7, 0), (7, 0), (7, 0), (7, 0), (7, 0)], [], fun xs ys s => fX12_begin_141 kb (xs.getD 0 0) (xs.getD 1 0) s) :: tX12_begin_141 kb
noncomputable def tX12_begin_77 (kb : Co) : List Rw := (115, [(3, 12), (0, 0), (7, 0), (7, 0), (7, 0), (0, 0), (7, 0), (7, 0), (7, 0)], [], fun xs ys s => fX12_begin_115 kb (xs.getD 0 0) (xs.getD 1 0) (xs.getD 2 0) s) :: tX12_begin_115 kb
noncomputable def tX12_begin_69 (kb : Co) : List Rw := (77, [(3, 12), (0, 0), (0, 0), (0, 0), (7, 0), (7, 0), (7, 0), (7, 0), (7, 0)], [], fun xs ys s => fX12_begin_77 kb (xs.getD 0 0) (xs.getD 1 0) (xs.getD 2 0) (xs.getD 3 0) s) :: tX12_begin_77 kb
noncomputable def tX12_begin_68 (kb : Co) : List Rw := (69, [(3, 12), (0, 0), (0, 0), (0, 0), (7, 0), (7, 0), (7, 0), (7, 0), (7, 0)], [(0, 0), (3, 12)], fun xs ys s => fX12_begin_69 kb (xs.getD 0 0) (xs.getD 1 0) (xs.getD 2 0) (xs.getD 3 0) (ys.getD 0 0) (ys.getD 1 0) s) :: tX12_begin_69 kb
noncomputable def tX12_begin_64 (kb : Co) : List Rw := (68, [(3, 12), (0, 0), (0, 0), (0, 0), (7, 0), (7, 0), (7, 0), (7, 0), (7, 0)], [(3, 12)], fun xs ys s => fX12_begin_68 kb (xs.getD 0 0) (xs.getD 1 0) (xs.getD 2 0) (xs.getD 3 0) (ys.getD 0 0) s) :: tX12_begin_68 kb
noncomputable def tX12_begin_46 (kb : Co) : List Rw := (64, [(3, 12), (0, 0), (0, 0), (0, 0), (7, 0), (7, 0), (7, 0), (7, 0), (7, 0)], [(3, 12)], fun xs ys s => fX12_begin_64 kb (xs.getD 0 0) (xs.getD 1 0) (xs.getD 2 0) (xs.getD 3 0) (ys.getD 0 0) s) :: tX12_begin_64 kb
noncomputable def tX12_begin_34 (kb : Co) : List Rw := (46, [(3, 12), (0, 0), (0, 0), (0, 0), (7, 0), (7, 0), (7, 0), (7, 0), (7, 0)], [(3, 12)], fun xs ys s => fX12_begin_46 kb (xs.getD 0 0) (xs.getD 1 0) (xs.getD 2 0) (xs.getD 3 0) (ys.getD 0 0) s) :: tX12_begin_46 kb
noncomputable def tX12_begin_33 (kb : Co) : List Rw := (34, [(3, 12), (0, 0), (0, 0), (0, 0), (7, 0), (7, 0), (7, 0), (7, 0), (7, 0)], [(0, 0)], fun xs ys s => fX12_begin_34 kb (xs.getD 0 0) (xs.getD 1 0) (xs.getD 2 0) (xs.getD 3 0) (ys.getD 0 0) s) :: tX12_begin_34 kb
noncomputable def tX12_begin_0 (kb : Co) : List Rw := (33, [(3, 12), (0, 0), (0, 0), (0, 0), (7, 0), (7, 0), (7, 0), (7, 0), (7, 0)], [], fun xs ys s => fX12_begin_33 kb (xs.getD 0 0) (xs.getD 1 0) (xs.getD 2 0) (xs.getD 3 0) s) :: tX12_begin_33 kb
noncomputable def rX12_begin (kb : Co) : List Rw := (0, [(3, 12), (0, 0), (0, 0), (0, 0), (7, 0), (7, 0), (7, 0), (7, 0), (7, 0)], [], fun xs ys s => fX12_begin_0 kb (xs.getD 0 0) (xs.getD 1 0) (xs.getD 2 0) (xs.getD 3 0) s) :: tX12_begin_0 kb
noncomputable def kX12_begin : Nat → Co
  | 0 => nk
  | n + 1 => fam (rX12_begin (kX12_begin n)) nk
noncomputable def FX12_begin (a0 a1 a2 a3 : Int) (s : St) : Res := fX12_begin_0 (kX12_begin 9999) a0 a1 a2 a3 s
noncomputable def gX12_begin : Fn := fun xs s => FX12_begin (xs.getD 0 0) (xs.getD 1 0) (xs.getD 2 0) (xs.getD 3 0) s
noncomputable def mdX12_begin : MD := ([(3, 12), (0, 0), (0, 0), (0, 0)], (0, 0), yX12_begin, cX12_begin, (9, (some .int), 2, 42, []))
-- FloatparadeModel.tailOf(I)I
noncomputable def fX12_tailOf_0 (kb : Co) (a0 a1 : Int) (s : St) : Res := if 0 ≤ a1 ∧ a1 < 120 then if 0 ≤ a1 ∧ a1 < 120 then some (0, (wr ((wr ((gm s 138 a0 a1) - (gm s 137 a0 a1))) + 1)), s) else none else none
noncomputable def tX12_tailOf_0 (kb : Co) : List Rw := []
noncomputable def rX12_tailOf (kb : Co) : List Rw := (0, [(3, 12), (0, 0)], [], fun xs ys s => fX12_tailOf_0 kb (xs.getD 0 0) (xs.getD 1 0) s) :: tX12_tailOf_0 kb
noncomputable def kX12_tailOf : Nat → Co
  | 0 => nk
  | n + 1 => fam (rX12_tailOf (kX12_tailOf n)) nk
noncomputable def FX12_tailOf (a0 a1 : Int) (s : St) : Res := fX12_tailOf_0 (kX12_tailOf 0) a0 a1 s
noncomputable def gX12_tailOf : Fn := fun xs s => FX12_tailOf (xs.getD 0 0) (xs.getD 1 0) s
noncomputable def mdX12_tailOf : MD := ([(3, 12), (0, 0)], (0, 0), yX12_tailOf, cX12_tailOf, (2, (some .int), 0, 0, []))
-- FloatparadeModel.isOut(II)Z
noncomputable def fX12_isOut_23 (kb : Co) (y0 : Int) (s : St) : Res := if (y0 : Int) = 0 ∨ (y0 : Int) = 1 then some (0, y0, s) else none
noncomputable def fX12_isOut_22 (kb : Co) (s : St) : Res := fX12_isOut_23 kb 0 s
noncomputable def fX12_isOut_0 (kb : Co) (a0 a1 a2 : Int) (s : St) : Res := bnd (FX12_tailOf a0 (wr ((wr (60 * a1)) + a2)) s) fun x1 s1 => bnd (FX12_cells a0 a1 s1) fun x2 s2 => if x1 < x2 then fX12_isOut_22 kb s2 else fX12_isOut_23 kb 1 s2
noncomputable def tX12_isOut_23 (kb : Co) : List Rw := []
noncomputable def tX12_isOut_22 (kb : Co) : List Rw := (23, [(7, 0), (7, 0), (7, 0)], [(0, 0)], fun xs ys s => fX12_isOut_23 kb (ys.getD 0 0) s) :: tX12_isOut_23 kb
noncomputable def tX12_isOut_0 (kb : Co) : List Rw := (22, [(7, 0), (7, 0), (7, 0)], [], fun xs ys s => fX12_isOut_22 kb s) :: tX12_isOut_22 kb
noncomputable def rX12_isOut (kb : Co) : List Rw := (0, [(3, 12), (0, 0), (0, 0)], [], fun xs ys s => fX12_isOut_0 kb (xs.getD 0 0) (xs.getD 1 0) (xs.getD 2 0) s) :: tX12_isOut_0 kb
noncomputable def kX12_isOut : Nat → Co
  | 0 => nk
  | n + 1 => fam (rX12_isOut (kX12_isOut n)) nk
noncomputable def FX12_isOut (a0 a1 a2 : Int) (s : St) : Res := fX12_isOut_0 (kX12_isOut 0) a0 a1 a2 s
noncomputable def gX12_isOut : Fn := fun xs s => FX12_isOut (xs.getD 0 0) (xs.getD 1 0) (xs.getD 2 0) s
noncomputable def mdX12_isOut : MD := ([(3, 12), (0, 0), (0, 0)], (0, 0), yX12_isOut, cX12_isOut, (3, (some .boolean), 3, 70, []))
-- FloatparadeModel.stop(III)I
noncomputable def fX12_stop_120 (kb : Co) (a0 a1 a2 a3 : Int) (s : St) : Res := if 0 ≤ (wr ((wr (60 * a1)) + a2)) ∧ (wr ((wr (60 * a1)) + a2)) < 120 then if 0 ≤ (wr ((wr (60 * a1)) + a2)) ∧ (wr ((wr (60 * a1)) + a2)) < 120 then if 0 ≤ (wr ((wr (60 * a1)) + a2)) ∧ (wr ((wr (60 * a1)) + a2)) < 120 then some (0, (gm (pm s 139 a0 (wr ((wr (60 * a1)) + a2)) (wr ((gm s 139 a0 (wr ((wr (60 * a1)) + a2))) + a3))) 139 a0 (wr ((wr (60 * a1)) + a2))), (pm s 139 a0 (wr ((wr (60 * a1)) + a2)) (wr ((gm s 139 a0 (wr ((wr (60 * a1)) + a2))) + a3)))) else none else none else none
noncomputable def fX12_stop_112 (kb : Co) (a0 a1 a2 a3 y0 y1 : Int) (s : St) : Res := bnd (FX12_holds y1 y0 s) fun x1 s1 => if x1 = 0 then some (0, 0, s1) else fX12_stop_120 kb a0 a1 a2 a3 s1
noncomputable def fX12_stop_111 (kb : Co) (a0 a1 a2 a3 y0 : Int) (s : St) : Res := fX12_stop_112 kb a0 a1 a2 a3 3 y0 s
noncomputable def fX12_stop_102 (kb : Co) (a0 a1 a2 a3 a6 y0 : Int) (s : St) : Res := if a6 = 0 then fX12_stop_111 kb a0 a1 a2 a3 y0 s else fX12_stop_112 kb a0 a1 a2 a3 0 y0 s
noncomputable def fX12_stop_93 (kb : Co) (a0 a1 a2 a3 a5 a6 y0 : Int) (s : St) : Res := if a5 = 0 then fX12_stop_112 kb a0 a1 a2 a3 2 y0 s else fX12_stop_102 kb a0 a1 a2 a3 a6 y0 s
noncomputable def fX12_stop_81 (kb : Co) (a0 a1 a2 a3 a4 a5 y0 : Int) (s : St) : Res := if a4 = 0 then fX12_stop_112 kb a0 a1 a2 a3 1 a0 s else fX12_stop_93 kb a0 a1 a2 a3 a5 y0 a0 s
noncomputable def fX12_stop_80 (kb : Co) (a0 a1 a2 a3 a4 a5 : Int) (s : St) : Res := fX12_stop_81 kb a0 a1 a2 a3 a4 a5 0 s
noncomputable def fX12_stop_44 (kb : Co) (a0 a1 a2 a3 a4 y0 : Int) (s : St) : Res := if y0 = 0 then fX12_stop_80 kb a0 a1 a2 a3 a4 y0 s else if 0 ≤ a1 ∧ a1 < 2 then bnd (FX12_in a2 0 (wr ((gm s 134 a0 a1) - 1)) s) fun x1 s1 => if x1 = 0 then fX12_stop_80 kb a0 a1 a2 a3 a4 y0 s1 else bnd (FX12_isOut a0 a1 a2 s1) fun x2 s2 => if x2 = 0 then fX12_stop_81 kb a0 a1 a2 a3 a4 y0 1 s2 else fX12_stop_80 kb a0 a1 a2 a3 a4 y0 s2 else none
noncomputable def fX12_stop_43 (kb : Co) (a0 a1 a2 a3 a4 : Int) (s : St) : Res := fX12_stop_44 kb a0 a1 a2 a3 a4 0 s
noncomputable def fX12_stop_22 (kb : Co) (a0 a1 a2 a3 y0 : Int) (s : St) : Res := if y0 = 0 then fX12_stop_43 kb a0 a1 a2 a3 y0 s else if 0 ≤ a1 ∧ a1 < 2 then if (gm s 130 a0 a1) = 1 then fX12_stop_44 kb a0 a1 a2 a3 y0 1 s else fX12_stop_43 kb a0 a1 a2 a3 y0 s else none
noncomputable def fX12_stop_21 (kb : Co) (a0 a1 a2 a3 : Int) (s : St) : Res := fX12_stop_22 kb a0 a1 a2 a3 0 s
noncomputable def fX12_stop_0 (kb : Co) (a0 a1 a2 a3 : Int) (s : St) : Res := bnd (FX12_isLeague a1 s) fun x1 s1 => if x1 = 0 then fX12_stop_21 kb a0 a1 a2 a3 s1 else bnd (FX12_in a3 1 20 s1) fun x2 s2 => if x2 = 0 then fX12_stop_21 kb a0 a1 a2 a3 s2 else fX12_stop_22 kb a0 a1 a2 a3 1 s2
noncomputable def tX12_stop_120 (kb : Co) : List Rw := []
noncomputable def tX12_stop_112 (kb : Co) : List Rw := (120, [(3, 12), (0, 0), (0, 0), (0, 0), (7, 0), (7, 0), (7, 0)], [], fun xs ys s => fX12_stop_120 kb (xs.getD 0 0) (xs.getD 1 0) (xs.getD 2 0) (xs.getD 3 0) s) :: tX12_stop_120 kb
noncomputable def tX12_stop_111 (kb : Co) : List Rw := (112, [(3, 12), (0, 0), (0, 0), (0, 0), (7, 0), (7, 0), (7, 0)], [(0, 0), (3, 12)], fun xs ys s => fX12_stop_112 kb (xs.getD 0 0) (xs.getD 1 0) (xs.getD 2 0) (xs.getD 3 0) (ys.getD 0 0) (ys.getD 1 0) s) :: tX12_stop_112 kb
noncomputable def tX12_stop_102 (kb : Co) : List Rw := (111, [(3, 12), (0, 0), (0, 0), (0, 0), (7, 0), (7, 0), (7, 0)], [(3, 12)], fun xs ys s => fX12_stop_111 kb (xs.getD 0 0) (xs.getD 1 0) (xs.getD 2 0) (xs.getD 3 0) (ys.getD 0 0) s) :: tX12_stop_111 kb
noncomputable def tX12_stop_93 (kb : Co) : List Rw := (102, [(3, 12), (0, 0), (0, 0), (0, 0), (7, 0), (7, 0), (0, 0)], [(3, 12)], fun xs ys s => fX12_stop_102 kb (xs.getD 0 0) (xs.getD 1 0) (xs.getD 2 0) (xs.getD 3 0) (xs.getD 4 0) (ys.getD 0 0) s) :: tX12_stop_102 kb
noncomputable def tX12_stop_81 (kb : Co) : List Rw := (93, [(3, 12), (0, 0), (0, 0), (0, 0), (7, 0), (0, 0), (0, 0)], [(3, 12)], fun xs ys s => fX12_stop_93 kb (xs.getD 0 0) (xs.getD 1 0) (xs.getD 2 0) (xs.getD 3 0) (xs.getD 4 0) (xs.getD 5 0) (ys.getD 0 0) s) :: tX12_stop_93 kb
noncomputable def tX12_stop_80 (kb : Co) : List Rw := (81, [(3, 12), (0, 0), (0, 0), (0, 0), (0, 0), (0, 0), (7, 0)], [(0, 0)], fun xs ys s => fX12_stop_81 kb (xs.getD 0 0) (xs.getD 1 0) (xs.getD 2 0) (xs.getD 3 0) (xs.getD 4 0) (xs.getD 5 0) (ys.getD 0 0) s) :: tX12_stop_81 kb
noncomputable def tX12_stop_44 (kb : Co) : List Rw := (80, [(3, 12), (0, 0), (0, 0), (0, 0), (0, 0), (0, 0), (7, 0)], [], fun xs ys s => fX12_stop_80 kb (xs.getD 0 0) (xs.getD 1 0) (xs.getD 2 0) (xs.getD 3 0) (xs.getD 4 0) (xs.getD 5 0) s) :: tX12_stop_80 kb
noncomputable def tX12_stop_43 (kb : Co) : List Rw := (44, [(3, 12), (0, 0), (0, 0), (0, 0), (0, 0), (7, 0), (7, 0)], [(0, 0)], fun xs ys s => fX12_stop_44 kb (xs.getD 0 0) (xs.getD 1 0) (xs.getD 2 0) (xs.getD 3 0) (xs.getD 4 0) (ys.getD 0 0) s) :: tX12_stop_44 kb
noncomputable def tX12_stop_22 (kb : Co) : List Rw := (43, [(3, 12), (0, 0), (0, 0), (0, 0), (0, 0), (7, 0), (7, 0)], [], fun xs ys s => fX12_stop_43 kb (xs.getD 0 0) (xs.getD 1 0) (xs.getD 2 0) (xs.getD 3 0) (xs.getD 4 0) s) :: tX12_stop_43 kb
noncomputable def tX12_stop_21 (kb : Co) : List Rw := (22, [(3, 12), (0, 0), (0, 0), (0, 0), (7, 0), (7, 0), (7, 0)], [(0, 0)], fun xs ys s => fX12_stop_22 kb (xs.getD 0 0) (xs.getD 1 0) (xs.getD 2 0) (xs.getD 3 0) (ys.getD 0 0) s) :: tX12_stop_22 kb
noncomputable def tX12_stop_0 (kb : Co) : List Rw := (21, [(3, 12), (0, 0), (0, 0), (0, 0), (7, 0), (7, 0), (7, 0)], [], fun xs ys s => fX12_stop_21 kb (xs.getD 0 0) (xs.getD 1 0) (xs.getD 2 0) (xs.getD 3 0) s) :: tX12_stop_21 kb
noncomputable def rX12_stop (kb : Co) : List Rw := (0, [(3, 12), (0, 0), (0, 0), (0, 0), (7, 0), (7, 0), (7, 0)], [], fun xs ys s => fX12_stop_0 kb (xs.getD 0 0) (xs.getD 1 0) (xs.getD 2 0) (xs.getD 3 0) s) :: tX12_stop_0 kb
noncomputable def kX12_stop : Nat → Co
  | 0 => nk
  | n + 1 => fam (rX12_stop (kX12_stop n)) nk
noncomputable def FX12_stop (a0 a1 a2 a3 : Int) (s : St) : Res := fX12_stop_0 (kX12_stop 0) a0 a1 a2 a3 s
noncomputable def gX12_stop : Fn := fun xs s => FX12_stop (xs.getD 0 0) (xs.getD 1 0) (xs.getD 2 0) (xs.getD 3 0) s
noncomputable def mdX12_stop : MD := ([(3, 12), (0, 0), (0, 0), (0, 0)], (0, 0), yX12_stop, cX12_stop, (7, (some .int), 4, 92, []))
-- FloatparadeModel.rain(Z)Z
noncomputable def fX12_rain_0 (kb : Co) (a0 a1 : Int) (s : St) : Res := if (a1 : Int) = 0 ∨ (a1 : Int) = 1 then if ((gm (pm s 12 a0 0 0) 12 a0 42) : Int) = 0 ∨ ((gm (pm s 12 a0 0 0) 12 a0 42) : Int) = 1 then some (0, (gm (pm s 12 a0 0 0) 12 a0 42), (pm (pm s 12 a0 0 0) 12 a0 42 a1)) else none else none
noncomputable def tX12_rain_0 (kb : Co) : List Rw := []
noncomputable def rX12_rain (kb : Co) : List Rw := (0, [(3, 12), (0, 0), (7, 0)], [], fun xs ys s => fX12_rain_0 kb (xs.getD 0 0) (xs.getD 1 0) s) :: tX12_rain_0 kb
noncomputable def kX12_rain : Nat → Co
  | 0 => nk
  | n + 1 => fam (rX12_rain (kX12_rain n)) nk
noncomputable def FX12_rain (a0 a1 : Int) (s : St) : Res := fX12_rain_0 (kX12_rain 0) a0 a1 s
noncomputable def gX12_rain : Fn := fun xs s => FX12_rain (xs.getD 0 0) (xs.getD 1 0) s
noncomputable def mdX12_rain : MD := ([(3, 12), (0, 0)], (0, 0), yX12_rain, cX12_rain, (3, (some .boolean), 0, 0, []))
-- FloatparadeModel.ambulance(I)I
noncomputable def fX12_ambulance_138 (kb : Co) (a2 : Int) (s : St) : Res := some (0, a2, s)
noncomputable def fX12_ambulance_132 (kb : Co) (a0 a1 a2 a3 : Int) (s : St) : Res := kb 25 [(3, 12, a0), (0, 0, a1), (0, 0, a2), (0, 0, (wr (a3 + 1))), (7, 0, 0), (7, 0, 0), (7, 0, 0)] [] s
noncomputable def fX12_ambulance_124 (kb : Co) (a0 a1 a3 a5 a6 y0 y1 : Int) (s : St) : Res := kb 81 [(3, 12, a0), (0, 0, a1), (0, 0, (wr (y1 + y0))), (0, 0, a3), (7, 0, 0), (0, 0, a5), (0, 0, (wr (a6 + 1)))] [] s
noncomputable def fX12_ambulance_123 (kb : Co) (a0 a1 a3 a5 a6 y0 : Int) (s : St) : Res := fX12_ambulance_124 kb a0 a1 a3 a5 a6 0 y0 s
noncomputable def fX12_ambulance_81 (kb : Co) (a0 a1 a2 a3 a5 a6 : Int) (s : St) : Res := if 0 ≤ a3 ∧ a3 < 2 then if a6 < (wr ((wr (60 * a3)) + (gm s 134 a0 a3))) then (bnd (FX12_tailOf a0 a6 s) fun x1 s1 => if 0 ≤ a6 ∧ a6 < 120 then bnd (FX12_in a5 x1 (gm s1 138 a0 a6) s1) fun x2 s2 => if x2 = 0 then fX12_ambulance_123 kb a0 a1 a3 a5 a6 a2 s2 else fX12_ambulance_124 kb a0 a1 a3 a5 a6 1 a2 s2 else none) else fX12_ambulance_132 kb a0 a1 a2 a3 s else none
noncomputable def fX12_ambulance_25 (kb : Co) (a0 a1 a2 a3 : Int) (s : St) : Res := if a3 < 2 then (bnd (FX12_placeOf a0 a3 a1 s) fun x1 s1 => if 0 ≤ a3 ∧ a3 < 2 then if (gm s1 130 a0 a3) = 1 then (if x1 = (-1) then fX12_ambulance_132 kb a0 a1 a2 a3 s1 else bnd (FX12_cellOf a0 a3 x1 s1) fun x2 s2 => if 0 ≤ (wr ((wr (12 * a3)) + a1)) ∧ (wr ((wr (12 * a3)) + a1)) < 24 then fX12_ambulance_81 kb a0 a1 a2 a3 x2 (wr (60 * a3)) (pm s2 141 a0 (wr ((wr (12 * a3)) + a1)) 2) else none) else fX12_ambulance_132 kb a0 a1 a2 a3 s1 else none) else fX12_ambulance_138 kb a2 s
noncomputable def fX12_ambulance_21 (kb : Co) (a0 a1 : Int) (s : St) : Res := fX12_ambulance_25 kb a0 a1 0 0 s
noncomputable def fX12_ambulance_13 (kb : Co) (a0 a1 y0 y1 : Int) (s : St) : Res := bnd (FX12_holds y1 y0 s) fun x1 s1 => if x1 = 0 then some (0, 0, s1) else fX12_ambulance_21 kb a0 a1 s1
noncomputable def fX12_ambulance_12 (kb : Co) (a0 a1 y0 : Int) (s : St) : Res := fX12_ambulance_13 kb a0 a1 1 y0 s
noncomputable def fX12_ambulance_0 (kb : Co) (a0 a1 : Int) (s : St) : Res := bnd (FX12_isCorner a1 s) fun x1 s1 => if x1 = 0 then fX12_ambulance_12 kb a0 a1 a0 s1 else fX12_ambulance_13 kb a0 a1 0 a0 s1
noncomputable def tX12_ambulance_138 (kb : Co) : List Rw := []
noncomputable def tX12_ambulance_132 (kb : Co) : List Rw := (138, [(7, 0), (7, 0), (0, 0), (7, 0), (7, 0), (7, 0), (7, 0)], [], fun xs ys s => fX12_ambulance_138 kb (xs.getD 0 0) s) :: tX12_ambulance_138 kb
noncomputable def tX12_ambulance_124 (kb : Co) : List Rw := (132, [(3, 12), (0, 0), (0, 0), (0, 0), (7, 0), (7, 0), (7, 0)], [], fun xs ys s => fX12_ambulance_132 kb (xs.getD 0 0) (xs.getD 1 0) (xs.getD 2 0) (xs.getD 3 0) s) :: tX12_ambulance_132 kb
noncomputable def tX12_ambulance_123 (kb : Co) : List Rw := (124, [(3, 12), (0, 0), (7, 0), (0, 0), (7, 0), (0, 0), (0, 0)], [(0, 0), (0, 0)], fun xs ys s => fX12_ambulance_124 kb (xs.getD 0 0) (xs.getD 1 0) (xs.getD 2 0) (xs.getD 3 0) (xs.getD 4 0) (ys.getD 0 0) (ys.getD 1 0) s) :: tX12_ambulance_124 kb
noncomputable def tX12_ambulance_81 (kb : Co) : List Rw := (123, [(3, 12), (0, 0), (7, 0), (0, 0), (7, 0), (0, 0), (0, 0)], [(0, 0)], fun xs ys s => fX12_ambulance_123 kb (xs.getD 0 0) (xs.getD 1 0) (xs.getD 2 0) (xs.getD 3 0) (xs.getD 4 0) (ys.getD 0 0) s) :: tX12_ambulance_123 kb
noncomputable def tX12_ambulance_25 (kb : Co) : List Rw := (81, [(3, 12), (0, 0), (0, 0), (0, 0), (7, 0), (0, 0), (0, 0)], [], fun xs ys s => fX12_ambulance_81 kb (xs.getD 0 0) (xs.getD 1 0) (xs.getD 2 0) (xs.getD 3 0) (xs.getD 4 0) (xs.getD 5 0) s) :: tX12_ambulance_81 kb
noncomputable def tX12_ambulance_21 (kb : Co) : List Rw := (25, [(3, 12), (0, 0), (0, 0), (0, 0), (7, 0), (7, 0), (7, 0)], [], fun xs ys s => fX12_ambulance_25 kb (xs.getD 0 0) (xs.getD 1 0) (xs.getD 2 0) (xs.getD 3 0) s) :: tX12_ambulance_25 kb
noncomputable def tX12_ambulance_13 (kb : Co) : List Rw := (21, [(3, 12), (0, 0), (7, 0), (7, 0), (7, 0), (7, 0), (7, 0)], [], fun xs ys s => fX12_ambulance_21 kb (xs.getD 0 0) (xs.getD 1 0) s) :: tX12_ambulance_21 kb
noncomputable def tX12_ambulance_12 (kb : Co) : List Rw := (13, [(3, 12), (0, 0), (7, 0), (7, 0), (7, 0), (7, 0), (7, 0)], [(0, 0), (3, 12)], fun xs ys s => fX12_ambulance_13 kb (xs.getD 0 0) (xs.getD 1 0) (ys.getD 0 0) (ys.getD 1 0) s) :: tX12_ambulance_13 kb
noncomputable def tX12_ambulance_0 (kb : Co) : List Rw := (12, [(3, 12), (0, 0), (7, 0), (7, 0), (7, 0), (7, 0), (7, 0)], [(3, 12)], fun xs ys s => fX12_ambulance_12 kb (xs.getD 0 0) (xs.getD 1 0) (ys.getD 0 0) s) :: tX12_ambulance_12 kb
noncomputable def rX12_ambulance (kb : Co) : List Rw := (0, [(3, 12), (0, 0), (7, 0), (7, 0), (7, 0), (7, 0), (7, 0)], [], fun xs ys s => fX12_ambulance_0 kb (xs.getD 0 0) (xs.getD 1 0) s) :: tX12_ambulance_0 kb
noncomputable def kX12_ambulance : Nat → Co
  | 0 => nk
  | n + 1 => fam (rX12_ambulance (kX12_ambulance n)) nk
noncomputable def FX12_ambulance (a0 a1 : Int) (s : St) : Res := fX12_ambulance_0 (kX12_ambulance 9999) a0 a1 s
noncomputable def gX12_ambulance : Fn := fun xs s => FX12_ambulance (xs.getD 0 0) (xs.getD 1 0) s
noncomputable def mdX12_ambulance : MD := ([(3, 12), (0, 0)], (0, 0), yX12_ambulance, cX12_ambulance, (7, (some .int), 3, 71, []))
-- FloatparadeModel.moves(II)V
noncomputable def fX12_moves_321 (kb : Co) (y0 y1 y2 : Int) (s : St) : Res := if 0 ≤ y1 ∧ y1 < 120 then some (0, 0, (pm s 138 y2 y1 y0)) else none
noncomputable def fX12_moves_315 (kb : Co) (a0 a3 y0 y1 : Int) (s : St) : Res := if 0 ≤ a3 ∧ a3 < 120 then fX12_moves_321 kb (gm s 138 a0 a3) y0 y1 s else none
noncomputable def fX12_moves_294 (kb : Co) (a0 a3 a5 : Int) (s : St) : Res := if 0 ≤ a3 ∧ a3 < 120 then if (gm s 138 a0 a3) < a5 then fX12_moves_321 kb a5 a3 a0 s else fX12_moves_315 kb a0 a3 a3 a0 s else none
noncomputable def fX12_moves_288 (kb : Co) (a0 a1 a3 a5 a6 : Int) (s : St) : Res := kb 219 [(3, 12, a0), (0, 0, a1), (7, 0, 0), (0, 0, a3), (7, 0, 0), (0, 0, a5), (0, 0, (wr (a6 + 1))), (7, 0, 0), (7, 0, 0)] [] s
noncomputable def fX12_moves_219 (kb : Co) (a0 a1 a3 a5 a6 : Int) (s : St) : Res := if 0 ≤ a1 ∧ a1 < 2 then if a6 < (gm s 121 a0 a1) then (bnd (FX12_cellOf a0 a1 a6 s) fun x1 s1 => if 0 ≤ (wr ((wr (10 * a1)) + a6)) ∧ (wr ((wr (10 * a1)) + a6)) < 20 then if 0 ≤ (gm s1 122 a0 (wr ((wr (10 * a1)) + a6))) ∧ (gm s1 122 a0 (wr ((wr (10 * a1)) + a6))) < 12 then if (gm s1 123 a0 (gm s1 122 a0 (wr ((wr (10 * a1)) + a6)))) = 0 then fX12_moves_288 kb a0 a1 a3 a5 a6 s1 else if 0 ≤ a3 ∧ a3 < 120 then if (gm s1 138 a0 a3) < x1 then (if a5 < x1 then fX12_moves_288 kb a0 a1 a3 a5 a6 s1 else if (0 ≤ a3 ∧ a3 < 120) ∧ ((1 : Int) = 0 ∨ (1 : Int) = 1) then fX12_moves_288 kb a0 a1 a3 x1 a6 (pm s1 140 a0 a3 1) else none) else fX12_moves_288 kb a0 a1 a3 a5 a6 s1 else none else none else none) else fX12_moves_294 kb a0 a3 a5 s else none
noncomputable def fX12_moves_216 (kb : Co) (a0 a1 a3 a5 : Int) (s : St) : Res := fX12_moves_219 kb a0 a1 a3 a5 0 s
noncomputable def fX12_moves_208 (kb : Co) (a0 a1 a3 a6 y0 : Int) (s : St) : Res := kb 124 [(3, 12, a0), (0, 0, a1), (7, 0, 0), (0, 0, a3), (7, 0, 0), (0, 0, y0), (0, 0, (wr (a6 + 1))), (7, 0, 0), (7, 0, 0)] [] s
noncomputable def fX12_moves_206 (kb : Co) (a0 a1 a3 a5 a6 : Int) (s : St) : Res := fX12_moves_208 kb a0 a1 a3 a6 a5 s
noncomputable def fX12_moves_174 (kb : Co) (a0 a1 a3 a5 a6 a7 y0 : Int) (s : St) : Res := if y0 = 0 then fX12_moves_206 kb a0 a1 a3 a5 a6 s else if 0 ≤ a3 ∧ a3 < 120 then if (gm s 138 a0 a3) < a7 then (if a5 < a7 then fX12_moves_206 kb a0 a1 a3 a5 a6 s else fX12_moves_208 kb a0 a1 a3 a6 (wr (a7 - 1)) s) else fX12_moves_206 kb a0 a1 a3 a5 a6 s else none
noncomputable def fX12_moves_173 (kb : Co) (a0 a1 a3 a5 a6 a7 : Int) (s : St) : Res := fX12_moves_174 kb a0 a1 a3 a5 a6 a7 0 s
noncomputable def fX12_moves_124 (kb : Co) (a0 a1 a3 a5 a6 : Int) (s : St) : Res := if 0 ≤ a1 ∧ a1 < 2 then if a6 < (gm s 121 a0 a1) then (bnd (FX12_cellOf a0 a1 a6 s) fun x1 s1 => if 0 ≤ (wr ((wr (10 * a1)) + a6)) ∧ (wr ((wr (10 * a1)) + a6)) < 20 then if 0 ≤ (wr ((wr (12 * a1)) + (gm s1 122 a0 (wr ((wr (10 * a1)) + a6))))) ∧ (wr ((wr (12 * a1)) + (gm s1 122 a0 (wr ((wr (10 * a1)) + a6))))) < 24 then if 0 < (gm s1 141 a0 (wr ((wr (12 * a1)) + (gm s1 122 a0 (wr ((wr (10 * a1)) + a6)))))) then fX12_moves_174 kb a0 a1 a3 a5 a6 x1 1 s1 else fX12_moves_173 kb a0 a1 a3 a5 a6 x1 s1 else none else none) else fX12_moves_216 kb a0 a1 a3 a5 s else none
noncomputable def fX12_moves_121 (kb : Co) (a0 a1 a3 a5 : Int) (s : St) : Res := fX12_moves_124 kb a0 a1 a3 a5 0 s
noncomputable def fX12_moves_119 (kb : Co) (a0 a1 a3 y0 : Int) (s : St) : Res := fX12_moves_121 kb a0 a1 a3 y0 s
noncomputable def fX12_moves_117 (kb : Co) (a0 a1 a3 a5 : Int) (s : St) : Res := fX12_moves_119 kb a0 a1 a3 a5 s
noncomputable def fX12_moves_76 (kb : Co) (a0 a1 a2 a3 a5 : Int) (s : St) : Res := if 0 < a2 then (bnd (FX12_isOut a0 a1 (wr (a2 - 1)) s) fun x1 s1 => if x1 = 0 then (bnd (FX12_tailOf a0 (wr (a3 - 1)) s1) fun x2 s2 => if (wr (x2 - 2)) < a5 then (bnd (FX12_tailOf a0 (wr (a3 - 1)) s2) fun x3 s3 => fX12_moves_119 kb a0 a1 a3 (wr (x3 - 2)) s3) else fX12_moves_117 kb a0 a1 a3 a5 s2) else fX12_moves_121 kb a0 a1 a3 a5 s1) else fX12_moves_121 kb a0 a1 a3 a5 s
noncomputable def fX12_moves_67 (kb : Co) (a0 a1 a2 a3 a4 y0 y1 : Int) (s : St) : Res := if a4 = 0 then fX12_moves_76 kb a0 a1 a2 a3 (wr (y1 + y0)) s else some (0, 0, s)
noncomputable def fX12_moves_66 (kb : Co) (a0 a1 a2 a3 a4 y0 : Int) (s : St) : Res := fX12_moves_67 kb a0 a1 a2 a3 a4 2 y0 s
noncomputable def fX12_moves_30 (kb : Co) (a0 a1 a2 a3 y0 : Int) (s : St) : Res := if (0 ≤ a3 ∧ a3 < 120) ∧ ((0 : Int) = 0 ∨ (0 : Int) = 1) then if 0 ≤ a3 ∧ a3 < 120 then if 0 ≤ a3 ∧ a3 < 120 then if (gm (pm s 140 a0 a3 0) 136 a0 a3) = (-1) then (if (gm (pm s 140 a0 a3 0) 12 a0 42) = 0 then fX12_moves_67 kb a0 a1 a2 a3 y0 3 (gm (pm s 140 a0 a3 0) 138 a0 a3) (pm s 140 a0 a3 0) else fX12_moves_66 kb a0 a1 a2 a3 y0 (gm (pm s 140 a0 a3 0) 138 a0 a3) (pm s 140 a0 a3 0)) else fX12_moves_66 kb a0 a1 a2 a3 y0 (gm (pm s 140 a0 a3 0) 138 a0 a3) (pm s 140 a0 a3 0) else none else none else none
noncomputable def fX12_moves_29 (kb : Co) (a0 a1 a2 a3 : Int) (s : St) : Res := fX12_moves_30 kb a0 a1 a2 a3 0 s
noncomputable def fX12_moves_25 (kb : Co) (a0 a1 a2 a3 : Int) (s : St) : Res := fX12_moves_30 kb a0 a1 a2 a3 1 s
noncomputable def fX12_moves_0 (kb : Co) (a0 a1 a2 : Int) (s : St) : Res := if 0 ≤ (wr ((wr (60 * a1)) + a2)) ∧ (wr ((wr (60 * a1)) + a2)) < 120 then if 0 < (gm s 139 a0 (wr ((wr (60 * a1)) + a2))) then fX12_moves_25 kb a0 a1 a2 (wr ((wr (60 * a1)) + a2)) s else if 0 ≤ (wr ((wr (60 * a1)) + a2)) ∧ (wr ((wr (60 * a1)) + a2)) < 120 then if (gm s 140 a0 (wr ((wr (60 * a1)) + a2))) = 0 then fX12_moves_29 kb a0 a1 a2 (wr ((wr (60 * a1)) + a2)) s else fX12_moves_25 kb a0 a1 a2 (wr ((wr (60 * a1)) + a2)) s else none else none
noncomputable def tX12_moves_321 (kb : Co) : List Rw := []
noncomputable def tX12_moves_315 (kb : Co) : List Rw := (321, [(7, 0), (7, 0), (7, 0), (7, 0), (7, 0), (7, 0), (7, 0), (7, 0), (7, 0)], [(0, 0), (0, 0), (3, 138)], fun xs ys s => fX12_moves_321 kb (ys.getD 0 0) (ys.getD 1 0) (ys.getD 2 0) s) :: tX12_moves_321 kb
noncomputable def tX12_moves_294 (kb : Co) : List Rw := (315, [(3, 12), (7, 0), (7, 0), (0, 0), (7, 0), (7, 0), (7, 0), (7, 0), (7, 0)], [(0, 0), (3, 138)], fun xs ys s => fX12_moves_315 kb (xs.getD 0 0) (xs.getD 1 0) (ys.getD 0 0) (ys.getD 1 0) s) :: tX12_moves_315 kb
noncomputable def tX12_moves_288 (kb : Co) : List Rw := (294, [(3, 12), (7, 0), (7, 0), (0, 0), (7, 0), (0, 0), (7, 0), (7, 0), (7, 0)], [], fun xs ys s => fX12_moves_294 kb (xs.getD 0 0) (xs.getD 1 0) (xs.getD 2 0) s) :: tX12_moves_294 kb
noncomputable def tX12_moves_219 (kb : Co) : List Rw := (288, [(3, 12), (0, 0), (7, 0), (0, 0), (7, 0), (0, 0), (0, 0), (7, 0), (7, 0)], [], fun xs ys s => fX12_moves_288 kb (xs.getD 0 0) (xs.getD 1 0) (xs.getD 2 0) (xs.getD 3 0) (xs.getD 4 0) s) :: tX12_moves_288 kb
noncomputable def tX12_moves_216 (kb : Co) : List Rw := (219, [(3, 12), (0, 0), (7, 0), (0, 0), (7, 0), (0, 0), (0, 0), (7, 0), (7, 0)], [], fun xs ys s => fX12_moves_219 kb (xs.getD 0 0) (xs.getD 1 0) (xs.getD 2 0) (xs.getD 3 0) (xs.getD 4 0) s) :: tX12_moves_219 kb
noncomputable def tX12_moves_208 (kb : Co) : List Rw := (216, [(3, 12), (0, 0), (7, 0), (0, 0), (7, 0), (0, 0), (7, 0), (7, 0), (7, 0)], [], fun xs ys s => fX12_moves_216 kb (xs.getD 0 0) (xs.getD 1 0) (xs.getD 2 0) (xs.getD 3 0) s) :: tX12_moves_216 kb
noncomputable def tX12_moves_206 (kb : Co) : List Rw := (208, [(3, 12), (0, 0), (7, 0), (0, 0), (7, 0), (7, 0), (0, 0), (7, 0), (7, 0)], [(0, 0)], fun xs ys s => fX12_moves_208 kb (xs.getD 0 0) (xs.getD 1 0) (xs.getD 2 0) (xs.getD 3 0) (ys.getD 0 0) s) :: tX12_moves_208 kb
noncomputable def tX12_moves_174 (kb : Co) : List Rw := (206, [(3, 12), (0, 0), (7, 0), (0, 0), (7, 0), (0, 0), (0, 0), (7, 0), (7, 0)], [], fun xs ys s => fX12_moves_206 kb (xs.getD 0 0) (xs.getD 1 0) (xs.getD 2 0) (xs.getD 3 0) (xs.getD 4 0) s) :: tX12_moves_206 kb
noncomputable def tX12_moves_173 (kb : Co) : List Rw := (174, [(3, 12), (0, 0), (7, 0), (0, 0), (7, 0), (0, 0), (0, 0), (0, 0), (7, 0)], [(0, 0)], fun xs ys s => fX12_moves_174 kb (xs.getD 0 0) (xs.getD 1 0) (xs.getD 2 0) (xs.getD 3 0) (xs.getD 4 0) (xs.getD 5 0) (ys.getD 0 0) s) :: tX12_moves_174 kb
noncomputable def tX12_moves_124 (kb : Co) : List Rw := (173, [(3, 12), (0, 0), (7, 0), (0, 0), (7, 0), (0, 0), (0, 0), (0, 0), (7, 0)], [], fun xs ys s => fX12_moves_173 kb (xs.getD 0 0) (xs.getD 1 0) (xs.getD 2 0) (xs.getD 3 0) (xs.getD 4 0) (xs.getD 5 0) s) :: tX12_moves_173 kb
noncomputable def tX12_moves_121 (kb : Co) : List Rw := (124, [(3, 12), (0, 0), (7, 0), (0, 0), (7, 0), (0, 0), (0, 0), (7, 0), (7, 0)], [], fun xs ys s => fX12_moves_124 kb (xs.getD 0 0) (xs.getD 1 0) (xs.getD 2 0) (xs.getD 3 0) (xs.getD 4 0) s) :: tX12_moves_124 kb
noncomputable def tX12_moves_119 (kb : Co) : List Rw := (121, [(3, 12), (0, 0), (7, 0), (0, 0), (7, 0), (0, 0), (7, 0), (7, 0), (7, 0)], [], fun xs ys s => fX12_moves_121 kb (xs.getD 0 0) (xs.getD 1 0) (xs.getD 2 0) (xs.getD 3 0) s) :: tX12_moves_121 kb
noncomputable def tX12_moves_117 (kb : Co) : List Rw := (119, [(3, 12), (0, 0), (7, 0), (0, 0), (7, 0), (7, 0), (7, 0), (7, 0), (7, 0)], [(0, 0)], fun xs ys s => fX12_moves_119 kb (xs.getD 0 0) (xs.getD 1 0) (xs.getD 2 0) (ys.getD 0 0) s) :: tX12_moves_119 kb
noncomputable def tX12_moves_76 (kb : Co) : List Rw := (117, [(3, 12), (0, 0), (7, 0), (0, 0), (7, 0), (0, 0), (7, 0), (7, 0), (7, 0)], [], fun xs ys s => fX12_moves_117 kb (xs.getD 0 0) (xs.getD 1 0) (xs.getD 2 0) (xs.getD 3 0) s) :: tX12_moves_117 kb
noncomputable def tX12_moves_67 (kb : Co) : List Rw := (76, [(3, 12), (0, 0), (0, 0), (0, 0), (7, 0), (0, 0), (7, 0), (7, 0), (7, 0)], [], fun xs ys s => fX12_moves_76 kb (xs.getD 0 0) (xs.getD 1 0) (xs.getD 2 0) (xs.getD 3 0) (xs.getD 4 0) s) :: tX12_moves_76 kb
noncomputable def tX12_moves_66 (kb : Co) : List Rw := (67, [(3, 12), (0, 0), (0, 0), (0, 0), (0, 0), (7, 0), (7, 0), (7, 0), (7, 0)], [(0, 0), (0, 0)], fun xs ys s => fX12_moves_67 kb (xs.getD 0 0) (xs.getD 1 0) (xs.getD 2 0) (xs.getD 3 0) (xs.getD 4 0) (ys.getD 0 0) (ys.getD 1 0) s) :: tX12_moves_67 kb
noncomputable def tX12_moves_30 (kb : Co) : List Rw := (66, [(3, 12), (0, 0), (0, 0), (0, 0), (0, 0), (7, 0), (7, 0), (7, 0), (7, 0)], [(0, 0)], fun xs ys s => fX12_moves_66 kb (xs.getD 0 0) (xs.getD 1 0) (xs.getD 2 0) (xs.getD 3 0) (xs.getD 4 0) (ys.getD 0 0) s) :: tX12_moves_66 kb
noncomputable def tX12_moves_29 (kb : Co) : List Rw := (30, [(3, 12), (0, 0), (0, 0), (0, 0), (7, 0), (7, 0), (7, 0), (7, 0), (7, 0)], [(0, 0)], fun xs ys s => fX12_moves_30 kb (xs.getD 0 0) (xs.getD 1 0) (xs.getD 2 0) (xs.getD 3 0) (ys.getD 0 0) s) :: tX12_moves_30 kb
noncomputable def tX12_moves_25 (kb : Co) : List Rw := (29, [(3, 12), (0, 0), (0, 0), (0, 0), (7, 0), (7, 0), (7, 0), (7, 0), (7, 0)], [], fun xs ys s => fX12_moves_29 kb (xs.getD 0 0) (xs.getD 1 0) (xs.getD 2 0) (xs.getD 3 0) s) :: tX12_moves_29 kb
noncomputable def tX12_moves_0 (kb : Co) : List Rw := (25, [(3, 12), (0, 0), (0, 0), (0, 0), (7, 0), (7, 0), (7, 0), (7, 0), (7, 0)], [], fun xs ys s => fX12_moves_25 kb (xs.getD 0 0) (xs.getD 1 0) (xs.getD 2 0) (xs.getD 3 0) s) :: tX12_moves_25 kb
noncomputable def rX12_moves (kb : Co) : List Rw := (0, [(3, 12), (0, 0), (0, 0), (7, 0), (7, 0), (7, 0), (7, 0), (7, 0), (7, 0)], [], fun xs ys s => fX12_moves_0 kb (xs.getD 0 0) (xs.getD 1 0) (xs.getD 2 0) s) :: tX12_moves_0 kb
noncomputable def kX12_moves : Nat → Co
  | 0 => nk
  | n + 1 => fam (rX12_moves (kX12_moves n)) nk
noncomputable def FX12_moves (a0 a1 a2 : Int) (s : St) : Res := fX12_moves_0 (kX12_moves 9999) a0 a1 a2 s
noncomputable def gX12_moves : Fn := fun xs s => FX12_moves (xs.getD 0 0) (xs.getD 1 0) (xs.getD 2 0) s
noncomputable def mdX12_moves : MD := ([(3, 12), (0, 0), (0, 0)], (9, 0), yX12_moves, cX12_moves, (9, none, 4, 92, []))
-- FloatparadeModel.penalizes(III)V
noncomputable def fX12_penalizes_51 (kb : Co) (s : St) : Res := some (0, 0, s)
noncomputable def fX12_penalizes_0 (kb : Co) (a0 a1 a2 a3 : Int) (s : St) : Res := if 0 < a3 then (if 0 ≤ a1 ∧ a1 < 10 then if 0 ≤ (wr ((wr (20 * a1)) + (gm s 147 a0 a1))) ∧ (wr ((wr (20 * a1)) + (gm s 147 a0 a1))) < 200 then if 0 ≤ (wr ((wr (20 * a1)) + (gm s 147 a0 a1))) ∧ (wr ((wr (20 * a1)) + (gm s 147 a0 a1))) < 200 then if (0 ≤ (wr ((wr (20 * a1)) + (gm s 147 a0 a1))) ∧ (wr ((wr (20 * a1)) + (gm s 147 a0 a1))) < 200) ∧ ((0 : Int) = 0 ∨ (0 : Int) = 1) then if 0 ≤ a1 ∧ a1 < 10 then if 0 ≤ a1 ∧ a1 < 10 then fX12_penalizes_51 kb (pm (pm (pm (pm s 148 a0 (wr ((wr (20 * a1)) + (gm s 147 a0 a1))) a2) 149 a0 (wr ((wr (20 * a1)) + (gm s 147 a0 a1))) a3) 150 a0 (wr ((wr (20 * a1)) + (gm s 147 a0 a1))) 0) 147 a0 a1 (wr ((gm (pm (pm (pm s 148 a0 (wr ((wr (20 * a1)) + (gm s 147 a0 a1))) a2) 149 a0 (wr ((wr (20 * a1)) + (gm s 147 a0 a1))) a3) 150 a0 (wr ((wr (20 * a1)) + (gm s 147 a0 a1))) 0) 147 a0 a1) + 1))) else none else none else none else none else none else none) else fX12_penalizes_51 kb s
noncomputable def tX12_penalizes_51 (kb : Co) : List Rw := []
noncomputable def tX12_penalizes_0 (kb : Co) : List Rw := (51, [(7, 0), (7, 0), (7, 0), (7, 0), (7, 0)], [], fun xs ys s => fX12_penalizes_51 kb s) :: tX12_penalizes_51 kb
noncomputable def rX12_penalizes (kb : Co) : List Rw := (0, [(3, 12), (0, 0), (0, 0), (0, 0), (7, 0)], [], fun xs ys s => fX12_penalizes_0 kb (xs.getD 0 0) (xs.getD 1 0) (xs.getD 2 0) (xs.getD 3 0) s) :: tX12_penalizes_0 kb
noncomputable def kX12_penalizes : Nat → Co
  | 0 => nk
  | n + 1 => fam (rX12_penalizes (kX12_penalizes n)) nk
noncomputable def FX12_penalizes (a0 a1 a2 a3 : Int) (s : St) : Res := fX12_penalizes_0 (kX12_penalizes 0) a0 a1 a2 a3 s
noncomputable def gX12_penalizes : Fn := fun xs s => FX12_penalizes (xs.getD 0 0) (xs.getD 1 0) (xs.getD 2 0) (xs.getD 3 0) s
noncomputable def mdX12_penalizes : MD := ([(3, 12), (0, 0), (0, 0), (0, 0)], (9, 0), yX12_penalizes, cX12_penalizes, (5, none, 0, 0, []))
-- FloatparadeModel.timeOf(I)I
noncomputable def fX12_timeOf_29 (kb : Co) (y0 : Int) (s : St) : Res := some (0, y0, s)
noncomputable def fX12_timeOf_14 (kb : Co) (a0 a1 : Int) (s : St) : Res := if 0 ≤ a1 ∧ a1 < 10 then if 0 ≤ a1 ∧ a1 < 10 then fX12_timeOf_29 kb (wr ((wr ((gm s 144 a0 a1) - (gm s 143 a0 a1))) + 1)) s else none else none
noncomputable def fX12_timeOf_0 (kb : Co) (a0 a1 : Int) (s : St) : Res := if 0 ≤ a1 ∧ a1 < 10 then if (gm s 144 a0 a1) = (-1) then fX12_timeOf_29 kb (-1) s else fX12_timeOf_14 kb a0 a1 s else none
noncomputable def tX12_timeOf_29 (kb : Co) : List Rw := []
noncomputable def tX12_timeOf_14 (kb : Co) : List Rw := (29, [(7, 0), (7, 0)], [(0, 0)], fun xs ys s => fX12_timeOf_29 kb (ys.getD 0 0) s) :: tX12_timeOf_29 kb
noncomputable def tX12_timeOf_0 (kb : Co) : List Rw := (14, [(3, 12), (0, 0)], [], fun xs ys s => fX12_timeOf_14 kb (xs.getD 0 0) (xs.getD 1 0) s) :: tX12_timeOf_14 kb
noncomputable def rX12_timeOf (kb : Co) : List Rw := (0, [(3, 12), (0, 0)], [], fun xs ys s => fX12_timeOf_0 kb (xs.getD 0 0) (xs.getD 1 0) s) :: tX12_timeOf_0 kb
noncomputable def kX12_timeOf : Nat → Co
  | 0 => nk
  | n + 1 => fam (rX12_timeOf (kX12_timeOf n)) nk
noncomputable def FX12_timeOf (a0 a1 : Int) (s : St) : Res := fX12_timeOf_0 (kX12_timeOf 0) a0 a1 s
noncomputable def gX12_timeOf : Fn := fun xs s => FX12_timeOf (xs.getD 0 0) (xs.getD 1 0) s
noncomputable def mdX12_timeOf : MD := ([(3, 12), (0, 0)], (0, 0), yX12_timeOf, cX12_timeOf, (2, (some .int), 0, 0, []))
-- FloatparadeModel.looksAtClocks(I)V
noncomputable def fX12_looksAtClocks_277 (kb : Co) (s : St) : Res := some (0, 0, s)
noncomputable def fX12_looksAtClocks_269 (kb : Co) (a0 a1 a2 a3 y0 y1 y2 y3 : Int) (s : St) : Res := if 0 ≤ y2 ∧ y2 < 10 then kb 10 [(3, 12, a0), (0, 0, a1), (0, 0, a2), (0, 0, (wr (a3 + 1))), (7, 0, 0), (7, 0, 0), (7, 0, 0), (7, 0, 0)] [] (pm s 145 y3 y2 (wr (y1 + y0))) else none
noncomputable def fX12_looksAtClocks_268 (kb : Co) (a0 a1 a2 a3 y0 y1 y2 : Int) (s : St) : Res := fX12_looksAtClocks_269 kb a0 a1 a2 a3 0 y0 y1 y2 s
noncomputable def fX12_looksAtClocks_226 (kb : Co) (a0 a1 a2 a3 a4 a5 y0 : Int) (s : St) : Res := if 0 ≤ a5 ∧ a5 < 10 then if y0 = 0 then fX12_looksAtClocks_268 kb a0 a1 a2 a3 (gm s 145 a0 a5) a5 a0 s else bnd (FX12_tailOf a0 (wr (a4 - 1)) s) fun x1 s1 => if 0 ≤ a4 ∧ a4 < 120 then if 6 < (wr ((wr (x1 - (gm s1 138 a0 a4))) - 1)) then fX12_looksAtClocks_269 kb a0 a1 a2 a3 1 (gm s 145 a0 a5) a5 a0 s1 else fX12_looksAtClocks_268 kb a0 a1 a2 a3 (gm s 145 a0 a5) a5 a0 s1 else none else none
noncomputable def fX12_looksAtClocks_225 (kb : Co) (a0 a1 a2 a3 a4 a5 : Int) (s : St) : Res := fX12_looksAtClocks_226 kb a0 a1 a2 a3 a4 a5 0 s
noncomputable def fX12_looksAtClocks_212 (kb : Co) (a0 a1 a2 a3 a4 a5 y0 y1 : Int) (s : St) : Res := if 0 ≤ y0 ∧ y0 < 120 then bnd (FX12_in (gm s 138 y1 y0) 0 a2 s) fun x1 s1 => if x1 = 0 then fX12_looksAtClocks_225 kb a0 a1 a2 a3 a4 a5 s1 else fX12_looksAtClocks_226 kb a0 a1 a2 a3 a4 a5 1 s1 else none
noncomputable def fX12_looksAtClocks_210 (kb : Co) (a0 a1 a2 a3 a4 a5 y0 : Int) (s : St) : Res := fX12_looksAtClocks_212 kb a0 a1 a2 a3 a4 a5 a4 y0 s
noncomputable def fX12_looksAtClocks_161 (kb : Co) (a0 a1 a2 a3 a4 a5 y0 y1 y2 : Int) (s : St) : Res := if 0 ≤ y1 ∧ y1 < 10 then if 0 < a3 then (if 0 ≤ (wr (a4 - 1)) ∧ (wr (a4 - 1)) < 120 then if (gm (pm s 144 y2 y1 y0) 135 a0 (wr (a4 - 1))) = a5 then (if 0 ≤ a4 ∧ a4 < 120 then bnd (FX12_in (gm (pm s 144 y2 y1 y0) 138 a0 a4) 0 a2 (pm s 144 y2 y1 y0)) fun x1 s1 => if x1 = 0 then fX12_looksAtClocks_225 kb a0 a1 a2 a3 a4 a5 s1 else if 0 < a3 then fX12_looksAtClocks_212 kb a0 a1 a2 a3 a4 a5 (wr (a4 - 1)) a0 s1 else fX12_looksAtClocks_210 kb a0 a1 a2 a3 a4 a5 a0 s1 else none) else fX12_looksAtClocks_225 kb a0 a1 a2 a3 a4 a5 (pm s 144 y2 y1 y0) else none) else fX12_looksAtClocks_225 kb a0 a1 a2 a3 a4 a5 (pm s 144 y2 y1 y0) else none
noncomputable def fX12_looksAtClocks_154 (kb : Co) (a0 a1 a2 a3 a4 a5 y0 y1 : Int) (s : St) : Res := if 0 ≤ a5 ∧ a5 < 10 then fX12_looksAtClocks_161 kb a0 a1 a2 a3 a4 a5 (gm s 144 a0 a5) y0 y1 s else none
noncomputable def fX12_looksAtClocks_112 (kb : Co) (a0 a1 a2 a3 a4 a5 y0 : Int) (s : St) : Res := if y0 = 0 then fX12_looksAtClocks_154 kb a0 a1 a2 a3 a4 a5 a5 a0 s else if 0 ≤ a5 ∧ a5 < 10 then if (gm s 144 a0 a5) = (-1) then (bnd (FX12_isOut a0 a1 a3 s) fun x1 s1 => if x1 = 0 then fX12_looksAtClocks_154 kb a0 a1 a2 a3 a4 a5 a5 a0 s1 else if 0 ≤ a1 ∧ a1 < 2 then fX12_looksAtClocks_161 kb a0 a1 a2 a3 a4 a5 (gm s1 131 a0 a1) a5 a0 s1 else none) else fX12_looksAtClocks_154 kb a0 a1 a2 a3 a4 a5 a5 a0 s else none
noncomputable def fX12_looksAtClocks_111 (kb : Co) (a0 a1 a2 a3 a4 a5 : Int) (s : St) : Res := fX12_looksAtClocks_112 kb a0 a1 a2 a3 a4 a5 0 s
noncomputable def fX12_looksAtClocks_107 (kb : Co) (a0 a1 a2 a3 a4 a5 : Int) (s : St) : Res := fX12_looksAtClocks_112 kb a0 a1 a2 a3 a4 a5 1 s
noncomputable def fX12_looksAtClocks_80 (kb : Co) (a0 a1 a2 a3 a4 a5 y0 y1 y2 : Int) (s : St) : Res := if 0 ≤ y1 ∧ y1 < 10 then if 0 ≤ a1 ∧ a1 < 2 then if a3 = (wr ((gm (pm s 143 y2 y1 y0) 134 a0 a1) - 1)) then fX12_looksAtClocks_107 kb a0 a1 a2 a3 a4 a5 (pm s 143 y2 y1 y0) else if 0 ≤ (wr (a4 + 1)) ∧ (wr (a4 + 1)) < 120 then if (gm (pm s 143 y2 y1 y0) 135 a0 (wr (a4 + 1))) = a5 then fX12_looksAtClocks_111 kb a0 a1 a2 a3 a4 a5 (pm s 143 y2 y1 y0) else fX12_looksAtClocks_107 kb a0 a1 a2 a3 a4 a5 (pm s 143 y2 y1 y0) else none else none else none
noncomputable def fX12_looksAtClocks_73 (kb : Co) (a0 a1 a2 a3 a4 a5 y0 y1 : Int) (s : St) : Res := if 0 ≤ a5 ∧ a5 < 10 then fX12_looksAtClocks_80 kb a0 a1 a2 a3 a4 a5 (gm s 143 a0 a5) y0 y1 s else none
noncomputable def fX12_looksAtClocks_10 (kb : Co) (a0 a1 a2 a3 : Int) (s : St) : Res := if 0 ≤ a1 ∧ a1 < 2 then if a3 < (gm s 134 a0 a1) then (if 0 ≤ (wr ((wr (60 * a1)) + a3)) ∧ (wr ((wr (60 * a1)) + a3)) < 120 then if 0 ≤ (gm s 135 a0 (wr ((wr (60 * a1)) + a3))) ∧ (gm s 135 a0 (wr ((wr (60 * a1)) + a3))) < 10 then if (gm s 143 a0 (gm s 135 a0 (wr ((wr (60 * a1)) + a3)))) = (-1) then (if 0 ≤ (wr ((wr (60 * a1)) + a3)) ∧ (wr ((wr (60 * a1)) + a3)) < 120 then if (gm s 138 a0 (wr ((wr (60 * a1)) + a3))) < 0 then fX12_looksAtClocks_73 kb a0 a1 a2 a3 (wr ((wr (60 * a1)) + a3)) (gm s 135 a0 (wr ((wr (60 * a1)) + a3))) (gm s 135 a0 (wr ((wr (60 * a1)) + a3))) a0 s else if 0 ≤ a1 ∧ a1 < 2 then fX12_looksAtClocks_80 kb a0 a1 a2 a3 (wr ((wr (60 * a1)) + a3)) (gm s 135 a0 (wr ((wr (60 * a1)) + a3))) (gm s 131 a0 a1) (gm s 135 a0 (wr ((wr (60 * a1)) + a3))) a0 s else none else none) else fX12_looksAtClocks_73 kb a0 a1 a2 a3 (wr ((wr (60 * a1)) + a3)) (gm s 135 a0 (wr ((wr (60 * a1)) + a3))) (gm s 135 a0 (wr ((wr (60 * a1)) + a3))) a0 s else none else none) else fX12_looksAtClocks_277 kb s else none
noncomputable def fX12_looksAtClocks_0 (kb : Co) (a0 a1 : Int) (s : St) : Res := bnd (FX12_cells a0 a1 s) fun x1 s1 => fX12_looksAtClocks_10 kb a0 a1 (wr (x1 - 1)) 0 s1
noncomputable def tX12_looksAtClocks_277 (kb : Co) : List Rw := []
noncomputable def tX12_looksAtClocks_269 (kb : Co) : List Rw := (277, [(7, 0), (7, 0), (7, 0), (7, 0), (7, 0), (7, 0), (7, 0), (7, 0)], [], fun xs ys s => fX12_looksAtClocks_277 kb s) :: tX12_looksAtClocks_277 kb
noncomputable def tX12_looksAtClocks_268 (kb : Co) : List Rw := (269, [(3, 12), (0, 0), (0, 0), (0, 0), (7, 0), (7, 0), (7, 0), (7, 0)], [(0, 0), (0, 0), (0, 0), (3, 145)], fun xs ys s => fX12_looksAtClocks_269 kb (xs.getD 0 0) (xs.getD 1 0) (xs.getD 2 0) (xs.getD 3 0) (ys.getD 0 0) (ys.getD 1 0) (ys.getD 2 0) (ys.getD 3 0) s) :: tX12_looksAtClocks_269 kb
noncomputable def tX12_looksAtClocks_226 (kb : Co) : List Rw := (268, [(3, 12), (0, 0), (0, 0), (0, 0), (7, 0), (7, 0), (7, 0), (7, 0)], [(0, 0), (0, 0), (3, 145)], fun xs ys s => fX12_looksAtClocks_268 kb (xs.getD 0 0) (xs.getD 1 0) (xs.getD 2 0) (xs.getD 3 0) (ys.getD 0 0) (ys.getD 1 0) (ys.getD 2 0) s) :: tX12_looksAtClocks_268 kb
noncomputable def tX12_looksAtClocks_225 (kb : Co) : List Rw := (226, [(3, 12), (0, 0), (0, 0), (0, 0), (0, 0), (0, 0), (7, 0), (7, 0)], [(0, 0)], fun xs ys s => fX12_looksAtClocks_226 kb (xs.getD 0 0) (xs.getD 1 0) (xs.getD 2 0) (xs.getD 3 0) (xs.getD 4 0) (xs.getD 5 0) (ys.getD 0 0) s) :: tX12_looksAtClocks_226 kb
noncomputable def tX12_looksAtClocks_212 (kb : Co) : List Rw := (225, [(3, 12), (0, 0), (0, 0), (0, 0), (0, 0), (0, 0), (7, 0), (7, 0)], [], fun xs ys s => fX12_looksAtClocks_225 kb (xs.getD 0 0) (xs.getD 1 0) (xs.getD 2 0) (xs.getD 3 0) (xs.getD 4 0) (xs.getD 5 0) s) :: tX12_looksAtClocks_225 kb
noncomputable def tX12_looksAtClocks_210 (kb : Co) : List Rw := (212, [(3, 12), (0, 0), (0, 0), (0, 0), (0, 0), (0, 0), (7, 0), (7, 0)], [(0, 0), (3, 138)], fun xs ys s => fX12_looksAtClocks_212 kb (xs.getD 0 0) (xs.getD 1 0) (xs.getD 2 0) (xs.getD 3 0) (xs.getD 4 0) (xs.getD 5 0) (ys.getD 0 0) (ys.getD 1 0) s) :: tX12_looksAtClocks_212 kb
noncomputable def tX12_looksAtClocks_161 (kb : Co) : List Rw := (210, [(3, 12), (0, 0), (0, 0), (0, 0), (0, 0), (0, 0), (7, 0), (7, 0)], [(3, 138)], fun xs ys s => fX12_looksAtClocks_210 kb (xs.getD 0 0) (xs.getD 1 0) (xs.getD 2 0) (xs.getD 3 0) (xs.getD 4 0) (xs.getD 5 0) (ys.getD 0 0) s) :: tX12_looksAtClocks_210 kb
noncomputable def tX12_looksAtClocks_154 (kb : Co) : List Rw := (161, [(3, 12), (0, 0), (0, 0), (0, 0), (0, 0), (0, 0), (7, 0), (7, 0)], [(0, 0), (0, 0), (3, 144)], fun xs ys s => fX12_looksAtClocks_161 kb (xs.getD 0 0) (xs.getD 1 0) (xs.getD 2 0) (xs.getD 3 0) (xs.getD 4 0) (xs.getD 5 0) (ys.getD 0 0) (ys.getD 1 0) (ys.getD 2 0) s) :: tX12_looksAtClocks_161 kb
noncomputable def tX12_looksAtClocks_112 (kb : Co) : List Rw := (154, [(3, 12), (0, 0), (0, 0), (0, 0), (0, 0), (0, 0), (7, 0), (7, 0)], [(0, 0), (3, 144)], fun xs ys s => fX12_looksAtClocks_154 kb (xs.getD 0 0) (xs.getD 1 0) (xs.getD 2 0) (xs.getD 3 0) (xs.getD 4 0) (xs.getD 5 0) (ys.getD 0 0) (ys.getD 1 0) s) :: tX12_looksAtClocks_154 kb
noncomputable def tX12_looksAtClocks_111 (kb : Co) : List Rw := (112, [(3, 12), (0, 0), (0, 0), (0, 0), (0, 0), (0, 0), (7, 0), (7, 0)], [(0, 0)], fun xs ys s => fX12_looksAtClocks_112 kb (xs.getD 0 0) (xs.getD 1 0) (xs.getD 2 0) (xs.getD 3 0) (xs.getD 4 0) (xs.getD 5 0) (ys.getD 0 0) s) :: tX12_looksAtClocks_112 kb
noncomputable def tX12_looksAtClocks_107 (kb : Co) : List Rw := (111, [(3, 12), (0, 0), (0, 0), (0, 0), (0, 0), (0, 0), (7, 0), (7, 0)], [], fun xs ys s => fX12_looksAtClocks_111 kb (xs.getD 0 0) (xs.getD 1 0) (xs.getD 2 0) (xs.getD 3 0) (xs.getD 4 0) (xs.getD 5 0) s) :: tX12_looksAtClocks_111 kb
noncomputable def tX12_looksAtClocks_80 (kb : Co) : List Rw := (107, [(3, 12), (0, 0), (0, 0), (0, 0), (0, 0), (0, 0), (7, 0), (7, 0)], [], fun xs ys s => fX12_looksAtClocks_107 kb (xs.getD 0 0) (xs.getD 1 0) (xs.getD 2 0) (xs.getD 3 0) (xs.getD 4 0) (xs.getD 5 0) s) :: tX12_looksAtClocks_107 kb
noncomputable def tX12_looksAtClocks_73 (kb : Co) : List Rw := (80, [(3, 12), (0, 0), (0, 0), (0, 0), (0, 0), (0, 0), (7, 0), (7, 0)], [(0, 0), (0, 0), (3, 143)], fun xs ys s => fX12_looksAtClocks_80 kb (xs.getD 0 0) (xs.getD 1 0) (xs.getD 2 0) (xs.getD 3 0) (xs.getD 4 0) (xs.getD 5 0) (ys.getD 0 0) (ys.getD 1 0) (ys.getD 2 0) s) :: tX12_looksAtClocks_80 kb
noncomputable def tX12_looksAtClocks_10 (kb : Co) : List Rw := (73, [(3, 12), (0, 0), (0, 0), (0, 0), (0, 0), (0, 0), (7, 0), (7, 0)], [(0, 0), (3, 143)], fun xs ys s => fX12_looksAtClocks_73 kb (xs.getD 0 0) (xs.getD 1 0) (xs.getD 2 0) (xs.getD 3 0) (xs.getD 4 0) (xs.getD 5 0) (ys.getD 0 0) (ys.getD 1 0) s) :: tX12_looksAtClocks_73 kb
noncomputable def tX12_looksAtClocks_0 (kb : Co) : List Rw := (10, [(3, 12), (0, 0), (0, 0), (0, 0), (7, 0), (7, 0), (7, 0), (7, 0)], [], fun xs ys s => fX12_looksAtClocks_10 kb (xs.getD 0 0) (xs.getD 1 0) (xs.getD 2 0) (xs.getD 3 0) s) :: tX12_looksAtClocks_10 kb
noncomputable def rX12_looksAtClocks (kb : Co) : List Rw := (0, [(3, 12), (0, 0), (7, 0), (7, 0), (7, 0), (7, 0), (7, 0), (7, 0)], [], fun xs ys s => fX12_looksAtClocks_0 kb (xs.getD 0 0) (xs.getD 1 0) s) :: tX12_looksAtClocks_0 kb
noncomputable def kX12_looksAtClocks : Nat → Co
  | 0 => nk
  | n + 1 => fam (rX12_looksAtClocks (kX12_looksAtClocks n)) nk
noncomputable def FX12_looksAtClocks (a0 a1 : Int) (s : St) : Res := fX12_looksAtClocks_0 (kX12_looksAtClocks 9999) a0 a1 s
noncomputable def gX12_looksAtClocks : Fn := fun xs s => FX12_looksAtClocks (xs.getD 0 0) (xs.getD 1 0) s
noncomputable def mdX12_looksAtClocks : MD := ([(3, 12), (0, 0)], (9, 0), yX12_looksAtClocks, cX12_looksAtClocks, (8, none, 4, 92, []))
-- FloatparadeModel.goes(I)Z
noncomputable def fX12_goes_163 (kb : Co) (y0 : Int) (s : St) : Res := if (y0 : Int) = 0 ∨ (y0 : Int) = 1 then some (0, y0, s) else none
noncomputable def fX12_goes_162 (kb : Co) (s : St) : Res := fX12_goes_163 kb 0 s
noncomputable def fX12_goes_142 (kb : Co) (a0 a1 : Int) (s : St) : Res := if 0 ≤ a1 ∧ a1 < 2 then bnd (FX12_isOut a0 a1 (wr ((gm s 134 a0 a1) - 1)) s) fun x1 s1 => if x1 = 0 then fX12_goes_163 kb 1 s1 else fX12_goes_162 kb s1 else none
noncomputable def fX12_goes_134 (kb : Co) (a0 a1 a2 y0 y1 y2 y3 : Int) (s : St) : Res := if 0 ≤ y2 ∧ y2 < 24 then kb 102 [(3, 12, a0), (0, 0, a1), (0, 0, (wr (a2 + 1)))] [] (pm s 141 y3 y2 (wr (y1 - y0))) else none
noncomputable def fX12_goes_133 (kb : Co) (a0 a1 a2 y0 y1 y2 : Int) (s : St) : Res := fX12_goes_134 kb a0 a1 a2 0 y0 y1 y2 s
noncomputable def fX12_goes_102 (kb : Co) (a0 a1 a2 : Int) (s : St) : Res := if a2 < (wr ((wr (12 * a1)) + 12)) then (if 0 ≤ a2 ∧ a2 < 24 then if 0 ≤ a2 ∧ a2 < 24 then if 0 < (gm s 141 a0 a2) then fX12_goes_134 kb a0 a1 a2 1 (gm s 141 a0 a2) a2 a0 s else fX12_goes_133 kb a0 a1 a2 (gm s 141 a0 a2) a2 a0 s else none else none) else fX12_goes_142 kb a0 a1 s
noncomputable def fX12_goes_97 (kb : Co) (a0 a1 : Int) (s : St) : Res := fX12_goes_102 kb a0 a1 (wr (12 * a1)) s
noncomputable def fX12_goes_89 (kb : Co) (a0 a1 a2 y0 y1 y2 y3 : Int) (s : St) : Res := if 0 ≤ y2 ∧ y2 < 120 then kb 53 [(3, 12, a0), (0, 0, a1), (0, 0, (wr (a2 + 1)))] [] (pm s 139 y3 y2 (wr (y1 - y0))) else none
noncomputable def fX12_goes_88 (kb : Co) (a0 a1 a2 y0 y1 y2 : Int) (s : St) : Res := fX12_goes_89 kb a0 a1 a2 0 y0 y1 y2 s
noncomputable def fX12_goes_53 (kb : Co) (a0 a1 a2 : Int) (s : St) : Res := if 0 ≤ a1 ∧ a1 < 2 then if a2 < (wr ((wr (60 * a1)) + (gm s 134 a0 a1))) then (if 0 ≤ a2 ∧ a2 < 120 then if 0 ≤ a2 ∧ a2 < 120 then if 0 < (gm s 139 a0 a2) then fX12_goes_89 kb a0 a1 a2 1 (gm s 139 a0 a2) a2 a0 s else fX12_goes_88 kb a0 a1 a2 (gm s 139 a0 a2) a2 a0 s else none else none) else fX12_goes_97 kb a0 a1 s else none
noncomputable def fX12_goes_43 (kb : Co) (a0 a1 : Int) (s : St) : Res := bnd (FX12_looksAtClocks a0 a1 s) fun _ s1 => fX12_goes_53 kb a0 a1 (wr (60 * a1)) s1
noncomputable def fX12_goes_37 (kb : Co) (a0 a1 a2 : Int) (s : St) : Res := kb 12 [(3, 12, a0), (0, 0, a1), (0, 0, (wr (a2 + 1)))] [] s
noncomputable def fX12_goes_12 (kb : Co) (a0 a1 a2 : Int) (s : St) : Res := if 0 ≤ a1 ∧ a1 < 2 then if a2 < (gm s 134 a0 a1) then (bnd (FX12_isOut a0 a1 a2 s) fun x1 s1 => if x1 = 0 then (bnd (FX12_moves a0 a1 a2 s1) fun _ s2 => fX12_goes_37 kb a0 a1 a2 s2) else fX12_goes_37 kb a0 a1 a2 s1) else fX12_goes_43 kb a0 a1 s else none
noncomputable def fX12_goes_0 (kb : Co) (a0 a1 : Int) (s : St) : Res := if 0 ≤ a1 ∧ a1 < 2 then if 0 ≤ a1 ∧ a1 < 2 then fX12_goes_12 kb a0 a1 0 (pm s 131 a0 a1 (wr ((gm s 131 a0 a1) + 1))) else none else none
noncomputable def tX12_goes_163 (kb : Co) : List Rw := []
noncomputable def tX12_goes_162 (kb : Co) : List Rw := (163, [(7, 0), (7, 0), (7, 0)], [(0, 0)], fun xs ys s => fX12_goes_163 kb (ys.getD 0 0) s) :: tX12_goes_163 kb
noncomputable def tX12_goes_142 (kb : Co) : List Rw := (162, [(7, 0), (7, 0), (7, 0)], [], fun xs ys s => fX12_goes_162 kb s) :: tX12_goes_162 kb
noncomputable def tX12_goes_134 (kb : Co) : List Rw := (142, [(3, 12), (0, 0), (7, 0)], [], fun xs ys s => fX12_goes_142 kb (xs.getD 0 0) (xs.getD 1 0) s) :: tX12_goes_142 kb
noncomputable def tX12_goes_133 (kb : Co) : List Rw := (134, [(3, 12), (0, 0), (0, 0)], [(0, 0), (0, 0), (0, 0), (3, 141)], fun xs ys s => fX12_goes_134 kb (xs.getD 0 0) (xs.getD 1 0) (xs.getD 2 0) (ys.getD 0 0) (ys.getD 1 0) (ys.getD 2 0) (ys.getD 3 0) s) :: tX12_goes_134 kb
noncomputable def tX12_goes_102 (kb : Co) : List Rw := (133, [(3, 12), (0, 0), (0, 0)], [(0, 0), (0, 0), (3, 141)], fun xs ys s => fX12_goes_133 kb (xs.getD 0 0) (xs.getD 1 0) (xs.getD 2 0) (ys.getD 0 0) (ys.getD 1 0) (ys.getD 2 0) s) :: tX12_goes_133 kb
noncomputable def tX12_goes_97 (kb : Co) : List Rw := (102, [(3, 12), (0, 0), (0, 0)], [], fun xs ys s => fX12_goes_102 kb (xs.getD 0 0) (xs.getD 1 0) (xs.getD 2 0) s) :: tX12_goes_102 kb
noncomputable def tX12_goes_89 (kb : Co) : List Rw := (97, [(3, 12), (0, 0), (7, 0)], [], fun xs ys s => fX12_goes_97 kb (xs.getD 0 0) (xs.getD 1 0) s) :: tX12_goes_97 kb
noncomputable def tX12_goes_88 (kb : Co) : List Rw := (89, [(3, 12), (0, 0), (0, 0)], [(0, 0), (0, 0), (0, 0), (3, 139)], fun xs ys s => fX12_goes_89 kb (xs.getD 0 0) (xs.getD 1 0) (xs.getD 2 0) (ys.getD 0 0) (ys.getD 1 0) (ys.getD 2 0) (ys.getD 3 0) s) :: tX12_goes_89 kb
noncomputable def tX12_goes_53 (kb : Co) : List Rw := (88, [(3, 12), (0, 0), (0, 0)], [(0, 0), (0, 0), (3, 139)], fun xs ys s => fX12_goes_88 kb (xs.getD 0 0) (xs.getD 1 0) (xs.getD 2 0) (ys.getD 0 0) (ys.getD 1 0) (ys.getD 2 0) s) :: tX12_goes_88 kb
noncomputable def tX12_goes_43 (kb : Co) : List Rw := (53, [(3, 12), (0, 0), (0, 0)], [], fun xs ys s => fX12_goes_53 kb (xs.getD 0 0) (xs.getD 1 0) (xs.getD 2 0) s) :: tX12_goes_53 kb
noncomputable def tX12_goes_37 (kb : Co) : List Rw := (43, [(3, 12), (0, 0), (7, 0)], [], fun xs ys s => fX12_goes_43 kb (xs.getD 0 0) (xs.getD 1 0) s) :: tX12_goes_43 kb
noncomputable def tX12_goes_12 (kb : Co) : List Rw := (37, [(3, 12), (0, 0), (0, 0)], [], fun xs ys s => fX12_goes_37 kb (xs.getD 0 0) (xs.getD 1 0) (xs.getD 2 0) s) :: tX12_goes_37 kb
noncomputable def tX12_goes_0 (kb : Co) : List Rw := (12, [(3, 12), (0, 0), (0, 0)], [], fun xs ys s => fX12_goes_12 kb (xs.getD 0 0) (xs.getD 1 0) (xs.getD 2 0) s) :: tX12_goes_12 kb
noncomputable def rX12_goes (kb : Co) : List Rw := (0, [(3, 12), (0, 0), (7, 0)], [], fun xs ys s => fX12_goes_0 kb (xs.getD 0 0) (xs.getD 1 0) s) :: tX12_goes_0 kb
noncomputable def kX12_goes : Nat → Co
  | 0 => nk
  | n + 1 => fam (rX12_goes (kX12_goes n)) nk
noncomputable def FX12_goes (a0 a1 : Int) (s : St) : Res := fX12_goes_0 (kX12_goes 9999) a0 a1 s
noncomputable def gX12_goes : Fn := fun xs s => FX12_goes (xs.getD 0 0) (xs.getD 1 0) s
noncomputable def mdX12_goes : MD := ([(3, 12), (0, 0)], (0, 0), yX12_goes, cX12_goes, (3, (some .boolean), 5, 120, []))
-- FloatparadeModel.ends(I)V
noncomputable def fX12_ends_94 (kb : Co) (s : St) : Res := some (0, 0, s)
noncomputable def fX12_ends_88 (kb : Co) (a0 a1 a2 : Int) (s : St) : Res := kb 9 [(3, 12, a0), (0, 0, a1), (0, 0, (wr (a2 + 1)))] [] s
noncomputable def fX12_ends_9 (kb : Co) (a0 a1 a2 : Int) (s : St) : Res := if a2 < (gm s 12 a0 1) then (if 0 ≤ a2 ∧ a2 < 10 then if (gm s 102 a0 a2) = a1 then (if 0 ≤ a2 ∧ a2 < 10 then if (gm s 124 a0 a2) = 0 then fX12_ends_88 kb a0 a1 a2 s else if 0 ≤ a1 ∧ a1 < 2 then bnd (FX12_timeOf a0 a2 s) fun x1 s1 => bnd (FX12_penalizes a0 a2 1 (wr (2 * (wr ((gm s 132 a0 a1) - x1)))) s1) fun _ s2 => bnd (FX12_timeOf a0 a2 s2) fun x3 s3 => if 0 ≤ a1 ∧ a1 < 2 then bnd (FX12_penalizes a0 a2 2 (wr (2 * (wr (x3 - (gm s3 133 a0 a1))))) s3) fun _ s4 => if 0 ≤ a2 ∧ a2 < 10 then bnd (FX12_penalizes a0 a2 3 (gm s4 145 a0 a2) s4) fun _ s5 => fX12_ends_88 kb a0 a1 a2 s5 else none else none else none else none) else fX12_ends_88 kb a0 a1 a2 s else none) else fX12_ends_94 kb s
noncomputable def fX12_ends_0 (kb : Co) (a0 a1 : Int) (s : St) : Res := if 0 ≤ a1 ∧ a1 < 2 then fX12_ends_9 kb a0 a1 0 (pm s 130 a0 a1 2) else none
noncomputable def tX12_ends_94 (kb : Co) : List Rw := []
noncomputable def tX12_ends_88 (kb : Co) : List Rw := (94, [(7, 0), (7, 0), (7, 0)], [], fun xs ys s => fX12_ends_94 kb s) :: tX12_ends_94 kb
noncomputable def tX12_ends_9 (kb : Co) : List Rw := (88, [(3, 12), (0, 0), (0, 0)], [], fun xs ys s => fX12_ends_88 kb (xs.getD 0 0) (xs.getD 1 0) (xs.getD 2 0) s) :: tX12_ends_88 kb
noncomputable def tX12_ends_0 (kb : Co) : List Rw := (9, [(3, 12), (0, 0), (0, 0)], [], fun xs ys s => fX12_ends_9 kb (xs.getD 0 0) (xs.getD 1 0) (xs.getD 2 0) s) :: tX12_ends_9 kb
noncomputable def rX12_ends (kb : Co) : List Rw := (0, [(3, 12), (0, 0), (7, 0)], [], fun xs ys s => fX12_ends_0 kb (xs.getD 0 0) (xs.getD 1 0) s) :: tX12_ends_0 kb
noncomputable def kX12_ends : Nat → Co
  | 0 => nk
  | n + 1 => fam (rX12_ends (kX12_ends n)) nk
noncomputable def FX12_ends (a0 a1 : Int) (s : St) : Res := fX12_ends_0 (kX12_ends 9999) a0 a1 s
noncomputable def gX12_ends : Fn := fun xs s => FX12_ends (xs.getD 0 0) (xs.getD 1 0) s
noncomputable def mdX12_ends : MD := ([(3, 12), (0, 0)], (9, 0), yX12_ends, cX12_ends, (3, none, 1, 24, []))
-- FloatparadeModel.march(II)I
noncomputable def fX12_march_93 (kb : Co) (a0 a1 : Int) (s : St) : Res := if 0 ≤ a1 ∧ a1 < 2 then some (0, (gm s 131 a0 a1), s) else none
noncomputable def fX12_march_87 (kb : Co) (a0 a1 a2 a4 : Int) (s : St) : Res := kb 58 [(3, 12, a0), (0, 0, a1), (0, 0, a2), (7, 0, 0), (0, 0, (wr (a4 + 1)))] [] s
noncomputable def fX12_march_58 (kb : Co) (a0 a1 a2 a4 : Int) (s : St) : Res := if a4 < a2 then (if 0 ≤ a1 ∧ a1 < 2 then if (gm s 130 a0 a1) = 1 then (bnd (FX12_goes a0 a1 s) fun x1 s1 => if x1 = 0 then (bnd (FX12_ends a0 a1 s1) fun _ s2 => fX12_march_87 kb a0 a1 a2 a4 s2) else fX12_march_87 kb a0 a1 a2 a4 s1) else fX12_march_93 kb a0 a1 s else none) else fX12_march_93 kb a0 a1 s
noncomputable def fX12_march_55 (kb : Co) (a0 a1 a2 : Int) (s : St) : Res := fX12_march_58 kb a0 a1 a2 0 s
noncomputable def fX12_march_47 (kb : Co) (a0 a1 a2 y0 y1 : Int) (s : St) : Res := bnd (FX12_holds y1 y0 s) fun x1 s1 => if x1 = 0 then some (0, 0, s1) else fX12_march_55 kb a0 a1 a2 s1
noncomputable def fX12_march_46 (kb : Co) (a0 a1 a2 y0 : Int) (s : St) : Res := fX12_march_47 kb a0 a1 a2 2 y0 s
noncomputable def fX12_march_32 (kb : Co) (a0 a1 a2 y0 : Int) (s : St) : Res := if 0 ≤ a1 ∧ a1 < 2 then if (gm s 130 a0 a1) = 1 then fX12_march_47 kb a0 a1 a2 0 y0 s else fX12_march_46 kb a0 a1 a2 y0 s else none
noncomputable def fX12_march_22 (kb : Co) (a0 a1 a2 y0 : Int) (s : St) : Res := if y0 = 0 then fX12_march_47 kb a0 a1 a2 1 a0 s else fX12_march_32 kb a0 a1 a2 a0 s
noncomputable def fX12_march_21 (kb : Co) (a0 a1 a2 : Int) (s : St) : Res := fX12_march_22 kb a0 a1 a2 0 s
noncomputable def fX12_march_0 (kb : Co) (a0 a1 a2 : Int) (s : St) : Res := bnd (FX12_isLeague a1 s) fun x1 s1 => if x1 = 0 then fX12_march_21 kb a0 a1 a2 s1 else bnd (FX12_in a2 1 60 s1) fun x2 s2 => if x2 = 0 then fX12_march_21 kb a0 a1 a2 s2 else fX12_march_22 kb a0 a1 a2 1 s2
noncomputable def tX12_march_93 (kb : Co) : List Rw := []
noncomputable def tX12_march_87 (kb : Co) : List Rw := (93, [(3, 12), (0, 0), (7, 0), (7, 0), (7, 0)], [], fun xs ys s => fX12_march_93 kb (xs.getD 0 0) (xs.getD 1 0) s) :: tX12_march_93 kb
noncomputable def tX12_march_58 (kb : Co) : List Rw := (87, [(3, 12), (0, 0), (0, 0), (7, 0), (0, 0)], [], fun xs ys s => fX12_march_87 kb (xs.getD 0 0) (xs.getD 1 0) (xs.getD 2 0) (xs.getD 3 0) s) :: tX12_march_87 kb
noncomputable def tX12_march_55 (kb : Co) : List Rw := (58, [(3, 12), (0, 0), (0, 0), (7, 0), (0, 0)], [], fun xs ys s => fX12_march_58 kb (xs.getD 0 0) (xs.getD 1 0) (xs.getD 2 0) (xs.getD 3 0) s) :: tX12_march_58 kb
noncomputable def tX12_march_47 (kb : Co) : List Rw := (55, [(3, 12), (0, 0), (0, 0), (7, 0), (7, 0)], [], fun xs ys s => fX12_march_55 kb (xs.getD 0 0) (xs.getD 1 0) (xs.getD 2 0) s) :: tX12_march_55 kb
noncomputable def tX12_march_46 (kb : Co) : List Rw := (47, [(3, 12), (0, 0), (0, 0), (7, 0), (7, 0)], [(0, 0), (3, 12)], fun xs ys s => fX12_march_47 kb (xs.getD 0 0) (xs.getD 1 0) (xs.getD 2 0) (ys.getD 0 0) (ys.getD 1 0) s) :: tX12_march_47 kb
noncomputable def tX12_march_32 (kb : Co) : List Rw := (46, [(3, 12), (0, 0), (0, 0), (7, 0), (7, 0)], [(3, 12)], fun xs ys s => fX12_march_46 kb (xs.getD 0 0) (xs.getD 1 0) (xs.getD 2 0) (ys.getD 0 0) s) :: tX12_march_46 kb
noncomputable def tX12_march_22 (kb : Co) : List Rw := (32, [(3, 12), (0, 0), (0, 0), (7, 0), (7, 0)], [(3, 12)], fun xs ys s => fX12_march_32 kb (xs.getD 0 0) (xs.getD 1 0) (xs.getD 2 0) (ys.getD 0 0) s) :: tX12_march_32 kb
noncomputable def tX12_march_21 (kb : Co) : List Rw := (22, [(3, 12), (0, 0), (0, 0), (7, 0), (7, 0)], [(0, 0)], fun xs ys s => fX12_march_22 kb (xs.getD 0 0) (xs.getD 1 0) (xs.getD 2 0) (ys.getD 0 0) s) :: tX12_march_22 kb
noncomputable def tX12_march_0 (kb : Co) : List Rw := (21, [(3, 12), (0, 0), (0, 0), (7, 0), (7, 0)], [], fun xs ys s => fX12_march_21 kb (xs.getD 0 0) (xs.getD 1 0) (xs.getD 2 0) s) :: tX12_march_21 kb
noncomputable def rX12_march (kb : Co) : List Rw := (0, [(3, 12), (0, 0), (0, 0), (7, 0), (7, 0)], [], fun xs ys s => fX12_march_0 kb (xs.getD 0 0) (xs.getD 1 0) (xs.getD 2 0) s) :: tX12_march_0 kb
noncomputable def kX12_march : Nat → Co
  | 0 => nk
  | n + 1 => fam (rX12_march (kX12_march n)) nk
noncomputable def FX12_march (a0 a1 a2 : Int) (s : St) : Res := fX12_march_0 (kX12_march 9999) a0 a1 a2 s
noncomputable def gX12_march : Fn := fun xs s => FX12_march (xs.getD 0 0) (xs.getD 1 0) (xs.getD 2 0) s
noncomputable def mdX12_march : MD := ([(3, 12), (0, 0), (0, 0)], (0, 0), yX12_march, cX12_march, (5, (some .int), 6, 142, []))
-- FloatparadeModel.part(III)I
noncomputable def fX12_part_171 (kb : Co) (y0 : Int) (s : St) : Res := some (0, y0, s)
noncomputable def fX12_part_170 (kb : Co) (s : St) : Res := fX12_part_171 kb 0 s
noncomputable def fX12_part_157 (kb : Co) (a0 a1 a2 : Int) (s : St) : Res := bnd (FX12_isOut a0 a1 a2 s) fun x1 s1 => if x1 = 0 then fX12_part_170 kb s1 else fX12_part_171 kb 1 s1
noncomputable def fX12_part_142 (kb : Co) (a0 a1 a2 a3 a6 : Int) (s : St) : Res := if a3 = 3 then (if 0 ≤ a6 ∧ a6 < 120 then fX12_part_171 kb (gm s 137 a0 a6) s else none) else fX12_part_157 kb a0 a1 a2 s
noncomputable def fX12_part_141 (kb : Co) (y0 : Int) (s : St) : Res := some (0, y0, s)
noncomputable def fX12_part_134 (kb : Co) (a0 a6 : Int) (s : St) : Res := if 0 ≤ a6 ∧ a6 < 120 then fX12_part_141 kb (gm s 138 a0 a6) s else none
noncomputable def fX12_part_119 (kb : Co) (a0 a3 a6 : Int) (s : St) : Res := if a3 = 1 then (if 0 ≤ a6 ∧ a6 < 120 then fX12_part_141 kb (gm s 136 a0 a6) s else none) else fX12_part_134 kb a0 a6 s
noncomputable def fX12_part_92 (kb : Co) (a0 a1 a2 a3 : Int) (s : St) : Res := if a3 < 3 then (if a3 = 0 then (if 0 ≤ (wr ((wr (60 * a1)) + a2)) ∧ (wr ((wr (60 * a1)) + a2)) < 120 then fX12_part_141 kb (gm s 135 a0 (wr ((wr (60 * a1)) + a2))) s else none) else fX12_part_119 kb a0 a3 (wr ((wr (60 * a1)) + a2)) s) else fX12_part_142 kb a0 a1 a2 a3 (wr ((wr (60 * a1)) + a2)) s
noncomputable def fX12_part_84 (kb : Co) (a0 a1 a2 a3 y0 y1 : Int) (s : St) : Res := bnd (FX12_holds y1 y0 s) fun x1 s1 => if x1 = 0 then some (0, 0, s1) else fX12_part_92 kb a0 a1 a2 a3 s1
noncomputable def fX12_part_83 (kb : Co) (a0 a1 a2 a3 y0 : Int) (s : St) : Res := fX12_part_84 kb a0 a1 a2 a3 3 y0 s
noncomputable def fX12_part_63 (kb : Co) (a0 a1 a2 a3 y0 : Int) (s : St) : Res := if 0 ≤ a1 ∧ a1 < 2 then bnd (FX12_in a2 0 (wr ((gm s 134 a0 a1) - 1)) s) fun x1 s1 => if x1 = 0 then fX12_part_83 kb a0 a1 a2 a3 y0 s1 else fX12_part_84 kb a0 a1 a2 a3 0 y0 s1 else none
noncomputable def fX12_part_54 (kb : Co) (a0 a1 a2 a3 a5 y0 : Int) (s : St) : Res := if a5 = 0 then fX12_part_84 kb a0 a1 a2 a3 2 y0 s else fX12_part_63 kb a0 a1 a2 a3 y0 s
noncomputable def fX12_part_42 (kb : Co) (a0 a1 a2 a3 a4 y0 : Int) (s : St) : Res := if a4 = 0 then fX12_part_84 kb a0 a1 a2 a3 1 a0 s else fX12_part_54 kb a0 a1 a2 a3 y0 a0 s
noncomputable def fX12_part_41 (kb : Co) (a0 a1 a2 a3 a4 : Int) (s : St) : Res := fX12_part_42 kb a0 a1 a2 a3 a4 0 s
noncomputable def fX12_part_21 (kb : Co) (a0 a1 a2 a3 y0 : Int) (s : St) : Res := if y0 = 0 then fX12_part_41 kb a0 a1 a2 a3 y0 s else if 0 ≤ a1 ∧ a1 < 2 then if 0 < (gm s 130 a0 a1) then fX12_part_42 kb a0 a1 a2 a3 y0 1 s else fX12_part_41 kb a0 a1 a2 a3 y0 s else none
noncomputable def fX12_part_20 (kb : Co) (a0 a1 a2 a3 : Int) (s : St) : Res := fX12_part_21 kb a0 a1 a2 a3 0 s
noncomputable def fX12_part_0 (kb : Co) (a0 a1 a2 a3 : Int) (s : St) : Res := bnd (FX12_isLeague a1 s) fun x1 s1 => if x1 = 0 then fX12_part_20 kb a0 a1 a2 a3 s1 else bnd (FX12_in a3 0 4 s1) fun x2 s2 => if x2 = 0 then fX12_part_20 kb a0 a1 a2 a3 s2 else fX12_part_21 kb a0 a1 a2 a3 1 s2
noncomputable def tX12_part_171 (kb : Co) : List Rw := []
noncomputable def tX12_part_170 (kb : Co) : List Rw := (171, [(7, 0), (7, 0), (7, 0), (7, 0), (7, 0), (7, 0), (7, 0)], [(0, 0)], fun xs ys s => fX12_part_171 kb (ys.getD 0 0) s) :: tX12_part_171 kb
noncomputable def tX12_part_157 (kb : Co) : List Rw := (170, [(7, 0), (7, 0), (7, 0), (7, 0), (7, 0), (7, 0), (7, 0)], [], fun xs ys s => fX12_part_170 kb s) :: tX12_part_170 kb
noncomputable def tX12_part_142 (kb : Co) : List Rw := (157, [(3, 12), (0, 0), (0, 0), (7, 0), (7, 0), (7, 0), (7, 0)], [], fun xs ys s => fX12_part_157 kb (xs.getD 0 0) (xs.getD 1 0) (xs.getD 2 0) s) :: tX12_part_157 kb
noncomputable def tX12_part_141 (kb : Co) : List Rw := (142, [(3, 12), (0, 0), (0, 0), (0, 0), (7, 0), (7, 0), (0, 0)], [], fun xs ys s => fX12_part_142 kb (xs.getD 0 0) (xs.getD 1 0) (xs.getD 2 0) (xs.getD 3 0) (xs.getD 4 0) s) :: tX12_part_142 kb
noncomputable def tX12_part_134 (kb : Co) : List Rw := (141, [(7, 0), (7, 0), (7, 0), (7, 0), (7, 0), (7, 0), (7, 0)], [(0, 0)], fun xs ys s => fX12_part_141 kb (ys.getD 0 0) s) :: tX12_part_141 kb
noncomputable def tX12_part_119 (kb : Co) : List Rw := (134, [(3, 12), (7, 0), (7, 0), (7, 0), (7, 0), (7, 0), (0, 0)], [], fun xs ys s => fX12_part_134 kb (xs.getD 0 0) (xs.getD 1 0) s) :: tX12_part_134 kb
noncomputable def tX12_part_92 (kb : Co) : List Rw := (119, [(3, 12), (7, 0), (7, 0), (0, 0), (7, 0), (7, 0), (0, 0)], [], fun xs ys s => fX12_part_119 kb (xs.getD 0 0) (xs.getD 1 0) (xs.getD 2 0) s) :: tX12_part_119 kb
noncomputable def tX12_part_84 (kb : Co) : List Rw := (92, [(3, 12), (0, 0), (0, 0), (0, 0), (7, 0), (7, 0), (7, 0)], [], fun xs ys s => fX12_part_92 kb (xs.getD 0 0) (xs.getD 1 0) (xs.getD 2 0) (xs.getD 3 0) s) :: tX12_part_92 kb
noncomputable def tX12_part_83 (kb : Co) : List Rw := (84, [(3, 12), (0, 0), (0, 0), (0, 0), (7, 0), (7, 0), (7, 0)], [(0, 0), (3, 12)], fun xs ys s => fX12_part_84 kb (xs.getD 0 0) (xs.getD 1 0) (xs.getD 2 0) (xs.getD 3 0) (ys.getD 0 0) (ys.getD 1 0) s) :: tX12_part_84 kb
noncomputable def tX12_part_63 (kb : Co) : List Rw := (83, [(3, 12), (0, 0), (0, 0), (0, 0), (7, 0), (7, 0), (7, 0)], [(3, 12)], fun xs ys s => fX12_part_83 kb (xs.getD 0 0) (xs.getD 1 0) (xs.getD 2 0) (xs.getD 3 0) (ys.getD 0 0) s) :: tX12_part_83 kb
noncomputable def tX12_part_54 (kb : Co) : List Rw := (63, [(3, 12), (0, 0), (0, 0), (0, 0), (7, 0), (7, 0), (7, 0)], [(3, 12)], fun xs ys s => fX12_part_63 kb (xs.getD 0 0) (xs.getD 1 0) (xs.getD 2 0) (xs.getD 3 0) (ys.getD 0 0) s) :: tX12_part_63 kb
noncomputable def tX12_part_42 (kb : Co) : List Rw := (54, [(3, 12), (0, 0), (0, 0), (0, 0), (7, 0), (0, 0), (7, 0)], [(3, 12)], fun xs ys s => fX12_part_54 kb (xs.getD 0 0) (xs.getD 1 0) (xs.getD 2 0) (xs.getD 3 0) (xs.getD 4 0) (ys.getD 0 0) s) :: tX12_part_54 kb
noncomputable def tX12_part_41 (kb : Co) : List Rw := (42, [(3, 12), (0, 0), (0, 0), (0, 0), (0, 0), (7, 0), (7, 0)], [(0, 0)], fun xs ys s => fX12_part_42 kb (xs.getD 0 0) (xs.getD 1 0) (xs.getD 2 0) (xs.getD 3 0) (xs.getD 4 0) (ys.getD 0 0) s) :: tX12_part_42 kb
noncomputable def tX12_part_21 (kb : Co) : List Rw := (41, [(3, 12), (0, 0), (0, 0), (0, 0), (0, 0), (7, 0), (7, 0)], [], fun xs ys s => fX12_part_41 kb (xs.getD 0 0) (xs.getD 1 0) (xs.getD 2 0) (xs.getD 3 0) (xs.getD 4 0) s) :: tX12_part_41 kb
noncomputable def tX12_part_20 (kb : Co) : List Rw := (21, [(3, 12), (0, 0), (0, 0), (0, 0), (7, 0), (7, 0), (7, 0)], [(0, 0)], fun xs ys s => fX12_part_21 kb (xs.getD 0 0) (xs.getD 1 0) (xs.getD 2 0) (xs.getD 3 0) (ys.getD 0 0) s) :: tX12_part_21 kb
noncomputable def tX12_part_0 (kb : Co) : List Rw := (20, [(3, 12), (0, 0), (0, 0), (0, 0), (7, 0), (7, 0), (7, 0)], [], fun xs ys s => fX12_part_20 kb (xs.getD 0 0) (xs.getD 1 0) (xs.getD 2 0) (xs.getD 3 0) s) :: tX12_part_20 kb
noncomputable def rX12_part (kb : Co) : List Rw := (0, [(3, 12), (0, 0), (0, 0), (0, 0), (7, 0), (7, 0), (7, 0)], [], fun xs ys s => fX12_part_0 kb (xs.getD 0 0) (xs.getD 1 0) (xs.getD 2 0) (xs.getD 3 0) s) :: tX12_part_0 kb
noncomputable def kX12_part : Nat → Co
  | 0 => nk
  | n + 1 => fam (rX12_part (kX12_part n)) nk
noncomputable def FX12_part (a0 a1 a2 a3 : Int) (s : St) : Res := fX12_part_0 (kX12_part 0) a0 a1 a2 a3 s
noncomputable def gX12_part : Fn := fun xs s => FX12_part (xs.getD 0 0) (xs.getD 1 0) (xs.getD 2 0) (xs.getD 3 0) s
noncomputable def mdX12_part : MD := ([(3, 12), (0, 0), (0, 0), (0, 0)], (0, 0), yX12_part, cX12_part, (7, (some .int), 4, 92, []))
-- FloatparadeModel.clock(II)I
noncomputable def fX12_clock_81 (kb : Co) (y0 : Int) (s : St) : Res := some (0, y0, s)
noncomputable def fX12_clock_76 (kb : Co) (a0 a1 : Int) (s : St) : Res := bnd (FX12_timeOf a0 a1 s) fun x1 s1 => fX12_clock_81 kb x1 s1
noncomputable def fX12_clock_62 (kb : Co) (a0 a1 a2 : Int) (s : St) : Res := if a2 = 2 then (if 0 ≤ a1 ∧ a1 < 10 then fX12_clock_81 kb (gm s 145 a0 a1) s else none) else fX12_clock_76 kb a0 a1 s
noncomputable def fX12_clock_48 (kb : Co) (a0 a1 a2 : Int) (s : St) : Res := if a2 = 1 then (if 0 ≤ a1 ∧ a1 < 10 then fX12_clock_81 kb (gm s 144 a0 a1) s else none) else fX12_clock_62 kb a0 a1 a2 s
noncomputable def fX12_clock_35 (kb : Co) (a0 a1 a2 : Int) (s : St) : Res := if a2 = 0 then (if 0 ≤ a1 ∧ a1 < 10 then fX12_clock_81 kb (gm s 143 a0 a1) s else none) else fX12_clock_48 kb a0 a1 a2 s
noncomputable def fX12_clock_27 (kb : Co) (a0 a1 a2 y0 y1 : Int) (s : St) : Res := bnd (FX12_holds y1 y0 s) fun x1 s1 => if x1 = 0 then some (0, 0, s1) else fX12_clock_35 kb a0 a1 a2 s1
noncomputable def fX12_clock_26 (kb : Co) (a0 a1 a2 y0 : Int) (s : St) : Res := fX12_clock_27 kb a0 a1 a2 2 y0 s
noncomputable def fX12_clock_13 (kb : Co) (a0 a1 a2 y0 : Int) (s : St) : Res := bnd (FX12_in a2 0 3 s) fun x1 s1 => if x1 = 0 then fX12_clock_26 kb a0 a1 a2 y0 s1 else fX12_clock_27 kb a0 a1 a2 0 y0 s1
noncomputable def fX12_clock_0 (kb : Co) (a0 a1 a2 : Int) (s : St) : Res := bnd (FX12_isSociety a0 a1 s) fun x1 s1 => if x1 = 0 then fX12_clock_27 kb a0 a1 a2 1 a0 s1 else fX12_clock_13 kb a0 a1 a2 a0 s1
noncomputable def tX12_clock_81 (kb : Co) : List Rw := []
noncomputable def tX12_clock_76 (kb : Co) : List Rw := (81, [(7, 0), (7, 0), (7, 0)], [(0, 0)], fun xs ys s => fX12_clock_81 kb (ys.getD 0 0) s) :: tX12_clock_81 kb
noncomputable def tX12_clock_62 (kb : Co) : List Rw := (76, [(3, 12), (0, 0), (7, 0)], [], fun xs ys s => fX12_clock_76 kb (xs.getD 0 0) (xs.getD 1 0) s) :: tX12_clock_76 kb
noncomputable def tX12_clock_48 (kb : Co) : List Rw := (62, [(3, 12), (0, 0), (0, 0)], [], fun xs ys s => fX12_clock_62 kb (xs.getD 0 0) (xs.getD 1 0) (xs.getD 2 0) s) :: tX12_clock_62 kb
noncomputable def tX12_clock_35 (kb : Co) : List Rw := (48, [(3, 12), (0, 0), (0, 0)], [], fun xs ys s => fX12_clock_48 kb (xs.getD 0 0) (xs.getD 1 0) (xs.getD 2 0) s) :: tX12_clock_48 kb
noncomputable def tX12_clock_27 (kb : Co) : List Rw := (35, [(3, 12), (0, 0), (0, 0)], [], fun xs ys s => fX12_clock_35 kb (xs.getD 0 0) (xs.getD 1 0) (xs.getD 2 0) s) :: tX12_clock_35 kb
noncomputable def tX12_clock_26 (kb : Co) : List Rw := (27, [(3, 12), (0, 0), (0, 0)], [(0, 0), (3, 12)], fun xs ys s => fX12_clock_27 kb (xs.getD 0 0) (xs.getD 1 0) (xs.getD 2 0) (ys.getD 0 0) (ys.getD 1 0) s) :: tX12_clock_27 kb
noncomputable def tX12_clock_13 (kb : Co) : List Rw := (26, [(3, 12), (0, 0), (0, 0)], [(3, 12)], fun xs ys s => fX12_clock_26 kb (xs.getD 0 0) (xs.getD 1 0) (xs.getD 2 0) (ys.getD 0 0) s) :: tX12_clock_26 kb
noncomputable def tX12_clock_0 (kb : Co) : List Rw := (13, [(3, 12), (0, 0), (0, 0)], [(3, 12)], fun xs ys s => fX12_clock_13 kb (xs.getD 0 0) (xs.getD 1 0) (xs.getD 2 0) (ys.getD 0 0) s) :: tX12_clock_13 kb
noncomputable def rX12_clock (kb : Co) : List Rw := (0, [(3, 12), (0, 0), (0, 0)], [], fun xs ys s => fX12_clock_0 kb (xs.getD 0 0) (xs.getD 1 0) (xs.getD 2 0) s) :: tX12_clock_0 kb
noncomputable def kX12_clock : Nat → Co
  | 0 => nk
  | n + 1 => fam (rX12_clock (kX12_clock n)) nk
noncomputable def FX12_clock (a0 a1 a2 : Int) (s : St) : Res := fX12_clock_0 (kX12_clock 0) a0 a1 a2 s
noncomputable def gX12_clock : Fn := fun xs s => FX12_clock (xs.getD 0 0) (xs.getD 1 0) (xs.getD 2 0) s
noncomputable def mdX12_clock : MD := ([(3, 12), (0, 0), (0, 0)], (0, 0), yX12_clock, cX12_clock, (3, (some .int), 2, 43, []))
-- FloatparadeModel.hasMarched(I)Z
noncomputable def fX12_hasMarched_29 (kb : Co) (y0 : Int) (s : St) : Res := if (y0 : Int) = 0 ∨ (y0 : Int) = 1 then some (0, y0, s) else none
noncomputable def fX12_hasMarched_28 (kb : Co) (s : St) : Res := fX12_hasMarched_29 kb 0 s
noncomputable def fX12_hasMarched_0 (kb : Co) (a0 a1 : Int) (s : St) : Res := if 0 ≤ a1 ∧ a1 < 10 then if (gm s 124 a0 a1) = 0 then fX12_hasMarched_28 kb s else if 0 ≤ a1 ∧ a1 < 10 then if 0 ≤ (gm s 102 a0 a1) ∧ (gm s 102 a0 a1) < 2 then if (gm s 130 a0 (gm s 102 a0 a1)) = 2 then fX12_hasMarched_29 kb 1 s else fX12_hasMarched_28 kb s else none else none else none
noncomputable def tX12_hasMarched_29 (kb : Co) : List Rw := []
noncomputable def tX12_hasMarched_28 (kb : Co) : List Rw := (29, [(7, 0), (7, 0)], [(0, 0)], fun xs ys s => fX12_hasMarched_29 kb (ys.getD 0 0) s) :: tX12_hasMarched_29 kb
noncomputable def tX12_hasMarched_0 (kb : Co) : List Rw := (28, [(7, 0), (7, 0)], [], fun xs ys s => fX12_hasMarched_28 kb s) :: tX12_hasMarched_28 kb
noncomputable def rX12_hasMarched (kb : Co) : List Rw := (0, [(3, 12), (0, 0)], [], fun xs ys s => fX12_hasMarched_0 kb (xs.getD 0 0) (xs.getD 1 0) s) :: tX12_hasMarched_0 kb
noncomputable def kX12_hasMarched : Nat → Co
  | 0 => nk
  | n + 1 => fam (rX12_hasMarched (kX12_hasMarched n)) nk
noncomputable def FX12_hasMarched (a0 a1 : Int) (s : St) : Res := fX12_hasMarched_0 (kX12_hasMarched 0) a0 a1 s
noncomputable def gX12_hasMarched : Fn := fun xs s => FX12_hasMarched (xs.getD 0 0) (xs.getD 1 0) s
noncomputable def mdX12_hasMarched : MD := ([(3, 12), (0, 0)], (0, 0), yX12_hasMarched, cX12_hasMarched, (2, (some .boolean), 0, 0, []))
-- FloatparadeModel.note(IIII)I
noncomputable def fX12_note_117 (kb : Co) (a0 a4 a7 y0 : Int) (s : St) : Res := if 0 ≤ a7 ∧ a7 < 200 then some (0, y0, (pm s 146 a0 a7 a4)) else none
noncomputable def fX12_note_110 (kb : Co) (a0 a4 a7 : Int) (s : St) : Res := if 0 ≤ a7 ∧ a7 < 200 then fX12_note_117 kb a0 a4 a7 (gm s 146 a0 a7) s else none
noncomputable def fX12_note_84 (kb : Co) (a0 a1 a2 a3 a4 : Int) (s : St) : Res := if 0 ≤ (wr ((wr ((wr (20 * a2)) + (wr (5 * a1)))) + a3)) ∧ (wr ((wr ((wr (20 * a2)) + (wr (5 * a1)))) + a3)) < 200 then if (gm s 146 a0 (wr ((wr ((wr (20 * a2)) + (wr (5 * a1)))) + a3))) = 0 then fX12_note_117 kb a0 a4 (wr ((wr ((wr (20 * a2)) + (wr (5 * a1)))) + a3)) (-1) s else fX12_note_110 kb a0 a4 (wr ((wr ((wr (20 * a2)) + (wr (5 * a1)))) + a3)) s else none
noncomputable def fX12_note_76 (kb : Co) (a0 a1 a2 a3 a4 y0 y1 : Int) (s : St) : Res := bnd (FX12_holds y1 y0 s) fun x1 s1 => if x1 = 0 then some (0, 0, s1) else fX12_note_84 kb a0 a1 a2 a3 a4 s1
noncomputable def fX12_note_75 (kb : Co) (a0 a1 a2 a3 a4 y0 : Int) (s : St) : Res := fX12_note_76 kb a0 a1 a2 a3 a4 3 y0 s
noncomputable def fX12_note_63 (kb : Co) (a0 a1 a2 a3 a4 y0 : Int) (s : St) : Res := bnd (FX12_hasMarched a0 a2 s) fun x1 s1 => if x1 = 0 then fX12_note_75 kb a0 a1 a2 a3 a4 y0 s1 else fX12_note_76 kb a0 a1 a2 a3 a4 0 y0 s1
noncomputable def fX12_note_54 (kb : Co) (a0 a1 a2 a3 a4 a6 y0 : Int) (s : St) : Res := if a6 = 0 then fX12_note_76 kb a0 a1 a2 a3 a4 2 y0 s else fX12_note_63 kb a0 a1 a2 a3 a4 y0 s
noncomputable def fX12_note_42 (kb : Co) (a0 a1 a2 a3 a4 a5 y0 : Int) (s : St) : Res := if a5 = 0 then fX12_note_76 kb a0 a1 a2 a3 a4 1 a0 s else fX12_note_54 kb a0 a1 a2 a3 a4 y0 a0 s
noncomputable def fX12_note_41 (kb : Co) (a0 a1 a2 a3 a4 a5 : Int) (s : St) : Res := fX12_note_42 kb a0 a1 a2 a3 a4 a5 0 s
noncomputable def fX12_note_0 (kb : Co) (a0 a1 a2 a3 a4 : Int) (s : St) : Res := bnd (FX12_isSociety a0 a2 s) fun x1 s1 => bnd (FX12_in a1 0 3 s1) fun x2 s2 => if x2 = 0 then fX12_note_41 kb a0 a1 a2 a3 a4 x1 s2 else bnd (FX12_in a3 0 4 s2) fun x3 s3 => if x3 = 0 then fX12_note_41 kb a0 a1 a2 a3 a4 x1 s3 else bnd (FX12_in a4 50 100 s3) fun x4 s4 => if x4 = 0 then fX12_note_41 kb a0 a1 a2 a3 a4 x1 s4 else fX12_note_42 kb a0 a1 a2 a3 a4 x1 1 s4
noncomputable def tX12_note_117 (kb : Co) : List Rw := []
noncomputable def tX12_note_110 (kb : Co) : List Rw := (117, [(3, 12), (7, 0), (7, 0), (7, 0), (0, 0), (7, 0), (7, 0), (0, 0), (7, 0)], [(0, 0)], fun xs ys s => fX12_note_117 kb (xs.getD 0 0) (xs.getD 1 0) (xs.getD 2 0) (ys.getD 0 0) s) :: tX12_note_117 kb
noncomputable def tX12_note_84 (kb : Co) : List Rw := (110, [(3, 12), (7, 0), (7, 0), (7, 0), (0, 0), (7, 0), (7, 0), (0, 0), (7, 0)], [], fun xs ys s => fX12_note_110 kb (xs.getD 0 0) (xs.getD 1 0) (xs.getD 2 0) s) :: tX12_note_110 kb
noncomputable def tX12_note_76 (kb : Co) : List Rw := (84, [(3, 12), (0, 0), (0, 0), (0, 0), (0, 0), (7, 0), (7, 0), (7, 0), (7, 0)], [], fun xs ys s => fX12_note_84 kb (xs.getD 0 0) (xs.getD 1 0) (xs.getD 2 0) (xs.getD 3 0) (xs.getD 4 0) s) :: tX12_note_84 kb
noncomputable def tX12_note_75 (kb : Co) : List Rw := (76, [(3, 12), (0, 0), (0, 0), (0, 0), (0, 0), (7, 0), (7, 0), (7, 0), (7, 0)], [(0, 0), (3, 12)], fun xs ys s => fX12_note_76 kb (xs.getD 0 0) (xs.getD 1 0) (xs.getD 2 0) (xs.getD 3 0) (xs.getD 4 0) (ys.getD 0 0) (ys.getD 1 0) s) :: tX12_note_76 kb
noncomputable def tX12_note_63 (kb : Co) : List Rw := (75, [(3, 12), (0, 0), (0, 0), (0, 0), (0, 0), (7, 0), (7, 0), (7, 0), (7, 0)], [(3, 12)], fun xs ys s => fX12_note_75 kb (xs.getD 0 0) (xs.getD 1 0) (xs.getD 2 0) (xs.getD 3 0) (xs.getD 4 0) (ys.getD 0 0) s) :: tX12_note_75 kb
noncomputable def tX12_note_54 (kb : Co) : List Rw := (63, [(3, 12), (0, 0), (0, 0), (0, 0), (0, 0), (7, 0), (7, 0), (7, 0), (7, 0)], [(3, 12)], fun xs ys s => fX12_note_63 kb (xs.getD 0 0) (xs.getD 1 0) (xs.getD 2 0) (xs.getD 3 0) (xs.getD 4 0) (ys.getD 0 0) s) :: tX12_note_63 kb
noncomputable def tX12_note_42 (kb : Co) : List Rw := (54, [(3, 12), (0, 0), (0, 0), (0, 0), (0, 0), (7, 0), (0, 0), (7, 0), (7, 0)], [(3, 12)], fun xs ys s => fX12_note_54 kb (xs.getD 0 0) (xs.getD 1 0) (xs.getD 2 0) (xs.getD 3 0) (xs.getD 4 0) (xs.getD 5 0) (ys.getD 0 0) s) :: tX12_note_54 kb
noncomputable def tX12_note_41 (kb : Co) : List Rw := (42, [(3, 12), (0, 0), (0, 0), (0, 0), (0, 0), (0, 0), (7, 0), (7, 0), (7, 0)], [(0, 0)], fun xs ys s => fX12_note_42 kb (xs.getD 0 0) (xs.getD 1 0) (xs.getD 2 0) (xs.getD 3 0) (xs.getD 4 0) (xs.getD 5 0) (ys.getD 0 0) s) :: tX12_note_42 kb
noncomputable def tX12_note_0 (kb : Co) : List Rw := (41, [(3, 12), (0, 0), (0, 0), (0, 0), (0, 0), (0, 0), (7, 0), (7, 0), (7, 0)], [], fun xs ys s => fX12_note_41 kb (xs.getD 0 0) (xs.getD 1 0) (xs.getD 2 0) (xs.getD 3 0) (xs.getD 4 0) (xs.getD 5 0) s) :: tX12_note_41 kb
noncomputable def rX12_note (kb : Co) : List Rw := (0, [(3, 12), (0, 0), (0, 0), (0, 0), (0, 0), (7, 0), (7, 0), (7, 0), (7, 0)], [], fun xs ys s => fX12_note_0 kb (xs.getD 0 0) (xs.getD 1 0) (xs.getD 2 0) (xs.getD 3 0) (xs.getD 4 0) s) :: tX12_note_0 kb
noncomputable def kX12_note : Nat → Co
  | 0 => nk
  | n + 1 => fam (rX12_note (kX12_note n)) nk
noncomputable def FX12_note (a0 a1 a2 a3 a4 : Int) (s : St) : Res := fX12_note_0 (kX12_note 0) a0 a1 a2 a3 a4 s
noncomputable def gX12_note : Fn := fun xs s => FX12_note (xs.getD 0 0) (xs.getD 1 0) (xs.getD 2 0) (xs.getD 3 0) (xs.getD 4 0) s
noncomputable def mdX12_note : MD := ([(3, 12), (0, 0), (0, 0), (0, 0), (0, 0)], (0, 0), yX12_note, cX12_note, (9, (some .int), 2, 43, []))
-- FloatparadeModel.penalty(III)I
noncomputable def fX12_penalty_85 (kb : Co) (a0 a1 a2 a3 : Int) (s : St) : Res := bnd (FX12_penalizes a0 a1 a2 a3 s) fun _ s1 => if 0 ≤ a1 ∧ a1 < 10 then some (0, (gm s1 147 a0 a1), s1) else none
noncomputable def fX12_penalty_77 (kb : Co) (a0 a1 a2 a3 y0 y1 : Int) (s : St) : Res := bnd (FX12_holds y1 y0 s) fun x1 s1 => if x1 = 0 then some (0, 0, s1) else fX12_penalty_85 kb a0 a1 a2 a3 s1
noncomputable def fX12_penalty_76 (kb : Co) (a0 a1 a2 a3 y0 : Int) (s : St) : Res := fX12_penalty_77 kb a0 a1 a2 a3 0 y0 s
noncomputable def fX12_penalty_72 (kb : Co) (a0 a1 a2 a3 y0 : Int) (s : St) : Res := fX12_penalty_77 kb a0 a1 a2 a3 3 y0 s
noncomputable def fX12_penalty_53 (kb : Co) (a0 a1 a2 a3 y0 : Int) (s : St) : Res := bnd (FX12_hasMarched a0 a1 s) fun x1 s1 => if x1 = 0 then fX12_penalty_72 kb a0 a1 a2 a3 y0 s1 else if 0 ≤ a1 ∧ a1 < 10 then if (gm s1 147 a0 a1) = 20 then fX12_penalty_72 kb a0 a1 a2 a3 y0 s1 else fX12_penalty_76 kb a0 a1 a2 a3 y0 s1 else none
noncomputable def fX12_penalty_44 (kb : Co) (a0 a1 a2 a3 a5 y0 : Int) (s : St) : Res := if a5 = 0 then fX12_penalty_77 kb a0 a1 a2 a3 2 y0 s else fX12_penalty_53 kb a0 a1 a2 a3 y0 s
noncomputable def fX12_penalty_32 (kb : Co) (a0 a1 a2 a3 a4 y0 : Int) (s : St) : Res := if a4 = 0 then fX12_penalty_77 kb a0 a1 a2 a3 1 a0 s else fX12_penalty_44 kb a0 a1 a2 a3 y0 a0 s
noncomputable def fX12_penalty_31 (kb : Co) (a0 a1 a2 a3 a4 : Int) (s : St) : Res := fX12_penalty_32 kb a0 a1 a2 a3 a4 0 s
noncomputable def fX12_penalty_0 (kb : Co) (a0 a1 a2 a3 : Int) (s : St) : Res := bnd (FX12_isSociety a0 a1 s) fun x1 s1 => bnd (FX12_in a2 4 9 s1) fun x2 s2 => if x2 = 0 then fX12_penalty_31 kb a0 a1 a2 a3 x1 s2 else bnd (FX12_in a3 1 99 s2) fun x3 s3 => if x3 = 0 then fX12_penalty_31 kb a0 a1 a2 a3 x1 s3 else fX12_penalty_32 kb a0 a1 a2 a3 x1 1 s3
noncomputable def tX12_penalty_85 (kb : Co) : List Rw := []
noncomputable def tX12_penalty_77 (kb : Co) : List Rw := (85, [(3, 12), (0, 0), (0, 0), (0, 0), (7, 0), (7, 0)], [], fun xs ys s => fX12_penalty_85 kb (xs.getD 0 0) (xs.getD 1 0) (xs.getD 2 0) (xs.getD 3 0) s) :: tX12_penalty_85 kb
noncomputable def tX12_penalty_76 (kb : Co) : List Rw := (77, [(3, 12), (0, 0), (0, 0), (0, 0), (7, 0), (7, 0)], [(0, 0), (3, 12)], fun xs ys s => fX12_penalty_77 kb (xs.getD 0 0) (xs.getD 1 0) (xs.getD 2 0) (xs.getD 3 0) (ys.getD 0 0) (ys.getD 1 0) s) :: tX12_penalty_77 kb
noncomputable def tX12_penalty_72 (kb : Co) : List Rw := (76, [(3, 12), (0, 0), (0, 0), (0, 0), (7, 0), (7, 0)], [(3, 12)], fun xs ys s => fX12_penalty_76 kb (xs.getD 0 0) (xs.getD 1 0) (xs.getD 2 0) (xs.getD 3 0) (ys.getD 0 0) s) :: tX12_penalty_76 kb
noncomputable def tX12_penalty_53 (kb : Co) : List Rw := (72, [(3, 12), (0, 0), (0, 0), (0, 0), (7, 0), (7, 0)], [(3, 12)], fun xs ys s => fX12_penalty_72 kb (xs.getD 0 0) (xs.getD 1 0) (xs.getD 2 0) (xs.getD 3 0) (ys.getD 0 0) s) :: tX12_penalty_72 kb
noncomputable def tX12_penalty_44 (kb : Co) : List Rw := (53, [(3, 12), (0, 0), (0, 0), (0, 0), (7, 0), (7, 0)], [(3, 12)], fun xs ys s => fX12_penalty_53 kb (xs.getD 0 0) (xs.getD 1 0) (xs.getD 2 0) (xs.getD 3 0) (ys.getD 0 0) s) :: tX12_penalty_53 kb
noncomputable def tX12_penalty_32 (kb : Co) : List Rw := (44, [(3, 12), (0, 0), (0, 0), (0, 0), (7, 0), (0, 0)], [(3, 12)], fun xs ys s => fX12_penalty_44 kb (xs.getD 0 0) (xs.getD 1 0) (xs.getD 2 0) (xs.getD 3 0) (xs.getD 4 0) (ys.getD 0 0) s) :: tX12_penalty_44 kb
noncomputable def tX12_penalty_31 (kb : Co) : List Rw := (32, [(3, 12), (0, 0), (0, 0), (0, 0), (0, 0), (7, 0)], [(0, 0)], fun xs ys s => fX12_penalty_32 kb (xs.getD 0 0) (xs.getD 1 0) (xs.getD 2 0) (xs.getD 3 0) (xs.getD 4 0) (ys.getD 0 0) s) :: tX12_penalty_32 kb
noncomputable def tX12_penalty_0 (kb : Co) : List Rw := (31, [(3, 12), (0, 0), (0, 0), (0, 0), (0, 0), (7, 0)], [], fun xs ys s => fX12_penalty_31 kb (xs.getD 0 0) (xs.getD 1 0) (xs.getD 2 0) (xs.getD 3 0) (xs.getD 4 0) s) :: tX12_penalty_31 kb
noncomputable def rX12_penalty (kb : Co) : List Rw := (0, [(3, 12), (0, 0), (0, 0), (0, 0), (7, 0), (7, 0)], [], fun xs ys s => fX12_penalty_0 kb (xs.getD 0 0) (xs.getD 1 0) (xs.getD 2 0) (xs.getD 3 0) s) :: tX12_penalty_0 kb
noncomputable def kX12_penalty : Nat → Co
  | 0 => nk
  | n + 1 => fam (rX12_penalty (kX12_penalty n)) nk
noncomputable def FX12_penalty (a0 a1 a2 a3 : Int) (s : St) : Res := fX12_penalty_0 (kX12_penalty 0) a0 a1 a2 a3 s
noncomputable def gX12_penalty : Fn := fun xs s => FX12_penalty (xs.getD 0 0) (xs.getD 1 0) (xs.getD 2 0) (xs.getD 3 0) s
noncomputable def mdX12_penalty : MD := ([(3, 12), (0, 0), (0, 0), (0, 0)], (0, 0), yX12_penalty, cX12_penalty, (6, (some .int), 2, 43, []))
-- FloatparadeModel.noteSum(II)I
noncomputable def fX12_noteSum_129 (kb : Co) (y0 y1 : Int) (s : St) : Res := some (0, (wr (y1 - y0)), s)
noncomputable def fX12_noteSum_128 (kb : Co) (y0 : Int) (s : St) : Res := fX12_noteSum_129 kb 0 y0 s
noncomputable def fX12_noteSum_116 (kb : Co) (a4 a6 y0 y1 : Int) (s : St) : Res := if 3 < a4 then fX12_noteSum_129 kb a6 (wr (y1 - y0)) s else fX12_noteSum_128 kb (wr (y1 - y0)) s
noncomputable def fX12_noteSum_115 (kb : Co) (a4 a6 y0 : Int) (s : St) : Res := fX12_noteSum_116 kb a4 a6 0 y0 s
noncomputable def fX12_noteSum_103 (kb : Co) (a3 a4 a5 a6 : Int) (s : St) : Res := if 2 < a4 then fX12_noteSum_116 kb a4 a6 a5 a3 s else fX12_noteSum_115 kb a4 a6 a3 s
noncomputable def fX12_noteSum_95 (kb : Co) (a0 a1 a2 a3 a4 a5 a7 y0 : Int) (s : St) : Res := kb 16 [(3, 12, a0), (0, 0, a1), (0, 0, a2), (0, 0, a3), (0, 0, a4), (0, 0, a5), (0, 0, y0), (0, 0, (wr (a7 + 1))), (7, 0, 0)] [] s
noncomputable def fX12_noteSum_93 (kb : Co) (a0 a1 a2 a3 a4 a5 a6 a7 : Int) (s : St) : Res := fX12_noteSum_95 kb a0 a1 a2 a3 a4 a5 a7 a6 s
noncomputable def fX12_noteSum_79 (kb : Co) (a0 a1 a2 a3 a4 a6 a7 a8 y0 : Int) (s : St) : Res := if a6 < a8 then fX12_noteSum_95 kb a0 a1 a2 a3 a4 y0 a7 a8 s else fX12_noteSum_93 kb a0 a1 a2 a3 a4 y0 a6 a7 s
noncomputable def fX12_noteSum_77 (kb : Co) (a0 a1 a2 a3 a4 a5 a6 a7 a8 : Int) (s : St) : Res := fX12_noteSum_79 kb a0 a1 a2 a3 a4 a6 a7 a8 a5 s
noncomputable def fX12_noteSum_57 (kb : Co) (a0 a1 a2 a3 a5 a6 a7 a8 y0 y1 : Int) (s : St) : Res := if 0 < a8 then (if a8 < a5 then fX12_noteSum_79 kb a0 a1 a2 a3 (wr (y1 + y0)) a6 a7 a8 a8 s else fX12_noteSum_77 kb a0 a1 a2 a3 (wr (y1 + y0)) a5 a6 a7 a8 s) else fX12_noteSum_77 kb a0 a1 a2 a3 (wr (y1 + y0)) a5 a6 a7 a8 s
noncomputable def fX12_noteSum_56 (kb : Co) (a0 a1 a2 a3 a5 a6 a7 a8 y0 : Int) (s : St) : Res := fX12_noteSum_57 kb a0 a1 a2 a3 a5 a6 a7 a8 0 y0 s
noncomputable def fX12_noteSum_16 (kb : Co) (a0 a1 a2 a3 a4 a5 a6 a7 : Int) (s : St) : Res := if a7 < 4 then (if 0 ≤ (wr ((wr ((wr (20 * a1)) + (wr (5 * a7)))) + a2)) ∧ (wr ((wr ((wr (20 * a1)) + (wr (5 * a7)))) + a2)) < 200 then if 0 < (gm s 146 a0 (wr ((wr ((wr (20 * a1)) + (wr (5 * a7)))) + a2))) then fX12_noteSum_57 kb a0 a1 a2 (wr (a3 + (gm s 146 a0 (wr ((wr ((wr (20 * a1)) + (wr (5 * a7)))) + a2))))) a5 a6 a7 (gm s 146 a0 (wr ((wr ((wr (20 * a1)) + (wr (5 * a7)))) + a2))) 1 a4 s else fX12_noteSum_56 kb a0 a1 a2 (wr (a3 + (gm s 146 a0 (wr ((wr ((wr (20 * a1)) + (wr (5 * a7)))) + a2))))) a5 a6 a7 (gm s 146 a0 (wr ((wr ((wr (20 * a1)) + (wr (5 * a7)))) + a2))) a4 s else none) else fX12_noteSum_103 kb a3 a4 a5 a6 s
noncomputable def fX12_noteSum_0 (kb : Co) (a0 a1 a2 : Int) (s : St) : Res := fX12_noteSum_16 kb a0 a1 a2 0 0 1000 0 0 s
noncomputable def tX12_noteSum_129 (kb : Co) : List Rw := []
noncomputable def tX12_noteSum_128 (kb : Co) : List Rw := (129, [(7, 0), (7, 0), (7, 0), (7, 0), (7, 0), (7, 0), (7, 0), (7, 0), (7, 0)], [(0, 0), (0, 0)], fun xs ys s => fX12_noteSum_129 kb (ys.getD 0 0) (ys.getD 1 0) s) :: tX12_noteSum_129 kb
noncomputable def tX12_noteSum_116 (kb : Co) : List Rw := (128, [(7, 0), (7, 0), (7, 0), (7, 0), (7, 0), (7, 0), (7, 0), (7, 0), (7, 0)], [(0, 0)], fun xs ys s => fX12_noteSum_128 kb (ys.getD 0 0) s) :: tX12_noteSum_128 kb
noncomputable def tX12_noteSum_115 (kb : Co) : List Rw := (116, [(7, 0), (7, 0), (7, 0), (7, 0), (0, 0), (7, 0), (0, 0), (7, 0), (7, 0)], [(0, 0), (0, 0)], fun xs ys s => fX12_noteSum_116 kb (xs.getD 0 0) (xs.getD 1 0) (ys.getD 0 0) (ys.getD 1 0) s) :: tX12_noteSum_116 kb
noncomputable def tX12_noteSum_103 (kb : Co) : List Rw := (115, [(7, 0), (7, 0), (7, 0), (7, 0), (0, 0), (7, 0), (0, 0), (7, 0), (7, 0)], [(0, 0)], fun xs ys s => fX12_noteSum_115 kb (xs.getD 0 0) (xs.getD 1 0) (ys.getD 0 0) s) :: tX12_noteSum_115 kb
noncomputable def tX12_noteSum_95 (kb : Co) : List Rw := (103, [(7, 0), (7, 0), (7, 0), (0, 0), (0, 0), (0, 0), (0, 0), (7, 0), (7, 0)], [], fun xs ys s => fX12_noteSum_103 kb (xs.getD 0 0) (xs.getD 1 0) (xs.getD 2 0) (xs.getD 3 0) s) :: tX12_noteSum_103 kb
noncomputable def tX12_noteSum_93 (kb : Co) : List Rw := (95, [(3, 12), (0, 0), (0, 0), (0, 0), (0, 0), (0, 0), (7, 0), (0, 0), (7, 0)], [(0, 0)], fun xs ys s => fX12_noteSum_95 kb (xs.getD 0 0) (xs.getD 1 0) (xs.getD 2 0) (xs.getD 3 0) (xs.getD 4 0) (xs.getD 5 0) (xs.getD 6 0) (ys.getD 0 0) s) :: tX12_noteSum_95 kb
noncomputable def tX12_noteSum_79 (kb : Co) : List Rw := (93, [(3, 12), (0, 0), (0, 0), (0, 0), (0, 0), (0, 0), (0, 0), (0, 0), (7, 0)], [], fun xs ys s => fX12_noteSum_93 kb (xs.getD 0 0) (xs.getD 1 0) (xs.getD 2 0) (xs.getD 3 0) (xs.getD 4 0) (xs.getD 5 0) (xs.getD 6 0) (xs.getD 7 0) s) :: tX12_noteSum_93 kb
noncomputable def tX12_noteSum_77 (kb : Co) : List Rw := (79, [(3, 12), (0, 0), (0, 0), (0, 0), (0, 0), (7, 0), (0, 0), (0, 0), (0, 0)], [(0, 0)], fun xs ys s => fX12_noteSum_79 kb (xs.getD 0 0) (xs.getD 1 0) (xs.getD 2 0) (xs.getD 3 0) (xs.getD 4 0) (xs.getD 5 0) (xs.getD 6 0) (xs.getD 7 0) (ys.getD 0 0) s) :: tX12_noteSum_79 kb
noncomputable def tX12_noteSum_57 (kb : Co) : List Rw := (77, [(3, 12), (0, 0), (0, 0), (0, 0), (0, 0), (0, 0), (0, 0), (0, 0), (0, 0)], [], fun xs ys s => fX12_noteSum_77 kb (xs.getD 0 0) (xs.getD 1 0) (xs.getD 2 0) (xs.getD 3 0) (xs.getD 4 0) (xs.getD 5 0) (xs.getD 6 0) (xs.getD 7 0) (xs.getD 8 0) s) :: tX12_noteSum_77 kb
noncomputable def tX12_noteSum_56 (kb : Co) : List Rw := (57, [(3, 12), (0, 0), (0, 0), (0, 0), (7, 0), (0, 0), (0, 0), (0, 0), (0, 0)], [(0, 0), (0, 0)], fun xs ys s => fX12_noteSum_57 kb (xs.getD 0 0) (xs.getD 1 0) (xs.getD 2 0) (xs.getD 3 0) (xs.getD 4 0) (xs.getD 5 0) (xs.getD 6 0) (xs.getD 7 0) (ys.getD 0 0) (ys.getD 1 0) s) :: tX12_noteSum_57 kb
noncomputable def tX12_noteSum_16 (kb : Co) : List Rw := (56, [(3, 12), (0, 0), (0, 0), (0, 0), (7, 0), (0, 0), (0, 0), (0, 0), (0, 0)], [(0, 0)], fun xs ys s => fX12_noteSum_56 kb (xs.getD 0 0) (xs.getD 1 0) (xs.getD 2 0) (xs.getD 3 0) (xs.getD 4 0) (xs.getD 5 0) (xs.getD 6 0) (xs.getD 7 0) (ys.getD 0 0) s) :: tX12_noteSum_56 kb
noncomputable def tX12_noteSum_0 (kb : Co) : List Rw := (16, [(3, 12), (0, 0), (0, 0), (0, 0), (0, 0), (0, 0), (0, 0), (0, 0), (7, 0)], [], fun xs ys s => fX12_noteSum_16 kb (xs.getD 0 0) (xs.getD 1 0) (xs.getD 2 0) (xs.getD 3 0) (xs.getD 4 0) (xs.getD 5 0) (xs.getD 6 0) (xs.getD 7 0) s) :: tX12_noteSum_16 kb
noncomputable def rX12_noteSum (kb : Co) : List Rw := (0, [(3, 12), (0, 0), (0, 0), (7, 0), (7, 0), (7, 0), (7, 0), (7, 0), (7, 0)], [], fun xs ys s => fX12_noteSum_0 kb (xs.getD 0 0) (xs.getD 1 0) (xs.getD 2 0) s) :: tX12_noteSum_0 kb
noncomputable def kX12_noteSum : Nat → Co
  | 0 => nk
  | n + 1 => fam (rX12_noteSum (kX12_noteSum n)) nk
noncomputable def FX12_noteSum (a0 a1 a2 : Int) (s : St) : Res := fX12_noteSum_0 (kX12_noteSum 9999) a0 a1 a2 s
noncomputable def gX12_noteSum : Fn := fun xs s => FX12_noteSum (xs.getD 0 0) (xs.getD 1 0) (xs.getD 2 0) s
noncomputable def mdX12_noteSum : MD := ([(3, 12), (0, 0), (0, 0)], (0, 0), yX12_noteSum, cX12_noteSum, (9, (some .int), 0, 0, []))
-- FloatparadeModel.pointsOf(I)I
noncomputable def fX12_pointsOf_72 (kb : Co) (a2 : Int) (s : St) : Res := some (0, a2, s)
noncomputable def fX12_pointsOf_64 (kb : Co) (a0 a1 a3 y0 y1 : Int) (s : St) : Res := kb 29 [(3, 12, a0), (0, 0, a1), (0, 0, (wr (y1 - y0))), (0, 0, (wr (a3 + 1)))] [] s
noncomputable def fX12_pointsOf_58 (kb : Co) (a0 a1 a3 y0 : Int) (s : St) : Res := if 0 ≤ a3 ∧ a3 < 200 then fX12_pointsOf_64 kb a0 a1 a3 (gm s 149 a0 a3) y0 s else none
noncomputable def fX12_pointsOf_29 (kb : Co) (a0 a1 a2 a3 : Int) (s : St) : Res := if 0 ≤ a1 ∧ a1 < 10 then if a3 < (wr ((wr (20 * a1)) + (gm s 147 a0 a1))) then (if 0 ≤ a3 ∧ a3 < 200 then if (gm s 150 a0 a3) = 0 then fX12_pointsOf_58 kb a0 a1 a3 a2 s else fX12_pointsOf_64 kb a0 a1 a3 0 a2 s else none) else fX12_pointsOf_72 kb a2 s else none
noncomputable def fX12_pointsOf_24 (kb : Co) (a0 a1 a2 : Int) (s : St) : Res := fX12_pointsOf_29 kb a0 a1 a2 (wr (20 * a1)) s
noncomputable def fX12_pointsOf_4 (kb : Co) (a0 a1 a2 a3 : Int) (s : St) : Res := if a3 < 5 then (bnd (FX12_noteSum a0 a1 a3 s) fun x1 s1 => kb 4 [(3, 12, a0), (0, 0, a1), (0, 0, (wr (a2 + x1))), (0, 0, (wr (a3 + 1)))] [] s1) else fX12_pointsOf_24 kb a0 a1 a2 s
noncomputable def fX12_pointsOf_0 (kb : Co) (a0 a1 : Int) (s : St) : Res := fX12_pointsOf_4 kb a0 a1 0 0 s
noncomputable def tX12_pointsOf_72 (kb : Co) : List Rw := []
noncomputable def tX12_pointsOf_64 (kb : Co) : List Rw := (72, [(7, 0), (7, 0), (0, 0), (7, 0)], [], fun xs ys s => fX12_pointsOf_72 kb (xs.getD 0 0) s) :: tX12_pointsOf_72 kb
noncomputable def tX12_pointsOf_58 (kb : Co) : List Rw := (64, [(3, 12), (0, 0), (7, 0), (0, 0)], [(0, 0), (0, 0)], fun xs ys s => fX12_pointsOf_64 kb (xs.getD 0 0) (xs.getD 1 0) (xs.getD 2 0) (ys.getD 0 0) (ys.getD 1 0) s) :: tX12_pointsOf_64 kb
noncomputable def tX12_pointsOf_29 (kb : Co) : List Rw := (58, [(3, 12), (0, 0), (7, 0), (0, 0)], [(0, 0)], fun xs ys s => fX12_pointsOf_58 kb (xs.getD 0 0) (xs.getD 1 0) (xs.getD 2 0) (ys.getD 0 0) s) :: tX12_pointsOf_58 kb
noncomputable def tX12_pointsOf_24 (kb : Co) : List Rw := (29, [(3, 12), (0, 0), (0, 0), (0, 0)], [], fun xs ys s => fX12_pointsOf_29 kb (xs.getD 0 0) (xs.getD 1 0) (xs.getD 2 0) (xs.getD 3 0) s) :: tX12_pointsOf_29 kb
noncomputable def tX12_pointsOf_4 (kb : Co) : List Rw := (24, [(3, 12), (0, 0), (0, 0), (7, 0)], [], fun xs ys s => fX12_pointsOf_24 kb (xs.getD 0 0) (xs.getD 1 0) (xs.getD 2 0) s) :: tX12_pointsOf_24 kb
noncomputable def tX12_pointsOf_0 (kb : Co) : List Rw := (4, [(3, 12), (0, 0), (0, 0), (0, 0)], [], fun xs ys s => fX12_pointsOf_4 kb (xs.getD 0 0) (xs.getD 1 0) (xs.getD 2 0) (xs.getD 3 0) s) :: tX12_pointsOf_4 kb
noncomputable def rX12_pointsOf (kb : Co) : List Rw := (0, [(3, 12), (0, 0), (7, 0), (7, 0)], [], fun xs ys s => fX12_pointsOf_0 kb (xs.getD 0 0) (xs.getD 1 0) s) :: tX12_pointsOf_0 kb
noncomputable def kX12_pointsOf : Nat → Co
  | 0 => nk
  | n + 1 => fam (rX12_pointsOf (kX12_pointsOf n)) nk
noncomputable def FX12_pointsOf (a0 a1 : Int) (s : St) : Res := fX12_pointsOf_0 (kX12_pointsOf 9999) a0 a1 s
noncomputable def gX12_pointsOf : Fn := fun xs s => FX12_pointsOf (xs.getD 0 0) (xs.getD 1 0) s
noncomputable def mdX12_pointsOf : MD := ([(3, 12), (0, 0)], (0, 0), yX12_pointsOf, cX12_pointsOf, (4, (some .int), 1, 28, []))
-- FloatparadeModel.isPenalty(II)Z
noncomputable def fX12_isPenalty_29 (kb : Co) (y0 : Int) (s : St) : Res := if (y0 : Int) = 0 ∨ (y0 : Int) = 1 then some (0, y0, s) else none
noncomputable def fX12_isPenalty_28 (kb : Co) (s : St) : Res := fX12_isPenalty_29 kb 0 s
noncomputable def fX12_isPenalty_0 (kb : Co) (a0 a1 a2 : Int) (s : St) : Res := bnd (FX12_isSociety a0 a1 s) fun x1 s1 => if x1 = 0 then fX12_isPenalty_28 kb s1 else if 0 ≤ a1 ∧ a1 < 10 then bnd (FX12_in a2 0 (wr ((gm s1 147 a0 a1) - 1)) s1) fun x2 s2 => if x2 = 0 then fX12_isPenalty_28 kb s2 else fX12_isPenalty_29 kb 1 s2 else none
noncomputable def tX12_isPenalty_29 (kb : Co) : List Rw := []
noncomputable def tX12_isPenalty_28 (kb : Co) : List Rw := (29, [(7, 0), (7, 0), (7, 0)], [(0, 0)], fun xs ys s => fX12_isPenalty_29 kb (ys.getD 0 0) s) :: tX12_isPenalty_29 kb
noncomputable def tX12_isPenalty_0 (kb : Co) : List Rw := (28, [(7, 0), (7, 0), (7, 0)], [], fun xs ys s => fX12_isPenalty_28 kb s) :: tX12_isPenalty_28 kb
noncomputable def rX12_isPenalty (kb : Co) : List Rw := (0, [(3, 12), (0, 0), (0, 0)], [], fun xs ys s => fX12_isPenalty_0 kb (xs.getD 0 0) (xs.getD 1 0) (xs.getD 2 0) s) :: tX12_isPenalty_0 kb
noncomputable def kX12_isPenalty : Nat → Co
  | 0 => nk
  | n + 1 => fam (rX12_isPenalty (kX12_isPenalty n)) nk
noncomputable def FX12_isPenalty (a0 a1 a2 : Int) (s : St) : Res := fX12_isPenalty_0 (kX12_isPenalty 0) a0 a1 a2 s
noncomputable def gX12_isPenalty : Fn := fun xs s => FX12_isPenalty (xs.getD 0 0) (xs.getD 1 0) (xs.getD 2 0) s
noncomputable def mdX12_isPenalty : MD := ([(3, 12), (0, 0), (0, 0)], (0, 0), yX12_isPenalty, cX12_isPenalty, (3, (some .boolean), 2, 43, []))
-- FloatparadeModel.appeal(II)I
noncomputable def fX12_appeal_43 (kb : Co) (a0 a1 a2 : Int) (s : St) : Res := if (0 ≤ (wr ((wr (20 * a1)) + a2)) ∧ (wr ((wr (20 * a1)) + a2)) < 200) ∧ ((1 : Int) = 0 ∨ (1 : Int) = 1) then bnd (FX12_pointsOf a0 a1 (pm s 150 a0 (wr ((wr (20 * a1)) + a2)) 1)) fun x1 s1 => some (0, x1, s1) else none
noncomputable def fX12_appeal_35 (kb : Co) (a0 a1 a2 y0 y1 : Int) (s : St) : Res := bnd (FX12_holds y1 y0 s) fun x1 s1 => if x1 = 0 then some (0, 0, s1) else fX12_appeal_43 kb a0 a1 a2 s1
noncomputable def fX12_appeal_34 (kb : Co) (a0 a1 a2 y0 : Int) (s : St) : Res := fX12_appeal_35 kb a0 a1 a2 0 y0 s
noncomputable def fX12_appeal_16 (kb : Co) (a0 a1 a2 y0 : Int) (s : St) : Res := if 0 ≤ (wr ((wr (20 * a1)) + a2)) ∧ (wr ((wr (20 * a1)) + a2)) < 200 then if (gm s 150 a0 (wr ((wr (20 * a1)) + a2))) = 0 then fX12_appeal_34 kb a0 a1 a2 y0 s else fX12_appeal_35 kb a0 a1 a2 2 y0 s else none
noncomputable def fX12_appeal_0 (kb : Co) (a0 a1 a2 : Int) (s : St) : Res := bnd (FX12_isPenalty a0 a1 a2 s) fun x1 s1 => if x1 = 0 then fX12_appeal_35 kb a0 a1 a2 1 a0 s1 else fX12_appeal_16 kb a0 a1 a2 a0 s1
noncomputable def tX12_appeal_43 (kb : Co) : List Rw := []
noncomputable def tX12_appeal_35 (kb : Co) : List Rw := (43, [(3, 12), (0, 0), (0, 0), (7, 0)], [], fun xs ys s => fX12_appeal_43 kb (xs.getD 0 0) (xs.getD 1 0) (xs.getD 2 0) s) :: tX12_appeal_43 kb
noncomputable def tX12_appeal_34 (kb : Co) : List Rw := (35, [(3, 12), (0, 0), (0, 0), (7, 0)], [(0, 0), (3, 12)], fun xs ys s => fX12_appeal_35 kb (xs.getD 0 0) (xs.getD 1 0) (xs.getD 2 0) (ys.getD 0 0) (ys.getD 1 0) s) :: tX12_appeal_35 kb
noncomputable def tX12_appeal_16 (kb : Co) : List Rw := (34, [(3, 12), (0, 0), (0, 0), (7, 0)], [(3, 12)], fun xs ys s => fX12_appeal_34 kb (xs.getD 0 0) (xs.getD 1 0) (xs.getD 2 0) (ys.getD 0 0) s) :: tX12_appeal_34 kb
noncomputable def tX12_appeal_0 (kb : Co) : List Rw := (16, [(3, 12), (0, 0), (0, 0), (7, 0)], [(3, 12)], fun xs ys s => fX12_appeal_16 kb (xs.getD 0 0) (xs.getD 1 0) (xs.getD 2 0) (ys.getD 0 0) s) :: tX12_appeal_16 kb
noncomputable def rX12_appeal (kb : Co) : List Rw := (0, [(3, 12), (0, 0), (0, 0), (7, 0)], [], fun xs ys s => fX12_appeal_0 kb (xs.getD 0 0) (xs.getD 1 0) (xs.getD 2 0) s) :: tX12_appeal_0 kb
noncomputable def kX12_appeal : Nat → Co
  | 0 => nk
  | n + 1 => fam (rX12_appeal (kX12_appeal n)) nk
noncomputable def FX12_appeal (a0 a1 a2 : Int) (s : St) : Res := fX12_appeal_0 (kX12_appeal 0) a0 a1 a2 s
noncomputable def gX12_appeal : Fn := fun xs s => FX12_appeal (xs.getD 0 0) (xs.getD 1 0) (xs.getD 2 0) s
noncomputable def mdX12_appeal : MD := ([(3, 12), (0, 0), (0, 0)], (0, 0), yX12_appeal, cX12_appeal, (4, (some .int), 3, 65, []))
-- FloatparadeModel.draw(I)I
noncomputable def fX12_draw_23 (kb : Co) (a0 a1 : Int) (s : St) : Res := some (0, (gm s 12 a0 51), (pm s 12 a0 51 a1))
noncomputable def fX12_draw_15 (kb : Co) (a0 a1 y0 y1 : Int) (s : St) : Res := bnd (FX12_holds y1 y0 s) fun x1 s1 => if x1 = 0 then some (0, 0, s1) else fX12_draw_23 kb a0 a1 s1
noncomputable def fX12_draw_14 (kb : Co) (a0 a1 y0 : Int) (s : St) : Res := fX12_draw_15 kb a0 a1 1 y0 s
noncomputable def fX12_draw_0 (kb : Co) (a0 a1 : Int) (s : St) : Res := bnd (FX12_in a1 0 4 s) fun x1 s1 => if x1 = 0 then fX12_draw_14 kb a0 a1 a0 s1 else fX12_draw_15 kb a0 a1 0 a0 s1
noncomputable def tX12_draw_23 (kb : Co) : List Rw := []
noncomputable def tX12_draw_15 (kb : Co) : List Rw := (23, [(3, 12), (0, 0), (7, 0)], [], fun xs ys s => fX12_draw_23 kb (xs.getD 0 0) (xs.getD 1 0) s) :: tX12_draw_23 kb
noncomputable def tX12_draw_14 (kb : Co) : List Rw := (15, [(3, 12), (0, 0), (7, 0)], [(0, 0), (3, 12)], fun xs ys s => fX12_draw_15 kb (xs.getD 0 0) (xs.getD 1 0) (ys.getD 0 0) (ys.getD 1 0) s) :: tX12_draw_15 kb
noncomputable def tX12_draw_0 (kb : Co) : List Rw := (14, [(3, 12), (0, 0), (7, 0)], [(3, 12)], fun xs ys s => fX12_draw_14 kb (xs.getD 0 0) (xs.getD 1 0) (ys.getD 0 0) s) :: tX12_draw_14 kb
noncomputable def rX12_draw (kb : Co) : List Rw := (0, [(3, 12), (0, 0), (7, 0)], [], fun xs ys s => fX12_draw_0 kb (xs.getD 0 0) (xs.getD 1 0) s) :: tX12_draw_0 kb
noncomputable def kX12_draw : Nat → Co
  | 0 => nk
  | n + 1 => fam (rX12_draw (kX12_draw n)) nk
noncomputable def FX12_draw (a0 a1 : Int) (s : St) : Res := fX12_draw_0 (kX12_draw 0) a0 a1 s
noncomputable def gX12_draw : Fn := fun xs s => FX12_draw (xs.getD 0 0) (xs.getD 1 0) s
noncomputable def mdX12_draw : MD := ([(3, 12), (0, 0)], (0, 0), yX12_draw, cX12_draw, (3, (some .int), 1, 22, []))
-- FloatparadeModel.isAhead(II)Z
noncomputable def fX12_isAhead_105 (kb : Co) (y0 : Int) (s : St) : Res := if (y0 : Int) = 0 ∨ (y0 : Int) = 1 then some (0, y0, s) else none
noncomputable def fX12_isAhead_104 (kb : Co) (s : St) : Res := fX12_isAhead_105 kb 0 s
noncomputable def fX12_isAhead_95 (kb : Co) (a1 a2 : Int) (s : St) : Res := if a1 < a2 then fX12_isAhead_105 kb 1 s else fX12_isAhead_104 kb s
noncomputable def fX12_isAhead_89 (kb : Co) (a0 a1 a2 a3 : Int) (s : St) : Res := kb 34 [(3, 12, a0), (0, 0, a1), (0, 0, a2), (0, 0, (wr (a3 + 1))), (7, 0, 0)] [] s
noncomputable def fX12_isAhead_88 (kb : Co) (y0 : Int) (s : St) : Res := if (y0 : Int) = 0 ∨ (y0 : Int) = 1 then some (0, y0, s) else none
noncomputable def fX12_isAhead_87 (kb : Co) (s : St) : Res := fX12_isAhead_88 kb 0 s
noncomputable def fX12_isAhead_34 (kb : Co) (a0 a1 a2 a3 : Int) (s : St) : Res := if a3 < 5 then (if 5 = 0 then none else bnd (FX12_noteSum a0 a1 (irm (wr ((gm s 12 a0 51) + a3)) 5) s) fun x1 s1 => bnd (FX12_noteSum a0 a2 (irm (wr ((gm s 12 a0 51) + a3)) 5) s1) fun x2 s2 => if x1 = x2 then fX12_isAhead_89 kb a0 a1 a2 a3 s2 else bnd (FX12_noteSum a0 a1 (irm (wr ((gm s 12 a0 51) + a3)) 5) s2) fun x3 s3 => bnd (FX12_noteSum a0 a2 (irm (wr ((gm s 12 a0 51) + a3)) 5) s3) fun x4 s4 => if x4 < x3 then fX12_isAhead_88 kb 1 s4 else fX12_isAhead_87 kb s4) else fX12_isAhead_95 kb a1 a2 s
noncomputable def fX12_isAhead_32 (kb : Co) (a0 a1 a2 : Int) (s : St) : Res := fX12_isAhead_34 kb a0 a1 a2 0 s
noncomputable def fX12_isAhead_31 (kb : Co) (y0 : Int) (s : St) : Res := if (y0 : Int) = 0 ∨ (y0 : Int) = 1 then some (0, y0, s) else none
noncomputable def fX12_isAhead_30 (kb : Co) (s : St) : Res := fX12_isAhead_31 kb 0 s
noncomputable def fX12_isAhead_0 (kb : Co) (a0 a1 a2 : Int) (s : St) : Res := bnd (FX12_pointsOf a0 a1 s) fun x1 s1 => bnd (FX12_pointsOf a0 a2 s1) fun x2 s2 => if x1 = x2 then fX12_isAhead_32 kb a0 a1 a2 s2 else bnd (FX12_pointsOf a0 a1 s2) fun x3 s3 => bnd (FX12_pointsOf a0 a2 s3) fun x4 s4 => if x4 < x3 then fX12_isAhead_31 kb 1 s4 else fX12_isAhead_30 kb s4
noncomputable def tX12_isAhead_105 (kb : Co) : List Rw := []
noncomputable def tX12_isAhead_104 (kb : Co) : List Rw := (105, [(7, 0), (7, 0), (7, 0), (7, 0), (7, 0)], [(0, 0)], fun xs ys s => fX12_isAhead_105 kb (ys.getD 0 0) s) :: tX12_isAhead_105 kb
noncomputable def tX12_isAhead_95 (kb : Co) : List Rw := (104, [(7, 0), (7, 0), (7, 0), (7, 0), (7, 0)], [], fun xs ys s => fX12_isAhead_104 kb s) :: tX12_isAhead_104 kb
noncomputable def tX12_isAhead_89 (kb : Co) : List Rw := (95, [(7, 0), (0, 0), (0, 0), (7, 0), (7, 0)], [], fun xs ys s => fX12_isAhead_95 kb (xs.getD 0 0) (xs.getD 1 0) s) :: tX12_isAhead_95 kb
noncomputable def tX12_isAhead_88 (kb : Co) : List Rw := (89, [(3, 12), (0, 0), (0, 0), (0, 0), (7, 0)], [], fun xs ys s => fX12_isAhead_89 kb (xs.getD 0 0) (xs.getD 1 0) (xs.getD 2 0) (xs.getD 3 0) s) :: tX12_isAhead_89 kb
noncomputable def tX12_isAhead_87 (kb : Co) : List Rw := (88, [(7, 0), (7, 0), (7, 0), (7, 0), (7, 0)], [(0, 0)], fun xs ys s => fX12_isAhead_88 kb (ys.getD 0 0) s) :: tX12_isAhead_88 kb
noncomputable def tX12_isAhead_34 (kb : Co) : List Rw := (87, [(7, 0), (7, 0), (7, 0), (7, 0), (7, 0)], [], fun xs ys s => fX12_isAhead_87 kb s) :: tX12_isAhead_87 kb
noncomputable def tX12_isAhead_32 (kb : Co) : List Rw := (34, [(3, 12), (0, 0), (0, 0), (0, 0), (7, 0)], [], fun xs ys s => fX12_isAhead_34 kb (xs.getD 0 0) (xs.getD 1 0) (xs.getD 2 0) (xs.getD 3 0) s) :: tX12_isAhead_34 kb
noncomputable def tX12_isAhead_31 (kb : Co) : List Rw := (32, [(3, 12), (0, 0), (0, 0), (7, 0), (7, 0)], [], fun xs ys s => fX12_isAhead_32 kb (xs.getD 0 0) (xs.getD 1 0) (xs.getD 2 0) s) :: tX12_isAhead_32 kb
noncomputable def tX12_isAhead_30 (kb : Co) : List Rw := (31, [(7, 0), (7, 0), (7, 0), (7, 0), (7, 0)], [(0, 0)], fun xs ys s => fX12_isAhead_31 kb (ys.getD 0 0) s) :: tX12_isAhead_31 kb
noncomputable def tX12_isAhead_0 (kb : Co) : List Rw := (30, [(7, 0), (7, 0), (7, 0), (7, 0), (7, 0)], [], fun xs ys s => fX12_isAhead_30 kb s) :: tX12_isAhead_30 kb
noncomputable def rX12_isAhead (kb : Co) : List Rw := (0, [(3, 12), (0, 0), (0, 0), (7, 0), (7, 0)], [], fun xs ys s => fX12_isAhead_0 kb (xs.getD 0 0) (xs.getD 1 0) (xs.getD 2 0) s) :: tX12_isAhead_0 kb
noncomputable def kX12_isAhead : Nat → Co
  | 0 => nk
  | n + 1 => fam (rX12_isAhead (kX12_isAhead n)) nk
noncomputable def FX12_isAhead (a0 a1 a2 : Int) (s : St) : Res := fX12_isAhead_0 (kX12_isAhead 9999) a0 a1 a2 s
noncomputable def gX12_isAhead : Fn := fun xs s => FX12_isAhead (xs.getD 0 0) (xs.getD 1 0) (xs.getD 2 0) s
noncomputable def mdX12_isAhead : MD := ([(3, 12), (0, 0), (0, 0)], (0, 0), yX12_isAhead, cX12_isAhead, (5, (some .boolean), 2, 51, []))
-- FloatparadeModel.tableAt(II)I
noncomputable def fX12_tableAt_121 (kb : Co) (s : St) : Res := some (0, (-1), s)
noncomputable def fX12_tableAt_115 (kb : Co) (a0 a1 a2 a3 : Int) (s : St) : Res := kb 2 [(3, 12, a0), (0, 0, a1), (0, 0, a2), (0, 0, (wr (a3 + 1))), (7, 0, 0), (7, 0, 0)] [] s
noncomputable def fX12_tableAt_78 (kb : Co) (a0 a1 a2 a3 a4 : Int) (s : St) : Res := if 0 ≤ a3 ∧ a3 < 10 then if (gm s 102 a0 a3) = a1 then (if 0 ≤ a3 ∧ a3 < 10 then if (gm s 124 a0 a3) = 0 then fX12_tableAt_115 kb a0 a1 a2 a3 s else if 0 ≤ a1 ∧ a1 < 2 then if (gm s 130 a0 a1) = 2 then (if a4 = a2 then some (0, a3, s) else fX12_tableAt_115 kb a0 a1 a2 a3 s) else fX12_tableAt_115 kb a0 a1 a2 a3 s else none else none) else fX12_tableAt_115 kb a0 a1 a2 a3 s else none
noncomputable def fX12_tableAt_69 (kb : Co) (a0 a1 a2 a3 a5 y0 y1 : Int) (s : St) : Res := kb 16 [(3, 12, a0), (0, 0, a1), (0, 0, a2), (0, 0, a3), (0, 0, (wr (y1 + y0))), (0, 0, (wr (a5 + 1)))] [] s
noncomputable def fX12_tableAt_68 (kb : Co) (a0 a1 a2 a3 a5 y0 : Int) (s : St) : Res := fX12_tableAt_69 kb a0 a1 a2 a3 a5 0 y0 s
noncomputable def fX12_tableAt_16 (kb : Co) (a0 a1 a2 a3 a4 a5 : Int) (s : St) : Res := if a5 < (gm s 12 a0 1) then (if 0 ≤ a5 ∧ a5 < 10 then if (gm s 102 a0 a5) = a1 then (if 0 ≤ a5 ∧ a5 < 10 then if (gm s 124 a0 a5) = 0 then fX12_tableAt_68 kb a0 a1 a2 a3 a5 a4 s else if a5 = a3 then fX12_tableAt_68 kb a0 a1 a2 a3 a5 a4 s else bnd (FX12_isAhead a0 a5 a3 s) fun x1 s1 => if x1 = 0 then fX12_tableAt_68 kb a0 a1 a2 a3 a5 a4 s1 else fX12_tableAt_69 kb a0 a1 a2 a3 a5 1 a4 s1 else none) else fX12_tableAt_68 kb a0 a1 a2 a3 a5 a4 s else none) else fX12_tableAt_78 kb a0 a1 a2 a3 a4 s
noncomputable def fX12_tableAt_2 (kb : Co) (a0 a1 a2 a3 : Int) (s : St) : Res := if a3 < (gm s 12 a0 1) then fX12_tableAt_16 kb a0 a1 a2 a3 0 0 s else fX12_tableAt_121 kb s
noncomputable def fX12_tableAt_0 (kb : Co) (a0 a1 a2 : Int) (s : St) : Res := fX12_tableAt_2 kb a0 a1 a2 0 s
noncomputable def tX12_tableAt_121 (kb : Co) : List Rw := []
noncomputable def tX12_tableAt_115 (kb : Co) : List Rw := (121, [(7, 0), (7, 0), (7, 0), (7, 0), (7, 0), (7, 0)], [], fun xs ys s => fX12_tableAt_121 kb s) :: tX12_tableAt_121 kb
noncomputable def tX12_tableAt_78 (kb : Co) : List Rw := (115, [(3, 12), (0, 0), (0, 0), (0, 0), (7, 0), (7, 0)], [], fun xs ys s => fX12_tableAt_115 kb (xs.getD 0 0) (xs.getD 1 0) (xs.getD 2 0) (xs.getD 3 0) s) :: tX12_tableAt_115 kb
noncomputable def tX12_tableAt_69 (kb : Co) : List Rw := (78, [(3, 12), (0, 0), (0, 0), (0, 0), (0, 0), (7, 0)], [], fun xs ys s => fX12_tableAt_78 kb (xs.getD 0 0) (xs.getD 1 0) (xs.getD 2 0) (xs.getD 3 0) (xs.getD 4 0) s) :: tX12_tableAt_78 kb
noncomputable def tX12_tableAt_68 (kb : Co) : List Rw := (69, [(3, 12), (0, 0), (0, 0), (0, 0), (7, 0), (0, 0)], [(0, 0), (0, 0)], fun xs ys s => fX12_tableAt_69 kb (xs.getD 0 0) (xs.getD 1 0) (xs.getD 2 0) (xs.getD 3 0) (xs.getD 4 0) (ys.getD 0 0) (ys.getD 1 0) s) :: tX12_tableAt_69 kb
noncomputable def tX12_tableAt_16 (kb : Co) : List Rw := (68, [(3, 12), (0, 0), (0, 0), (0, 0), (7, 0), (0, 0)], [(0, 0)], fun xs ys s => fX12_tableAt_68 kb (xs.getD 0 0) (xs.getD 1 0) (xs.getD 2 0) (xs.getD 3 0) (xs.getD 4 0) (ys.getD 0 0) s) :: tX12_tableAt_68 kb
noncomputable def tX12_tableAt_2 (kb : Co) : List Rw := (16, [(3, 12), (0, 0), (0, 0), (0, 0), (0, 0), (0, 0)], [], fun xs ys s => fX12_tableAt_16 kb (xs.getD 0 0) (xs.getD 1 0) (xs.getD 2 0) (xs.getD 3 0) (xs.getD 4 0) (xs.getD 5 0) s) :: tX12_tableAt_16 kb
noncomputable def tX12_tableAt_0 (kb : Co) : List Rw := (2, [(3, 12), (0, 0), (0, 0), (0, 0), (7, 0), (7, 0)], [], fun xs ys s => fX12_tableAt_2 kb (xs.getD 0 0) (xs.getD 1 0) (xs.getD 2 0) (xs.getD 3 0) s) :: tX12_tableAt_2 kb
noncomputable def rX12_tableAt (kb : Co) : List Rw := (0, [(3, 12), (0, 0), (0, 0), (7, 0), (7, 0), (7, 0)], [], fun xs ys s => fX12_tableAt_0 kb (xs.getD 0 0) (xs.getD 1 0) (xs.getD 2 0) s) :: tX12_tableAt_0 kb
noncomputable def kX12_tableAt : Nat → Co
  | 0 => nk
  | n + 1 => fam (rX12_tableAt (kX12_tableAt n)) nk
noncomputable def FX12_tableAt (a0 a1 a2 : Int) (s : St) : Res := fX12_tableAt_0 (kX12_tableAt 9999) a0 a1 a2 s
noncomputable def gX12_tableAt : Fn := fun xs s => FX12_tableAt (xs.getD 0 0) (xs.getD 1 0) (xs.getD 2 0) s
noncomputable def mdX12_tableAt : MD := ([(3, 12), (0, 0), (0, 0)], (0, 0), yX12_tableAt, cX12_tableAt, (6, (some .int), 3, 75, []))
-- FloatparadeModel.forgets(I)V
noncomputable def fX12_forgets_106 (kb : Co) (s : St) : Res := some (0, 0, s)
noncomputable def fX12_forgets_82 (kb : Co) (a0 a1 a2 : Int) (s : St) : Res := if a2 < (wr ((wr (20 * a1)) + 20)) then (if 0 ≤ a2 ∧ a2 < 200 then kb 82 [(3, 12, a0), (0, 0, a1), (0, 0, (wr (a2 + 1)))] [] (pm s 146 a0 a2 0) else none) else fX12_forgets_106 kb s
noncomputable def fX12_forgets_0 (kb : Co) (a0 a1 : Int) (s : St) : Res := if 0 ≤ a1 ∧ a1 < 10 then if 0 ≤ a1 ∧ a1 < 10 then if 0 ≤ a1 ∧ a1 < 10 then if (0 ≤ a1 ∧ a1 < 10) ∧ ((0 : Int) = 0 ∨ (0 : Int) = 1) then if 0 ≤ a1 ∧ a1 < 10 then if (0 ≤ a1 ∧ a1 < 10) ∧ ((0 : Int) = 0 ∨ (0 : Int) = 1) then if 0 ≤ a1 ∧ a1 < 10 then if 0 ≤ a1 ∧ a1 < 10 then if 0 ≤ a1 ∧ a1 < 10 then if 0 ≤ a1 ∧ a1 < 10 then if 0 ≤ a1 ∧ a1 < 10 then fX12_forgets_82 kb a0 a1 (wr (20 * a1)) (pm (pm (pm (pm (pm (pm (pm (pm (pm (pm (pm s 106 a0 a1 0) 108 a0 a1 0) 109 a0 a1 0) 110 a0 a1 0) 112 a0 a1 0) 124 a0 a1 0) 125 a0 a1 0) 147 a0 a1 0) 143 a0 a1 (-1)) 144 a0 a1 (-1)) 145 a0 a1 0) else none else none else none else none else none else none else none else none else none else none else none
noncomputable def tX12_forgets_106 (kb : Co) : List Rw := []
noncomputable def tX12_forgets_82 (kb : Co) : List Rw := (106, [(7, 0), (7, 0), (7, 0)], [], fun xs ys s => fX12_forgets_106 kb s) :: tX12_forgets_106 kb
noncomputable def tX12_forgets_0 (kb : Co) : List Rw := (82, [(3, 12), (0, 0), (0, 0)], [], fun xs ys s => fX12_forgets_82 kb (xs.getD 0 0) (xs.getD 1 0) (xs.getD 2 0) s) :: tX12_forgets_82 kb
noncomputable def rX12_forgets (kb : Co) : List Rw := (0, [(3, 12), (0, 0), (7, 0)], [], fun xs ys s => fX12_forgets_0 kb (xs.getD 0 0) (xs.getD 1 0) s) :: tX12_forgets_0 kb
noncomputable def kX12_forgets : Nat → Co
  | 0 => nk
  | n + 1 => fam (rX12_forgets (kX12_forgets n)) nk
noncomputable def FX12_forgets (a0 a1 : Int) (s : St) : Res := fX12_forgets_0 (kX12_forgets 9999) a0 a1 s
noncomputable def gX12_forgets : Fn := fun xs s => FX12_forgets (xs.getD 0 0) (xs.getD 1 0) s
noncomputable def mdX12_forgets : MD := ([(3, 12), (0, 0)], (9, 0), yX12_forgets, cX12_forgets, (3, none, 0, 0, []))
-- FloatparadeModel.endYear()I
noncomputable def fX12_endYear_293 (kb : Co) (a0 : Int) (s : St) : Res := some (0, (gm s 12 a0 28), s)
noncomputable def fX12_endYear_261 (kb : Co) (a0 a3 : Int) (s : St) : Res := if a3 < 2 then (if 0 ≤ a3 ∧ a3 < 2 then if 0 ≤ a3 ∧ a3 < 2 then if 0 ≤ a3 ∧ a3 < 2 then kb 261 [(3, 12, a0), (7, 0, 0), (7, 0, 0), (0, 0, (wr (a3 + 1))), (7, 0, 0)] [] (pm (pm (pm s 130 a0 a3 0) 126 a0 a3 0) 134 a0 a3 0) else none else none else none) else fX12_endYear_293 kb a0 s
noncomputable def fX12_endYear_259 (kb : Co) (a0 : Int) (s : St) : Res := fX12_endYear_261 kb a0 0 s
noncomputable def fX12_endYear_240 (kb : Co) (a0 a3 : Int) (s : St) : Res := if a3 < (gm s 12 a0 1) then (bnd (FX12_forgets a0 a3 s) fun _ s1 => kb 240 [(3, 12, a0), (7, 0, 0), (7, 0, 0), (0, 0, (wr (a3 + 1))), (7, 0, 0)] [] s1) else fX12_endYear_259 kb a0 s
noncomputable def fX12_endYear_238 (kb : Co) (a0 : Int) (s : St) : Res := fX12_endYear_240 kb a0 0 s
noncomputable def fX12_endYear_217 (kb : Co) (a0 a1 a2 : Int) (s : St) : Res := if a1 = 0 then fX12_endYear_238 kb a0 s else if 0 ≤ a2 ∧ a2 < 10 then if 0 ≤ (gm (pm s 102 a0 a2 1) 12 a0 28) ∧ (gm (pm s 102 a0 a2 1) 12 a0 28) < 10 then fX12_endYear_238 kb a0 (pm (pm s 102 a0 a2 1) 102 a0 (gm (pm s 102 a0 a2 1) 12 a0 28) 0) else none else none
noncomputable def fX12_endYear_210 (kb : Co) (a0 a1 a2 a3 y0 y1 y2 : Int) (s : St) : Res := if 0 ≤ y1 ∧ y1 < 2 then kb 118 [(3, 12, a0), (0, 0, a1), (0, 0, a2), (0, 0, (wr (a3 + 1))), (7, 0, 0)] [] (pm s 129 y2 y1 y0) else none
noncomputable def fX12_endYear_204 (kb : Co) (a0 a1 a2 a3 y0 y1 : Int) (s : St) : Res := if 0 ≤ a3 ∧ a3 < 2 then fX12_endYear_210 kb a0 a1 a2 a3 (gm s 129 a0 a3) y0 y1 s else none
noncomputable def fX12_endYear_180 (kb : Co) (a0 a1 a2 a3 : Int) (s : St) : Res := if 0 ≤ a3 ∧ a3 < 2 then if (gm s 130 a0 a3) = 2 then (bnd (FX12_tableAt a0 a3 0 s) fun x1 s1 => fX12_endYear_210 kb a0 a1 a2 a3 x1 a3 a0 s1) else fX12_endYear_204 kb a0 a1 a2 a3 a3 a0 s else none
noncomputable def fX12_endYear_126 (kb : Co) (a0 a1 a2 a3 a4 : Int) (s : St) : Res := if 0 ≤ a3 ∧ a3 < 2 then if a4 < (gm s 126 a0 a3) then (if 0 ≤ a3 ∧ a3 < 2 then if (gm s 130 a0 a3) = 2 then (bnd (FX12_tableAt a0 a3 a4 s) fun x1 s1 => if 0 ≤ x1 ∧ x1 < 10 then if 0 ≤ a3 ∧ a3 < 2 then if 0 ≤ x1 ∧ x1 < 10 then kb 126 [(3, 12, a0), (0, 0, a1), (0, 0, a2), (0, 0, a3), (0, 0, (wr (a4 + 1)))] [] (pm s1 104 a0 x1 (wr ((gm s1 104 a0 x1) + (wr (100 * (wr ((gm s1 126 a0 a3) - a4))))))) else none else none else none) else fX12_endYear_180 kb a0 a1 a2 a3 s else none) else fX12_endYear_180 kb a0 a1 a2 a3 s else none
noncomputable def fX12_endYear_118 (kb : Co) (a0 a1 a2 a3 : Int) (s : St) : Res := if a3 < 2 then fX12_endYear_126 kb a0 a1 a2 a3 0 s else fX12_endYear_217 kb a0 a1 a2 s
noncomputable def fX12_endYear_113 (kb : Co) (a0 a1 a2 y0 y1 : Int) (s : St) : Res := fX12_endYear_118 kb a0 a1 a2 0 (pm s 12 y1 28 y0)
noncomputable def fX12_endYear_112 (kb : Co) (a0 a1 a2 y0 : Int) (s : St) : Res := fX12_endYear_113 kb a0 a1 a2 (-1) y0 s
noncomputable def fX12_endYear_97 (kb : Co) (a0 a1 y0 : Int) (s : St) : Res := if a1 = 0 then fX12_endYear_112 kb a0 a1 y0 a0 s else bnd (FX12_tableAt a0 1 0 s) fun x1 s1 => fX12_endYear_113 kb a0 a1 y0 x1 a0 s1
noncomputable def fX12_endYear_96 (kb : Co) (a0 a1 : Int) (s : St) : Res := fX12_endYear_97 kb a0 a1 (-1) s
noncomputable def fX12_endYear_75 (kb : Co) (a0 y0 : Int) (s : St) : Res := if y0 = 0 then fX12_endYear_96 kb a0 y0 s else if 0 ≤ 0 ∧ 0 < 2 then bnd (FX12_tableAt a0 0 (wr ((gm s 126 a0 0) - 1)) s) fun x1 s1 => fX12_endYear_97 kb a0 y0 x1 s1 else none
noncomputable def fX12_endYear_74 (kb : Co) (a0 : Int) (s : St) : Res := fX12_endYear_75 kb a0 0 s
noncomputable def fX12_endYear_50 (kb : Co) (a0 : Int) (s : St) : Res := if 0 ≤ 0 ∧ 0 < 2 then if (gm s 130 a0 0) = 2 then (if 0 ≤ 1 ∧ 1 < 2 then if (gm s 130 a0 1) = 2 then fX12_endYear_75 kb a0 1 s else fX12_endYear_74 kb a0 s else none) else fX12_endYear_74 kb a0 s else none
noncomputable def fX12_endYear_42 (kb : Co) (a0 y0 y1 : Int) (s : St) : Res := bnd (FX12_holds y1 y0 s) fun x1 s1 => if x1 = 0 then some (0, 0, s1) else fX12_endYear_50 kb a0 s1
noncomputable def fX12_endYear_41 (kb : Co) (a0 y0 : Int) (s : St) : Res := fX12_endYear_42 kb a0 0 y0 s
noncomputable def fX12_endYear_37 (kb : Co) (a0 y0 : Int) (s : St) : Res := fX12_endYear_42 kb a0 1 y0 s
noncomputable def fX12_endYear_0 (kb : Co) (a0 : Int) (s : St) : Res := if 0 ≤ 0 ∧ 0 < 2 then if (gm s 130 a0 0) = 1 then fX12_endYear_37 kb a0 a0 s else if 0 ≤ 1 ∧ 1 < 2 then if (gm s 130 a0 1) = 1 then fX12_endYear_37 kb a0 a0 s else if 0 ≤ 0 ∧ 0 < 2 then if 0 ≤ 1 ∧ 1 < 2 then if (wr ((gm s 130 a0 0) + (gm s 130 a0 1))) = 0 then fX12_endYear_37 kb a0 a0 s else fX12_endYear_41 kb a0 a0 s else none else none else none else none
noncomputable def tX12_endYear_293 (kb : Co) : List Rw := []
noncomputable def tX12_endYear_261 (kb : Co) : List Rw := (293, [(3, 12), (7, 0), (7, 0), (7, 0), (7, 0)], [], fun xs ys s => fX12_endYear_293 kb (xs.getD 0 0) s) :: tX12_endYear_293 kb
noncomputable def tX12_endYear_259 (kb : Co) : List Rw := (261, [(3, 12), (7, 0), (7, 0), (0, 0), (7, 0)], [], fun xs ys s => fX12_endYear_261 kb (xs.getD 0 0) (xs.getD 1 0) s) :: tX12_endYear_261 kb
noncomputable def tX12_endYear_240 (kb : Co) : List Rw := (259, [(3, 12), (7, 0), (7, 0), (7, 0), (7, 0)], [], fun xs ys s => fX12_endYear_259 kb (xs.getD 0 0) s) :: tX12_endYear_259 kb
noncomputable def tX12_endYear_238 (kb : Co) : List Rw := (240, [(3, 12), (7, 0), (7, 0), (0, 0), (7, 0)], [], fun xs ys s => fX12_endYear_240 kb (xs.getD 0 0) (xs.getD 1 0) s) :: tX12_endYear_240 kb
noncomputable def tX12_endYear_217 (kb : Co) : List Rw := (238, [(3, 12), (7, 0), (7, 0), (7, 0), (7, 0)], [], fun xs ys s => fX12_endYear_238 kb (xs.getD 0 0) s) :: tX12_endYear_238 kb
noncomputable def tX12_endYear_210 (kb : Co) : List Rw := (217, [(3, 12), (0, 0), (0, 0), (7, 0), (7, 0)], [], fun xs ys s => fX12_endYear_217 kb (xs.getD 0 0) (xs.getD 1 0) (xs.getD 2 0) s) :: tX12_endYear_217 kb
noncomputable def tX12_endYear_204 (kb : Co) : List Rw := (210, [(3, 12), (0, 0), (0, 0), (0, 0), (7, 0)], [(0, 0), (0, 0), (3, 129)], fun xs ys s => fX12_endYear_210 kb (xs.getD 0 0) (xs.getD 1 0) (xs.getD 2 0) (xs.getD 3 0) (ys.getD 0 0) (ys.getD 1 0) (ys.getD 2 0) s) :: tX12_endYear_210 kb
noncomputable def tX12_endYear_180 (kb : Co) : List Rw := (204, [(3, 12), (0, 0), (0, 0), (0, 0), (7, 0)], [(0, 0), (3, 129)], fun xs ys s => fX12_endYear_204 kb (xs.getD 0 0) (xs.getD 1 0) (xs.getD 2 0) (xs.getD 3 0) (ys.getD 0 0) (ys.getD 1 0) s) :: tX12_endYear_204 kb
noncomputable def tX12_endYear_126 (kb : Co) : List Rw := (180, [(3, 12), (0, 0), (0, 0), (0, 0), (7, 0)], [], fun xs ys s => fX12_endYear_180 kb (xs.getD 0 0) (xs.getD 1 0) (xs.getD 2 0) (xs.getD 3 0) s) :: tX12_endYear_180 kb
noncomputable def tX12_endYear_118 (kb : Co) : List Rw := (126, [(3, 12), (0, 0), (0, 0), (0, 0), (0, 0)], [], fun xs ys s => fX12_endYear_126 kb (xs.getD 0 0) (xs.getD 1 0) (xs.getD 2 0) (xs.getD 3 0) (xs.getD 4 0) s) :: tX12_endYear_126 kb
noncomputable def tX12_endYear_113 (kb : Co) : List Rw := (118, [(3, 12), (0, 0), (0, 0), (0, 0), (7, 0)], [], fun xs ys s => fX12_endYear_118 kb (xs.getD 0 0) (xs.getD 1 0) (xs.getD 2 0) (xs.getD 3 0) s) :: tX12_endYear_118 kb
noncomputable def tX12_endYear_112 (kb : Co) : List Rw := (113, [(3, 12), (0, 0), (0, 0), (7, 0), (7, 0)], [(0, 0), (3, 12)], fun xs ys s => fX12_endYear_113 kb (xs.getD 0 0) (xs.getD 1 0) (xs.getD 2 0) (ys.getD 0 0) (ys.getD 1 0) s) :: tX12_endYear_113 kb
noncomputable def tX12_endYear_97 (kb : Co) : List Rw := (112, [(3, 12), (0, 0), (0, 0), (7, 0), (7, 0)], [(3, 12)], fun xs ys s => fX12_endYear_112 kb (xs.getD 0 0) (xs.getD 1 0) (xs.getD 2 0) (ys.getD 0 0) s) :: tX12_endYear_112 kb
noncomputable def tX12_endYear_96 (kb : Co) : List Rw := (97, [(3, 12), (0, 0), (7, 0), (7, 0), (7, 0)], [(0, 0)], fun xs ys s => fX12_endYear_97 kb (xs.getD 0 0) (xs.getD 1 0) (ys.getD 0 0) s) :: tX12_endYear_97 kb
noncomputable def tX12_endYear_75 (kb : Co) : List Rw := (96, [(3, 12), (0, 0), (7, 0), (7, 0), (7, 0)], [], fun xs ys s => fX12_endYear_96 kb (xs.getD 0 0) (xs.getD 1 0) s) :: tX12_endYear_96 kb
noncomputable def tX12_endYear_74 (kb : Co) : List Rw := (75, [(3, 12), (7, 0), (7, 0), (7, 0), (7, 0)], [(0, 0)], fun xs ys s => fX12_endYear_75 kb (xs.getD 0 0) (ys.getD 0 0) s) :: tX12_endYear_75 kb
noncomputable def tX12_endYear_50 (kb : Co) : List Rw := (74, [(3, 12), (7, 0), (7, 0), (7, 0), (7, 0)], [], fun xs ys s => fX12_endYear_74 kb (xs.getD 0 0) s) :: tX12_endYear_74 kb
noncomputable def tX12_endYear_42 (kb : Co) : List Rw := (50, [(3, 12), (7, 0), (7, 0), (7, 0), (7, 0)], [], fun xs ys s => fX12_endYear_50 kb (xs.getD 0 0) s) :: tX12_endYear_50 kb
noncomputable def tX12_endYear_41 (kb : Co) : List Rw := (42, [(3, 12), (7, 0), (7, 0), (7, 0), (7, 0)], [(0, 0), (3, 12)], fun xs ys s => fX12_endYear_42 kb (xs.getD 0 0) (ys.getD 0 0) (ys.getD 1 0) s) :: tX12_endYear_42 kb
noncomputable def tX12_endYear_37 (kb : Co) : List Rw := (41, [(3, 12), (7, 0), (7, 0), (7, 0), (7, 0)], [(3, 12)], fun xs ys s => fX12_endYear_41 kb (xs.getD 0 0) (ys.getD 0 0) s) :: tX12_endYear_41 kb
noncomputable def tX12_endYear_0 (kb : Co) : List Rw := (37, [(3, 12), (7, 0), (7, 0), (7, 0), (7, 0)], [(3, 12)], fun xs ys s => fX12_endYear_37 kb (xs.getD 0 0) (ys.getD 0 0) s) :: tX12_endYear_37 kb
noncomputable def rX12_endYear (kb : Co) : List Rw := (0, [(3, 12), (7, 0), (7, 0), (7, 0), (7, 0)], [], fun xs ys s => fX12_endYear_0 kb (xs.getD 0 0) s) :: tX12_endYear_0 kb
noncomputable def kX12_endYear : Nat → Co
  | 0 => nk
  | n + 1 => fam (rX12_endYear (kX12_endYear n)) nk
noncomputable def FX12_endYear (a0 : Int) (s : St) : Res := fX12_endYear_0 (kX12_endYear 9999) a0 s
noncomputable def gX12_endYear : Fn := fun xs s => FX12_endYear (xs.getD 0 0) s
noncomputable def mdX12_endYear : MD := ([(3, 12)], (0, 0), yX12_endYear, cX12_endYear, (5, (some .int), 4, 100, []))
-- FloatparadeModel.about(II)I
noncomputable def fX12_about_157 (kb : Co) (y0 : Int) (s : St) : Res := some (0, y0, s)
noncomputable def fX12_about_151 (kb : Co) (a0 a1 : Int) (s : St) : Res := if 0 ≤ a1 ∧ a1 < 10 then fX12_about_157 kb (gm s 147 a0 a1) s else none
noncomputable def fX12_about_147 (kb : Co) (s : St) : Res := fX12_about_157 kb 0 s
noncomputable def fX12_about_128 (kb : Co) (a0 a1 a2 : Int) (s : St) : Res := if a2 = 7 then (if 0 ≤ a1 ∧ a1 < 10 then if (gm s 124 a0 a1) = 0 then fX12_about_147 kb s else fX12_about_157 kb 1 s else none) else fX12_about_151 kb a0 a1 s
noncomputable def fX12_about_127 (kb : Co) (y0 : Int) (s : St) : Res := some (0, y0, s)
noncomputable def fX12_about_121 (kb : Co) (a0 a1 : Int) (s : St) : Res := if 0 ≤ a1 ∧ a1 < 10 then fX12_about_127 kb (gm s 104 a0 a1) s else none
noncomputable def fX12_about_108 (kb : Co) (a0 a1 a2 : Int) (s : St) : Res := if a2 = 5 then (bnd (FX12_pointsOf a0 a1 s) fun x1 s1 => fX12_about_127 kb x1 s1) else fX12_about_121 kb a0 a1 s
noncomputable def fX12_about_88 (kb : Co) (a0 a1 a2 : Int) (s : St) : Res := if a2 < 7 then (if a2 = 4 then (if 0 ≤ a1 ∧ a1 < 10 then fX12_about_127 kb (gm s 112 a0 a1) s else none) else fX12_about_108 kb a0 a1 a2 s) else fX12_about_128 kb a0 a1 a2 s
noncomputable def fX12_about_87 (kb : Co) (y0 : Int) (s : St) : Res := some (0, y0, s)
noncomputable def fX12_about_82 (kb : Co) (a0 a1 : Int) (s : St) : Res := bnd (FX12_chosenSong a0 a1 s) fun x1 s1 => fX12_about_87 kb x1 s1
noncomputable def fX12_about_68 (kb : Co) (a0 a1 a2 : Int) (s : St) : Res := if a2 = 2 then (if 0 ≤ a1 ∧ a1 < 10 then fX12_about_87 kb (gm s 106 a0 a1) s else none) else fX12_about_82 kb a0 a1 s
noncomputable def fX12_about_54 (kb : Co) (a0 a1 a2 : Int) (s : St) : Res := if a2 = 1 then (if 0 ≤ a1 ∧ a1 < 10 then fX12_about_87 kb (gm s 103 a0 a1) s else none) else fX12_about_68 kb a0 a1 a2 s
noncomputable def fX12_about_36 (kb : Co) (a0 a1 a2 : Int) (s : St) : Res := if a2 < 4 then (if a2 = 0 then (if 0 ≤ a1 ∧ a1 < 10 then fX12_about_87 kb (gm s 102 a0 a1) s else none) else fX12_about_54 kb a0 a1 a2 s) else fX12_about_88 kb a0 a1 a2 s
noncomputable def fX12_about_28 (kb : Co) (a0 a1 a2 y0 y1 : Int) (s : St) : Res := bnd (FX12_holds y1 y0 s) fun x1 s1 => if x1 = 0 then some (0, 0, s1) else fX12_about_36 kb a0 a1 a2 s1
noncomputable def fX12_about_27 (kb : Co) (a0 a1 a2 y0 : Int) (s : St) : Res := fX12_about_28 kb a0 a1 a2 2 y0 s
noncomputable def fX12_about_13 (kb : Co) (a0 a1 a2 y0 : Int) (s : St) : Res := bnd (FX12_in a2 0 8 s) fun x1 s1 => if x1 = 0 then fX12_about_27 kb a0 a1 a2 y0 s1 else fX12_about_28 kb a0 a1 a2 0 y0 s1
noncomputable def fX12_about_0 (kb : Co) (a0 a1 a2 : Int) (s : St) : Res := bnd (FX12_isSociety a0 a1 s) fun x1 s1 => if x1 = 0 then fX12_about_28 kb a0 a1 a2 1 a0 s1 else fX12_about_13 kb a0 a1 a2 a0 s1
noncomputable def tX12_about_157 (kb : Co) : List Rw := []
noncomputable def tX12_about_151 (kb : Co) : List Rw := (157, [(7, 0), (7, 0), (7, 0)], [(0, 0)], fun xs ys s => fX12_about_157 kb (ys.getD 0 0) s) :: tX12_about_157 kb
noncomputable def tX12_about_147 (kb : Co) : List Rw := (151, [(3, 12), (0, 0), (7, 0)], [], fun xs ys s => fX12_about_151 kb (xs.getD 0 0) (xs.getD 1 0) s) :: tX12_about_151 kb
noncomputable def tX12_about_128 (kb : Co) : List Rw := (147, [(7, 0), (7, 0), (7, 0)], [], fun xs ys s => fX12_about_147 kb s) :: tX12_about_147 kb
noncomputable def tX12_about_127 (kb : Co) : List Rw := (128, [(3, 12), (0, 0), (0, 0)], [], fun xs ys s => fX12_about_128 kb (xs.getD 0 0) (xs.getD 1 0) (xs.getD 2 0) s) :: tX12_about_128 kb
noncomputable def tX12_about_121 (kb : Co) : List Rw := (127, [(7, 0), (7, 0), (7, 0)], [(0, 0)], fun xs ys s => fX12_about_127 kb (ys.getD 0 0) s) :: tX12_about_127 kb
noncomputable def tX12_about_108 (kb : Co) : List Rw := (121, [(3, 12), (0, 0), (7, 0)], [], fun xs ys s => fX12_about_121 kb (xs.getD 0 0) (xs.getD 1 0) s) :: tX12_about_121 kb
noncomputable def tX12_about_88 (kb : Co) : List Rw := (108, [(3, 12), (0, 0), (0, 0)], [], fun xs ys s => fX12_about_108 kb (xs.getD 0 0) (xs.getD 1 0) (xs.getD 2 0) s) :: tX12_about_108 kb
noncomputable def tX12_about_87 (kb : Co) : List Rw := (88, [(3, 12), (0, 0), (0, 0)], [], fun xs ys s => fX12_about_88 kb (xs.getD 0 0) (xs.getD 1 0) (xs.getD 2 0) s) :: tX12_about_88 kb
noncomputable def tX12_about_82 (kb : Co) : List Rw := (87, [(7, 0), (7, 0), (7, 0)], [(0, 0)], fun xs ys s => fX12_about_87 kb (ys.getD 0 0) s) :: tX12_about_87 kb
noncomputable def tX12_about_68 (kb : Co) : List Rw := (82, [(3, 12), (0, 0), (7, 0)], [], fun xs ys s => fX12_about_82 kb (xs.getD 0 0) (xs.getD 1 0) s) :: tX12_about_82 kb
noncomputable def tX12_about_54 (kb : Co) : List Rw := (68, [(3, 12), (0, 0), (0, 0)], [], fun xs ys s => fX12_about_68 kb (xs.getD 0 0) (xs.getD 1 0) (xs.getD 2 0) s) :: tX12_about_68 kb
noncomputable def tX12_about_36 (kb : Co) : List Rw := (54, [(3, 12), (0, 0), (0, 0)], [], fun xs ys s => fX12_about_54 kb (xs.getD 0 0) (xs.getD 1 0) (xs.getD 2 0) s) :: tX12_about_54 kb
noncomputable def tX12_about_28 (kb : Co) : List Rw := (36, [(3, 12), (0, 0), (0, 0)], [], fun xs ys s => fX12_about_36 kb (xs.getD 0 0) (xs.getD 1 0) (xs.getD 2 0) s) :: tX12_about_36 kb
noncomputable def tX12_about_27 (kb : Co) : List Rw := (28, [(3, 12), (0, 0), (0, 0)], [(0, 0), (3, 12)], fun xs ys s => fX12_about_28 kb (xs.getD 0 0) (xs.getD 1 0) (xs.getD 2 0) (ys.getD 0 0) (ys.getD 1 0) s) :: tX12_about_28 kb
noncomputable def tX12_about_13 (kb : Co) : List Rw := (27, [(3, 12), (0, 0), (0, 0)], [(3, 12)], fun xs ys s => fX12_about_27 kb (xs.getD 0 0) (xs.getD 1 0) (xs.getD 2 0) (ys.getD 0 0) s) :: tX12_about_27 kb
noncomputable def tX12_about_0 (kb : Co) : List Rw := (13, [(3, 12), (0, 0), (0, 0)], [(3, 12)], fun xs ys s => fX12_about_13 kb (xs.getD 0 0) (xs.getD 1 0) (xs.getD 2 0) (ys.getD 0 0) s) :: tX12_about_13 kb
noncomputable def rX12_about (kb : Co) : List Rw := (0, [(3, 12), (0, 0), (0, 0)], [], fun xs ys s => fX12_about_0 kb (xs.getD 0 0) (xs.getD 1 0) (xs.getD 2 0) s) :: tX12_about_0 kb
noncomputable def kX12_about : Nat → Co
  | 0 => nk
  | n + 1 => fam (rX12_about (kX12_about n)) nk
noncomputable def FX12_about (a0 a1 a2 : Int) (s : St) : Res := fX12_about_0 (kX12_about 0) a0 a1 a2 s
noncomputable def gX12_about : Fn := fun xs s => FX12_about (xs.getD 0 0) (xs.getD 1 0) (xs.getD 2 0) s
noncomputable def mdX12_about : MD := ([(3, 12), (0, 0), (0, 0)], (0, 0), yX12_about, cX12_about, (3, (some .int), 3, 66, []))
-- FloatparadeModel.notes(II)I
noncomputable def fX12_notes_43 (kb : Co) (y0 : Int) (s : St) : Res := some (0, y0, s)
noncomputable def fX12_notes_42 (kb : Co) (s : St) : Res := fX12_notes_43 kb 0 s
noncomputable def fX12_notes_27 (kb : Co) (a0 a1 a2 y0 y1 : Int) (s : St) : Res := bnd (FX12_holds y1 y0 s) fun x1 s1 => if x1 = 0 then fX12_notes_42 kb s1 else bnd (FX12_noteSum a0 a1 a2 s1) fun x2 s2 => fX12_notes_43 kb x2 s2
noncomputable def fX12_notes_26 (kb : Co) (a0 a1 a2 y0 : Int) (s : St) : Res := fX12_notes_27 kb a0 a1 a2 2 y0 s
noncomputable def fX12_notes_13 (kb : Co) (a0 a1 a2 y0 : Int) (s : St) : Res := bnd (FX12_in a2 0 4 s) fun x1 s1 => if x1 = 0 then fX12_notes_26 kb a0 a1 a2 y0 s1 else fX12_notes_27 kb a0 a1 a2 0 y0 s1
noncomputable def fX12_notes_0 (kb : Co) (a0 a1 a2 : Int) (s : St) : Res := bnd (FX12_isSociety a0 a1 s) fun x1 s1 => if x1 = 0 then fX12_notes_27 kb a0 a1 a2 1 a0 s1 else fX12_notes_13 kb a0 a1 a2 a0 s1
noncomputable def tX12_notes_43 (kb : Co) : List Rw := []
noncomputable def tX12_notes_42 (kb : Co) : List Rw := (43, [(7, 0), (7, 0), (7, 0)], [(0, 0)], fun xs ys s => fX12_notes_43 kb (ys.getD 0 0) s) :: tX12_notes_43 kb
noncomputable def tX12_notes_27 (kb : Co) : List Rw := (42, [(7, 0), (7, 0), (7, 0)], [], fun xs ys s => fX12_notes_42 kb s) :: tX12_notes_42 kb
noncomputable def tX12_notes_26 (kb : Co) : List Rw := (27, [(3, 12), (0, 0), (0, 0)], [(0, 0), (3, 12)], fun xs ys s => fX12_notes_27 kb (xs.getD 0 0) (xs.getD 1 0) (xs.getD 2 0) (ys.getD 0 0) (ys.getD 1 0) s) :: tX12_notes_27 kb
noncomputable def tX12_notes_13 (kb : Co) : List Rw := (26, [(3, 12), (0, 0), (0, 0)], [(3, 12)], fun xs ys s => fX12_notes_26 kb (xs.getD 0 0) (xs.getD 1 0) (xs.getD 2 0) (ys.getD 0 0) s) :: tX12_notes_26 kb
noncomputable def tX12_notes_0 (kb : Co) : List Rw := (13, [(3, 12), (0, 0), (0, 0)], [(3, 12)], fun xs ys s => fX12_notes_13 kb (xs.getD 0 0) (xs.getD 1 0) (xs.getD 2 0) (ys.getD 0 0) s) :: tX12_notes_13 kb
noncomputable def rX12_notes (kb : Co) : List Rw := (0, [(3, 12), (0, 0), (0, 0)], [], fun xs ys s => fX12_notes_0 kb (xs.getD 0 0) (xs.getD 1 0) (xs.getD 2 0) s) :: tX12_notes_0 kb
noncomputable def kX12_notes : Nat → Co
  | 0 => nk
  | n + 1 => fam (rX12_notes (kX12_notes n)) nk
noncomputable def FX12_notes (a0 a1 a2 : Int) (s : St) : Res := fX12_notes_0 (kX12_notes 0) a0 a1 a2 s
noncomputable def gX12_notes : Fn := fun xs s => FX12_notes (xs.getD 0 0) (xs.getD 1 0) (xs.getD 2 0) s
noncomputable def mdX12_notes : MD := ([(3, 12), (0, 0), (0, 0)], (0, 0), yX12_notes, cX12_notes, (3, (some .int), 2, 43, []))
-- FloatparadeModel.penaltyAt(III)I
noncomputable def fX12_penaltyAt_88 (kb : Co) (y0 : Int) (s : St) : Res := some (0, y0, s)
noncomputable def fX12_penaltyAt_87 (kb : Co) (s : St) : Res := fX12_penaltyAt_88 kb 0 s
noncomputable def fX12_penaltyAt_73 (kb : Co) (a0 a4 : Int) (s : St) : Res := if 0 ≤ a4 ∧ a4 < 200 then if (gm s 150 a0 a4) = 0 then fX12_penaltyAt_87 kb s else fX12_penaltyAt_88 kb 1 s else none
noncomputable def fX12_penaltyAt_58 (kb : Co) (a0 a3 a4 : Int) (s : St) : Res := if a3 = 1 then (if 0 ≤ a4 ∧ a4 < 200 then fX12_penaltyAt_88 kb (gm s 149 a0 a4) s else none) else fX12_penaltyAt_73 kb a0 a4 s
noncomputable def fX12_penaltyAt_36 (kb : Co) (a0 a1 a2 a3 : Int) (s : St) : Res := if a3 = 0 then (if 0 ≤ (wr ((wr (20 * a1)) + a2)) ∧ (wr ((wr (20 * a1)) + a2)) < 200 then fX12_penaltyAt_88 kb (gm s 148 a0 (wr ((wr (20 * a1)) + a2))) s else none) else fX12_penaltyAt_58 kb a0 a3 (wr ((wr (20 * a1)) + a2)) s
noncomputable def fX12_penaltyAt_28 (kb : Co) (a0 a1 a2 a3 y0 y1 : Int) (s : St) : Res := bnd (FX12_holds y1 y0 s) fun x1 s1 => if x1 = 0 then some (0, 0, s1) else fX12_penaltyAt_36 kb a0 a1 a2 a3 s1
noncomputable def fX12_penaltyAt_27 (kb : Co) (a0 a1 a2 a3 y0 : Int) (s : St) : Res := fX12_penaltyAt_28 kb a0 a1 a2 a3 2 y0 s
noncomputable def fX12_penaltyAt_14 (kb : Co) (a0 a1 a2 a3 y0 : Int) (s : St) : Res := bnd (FX12_in a3 0 2 s) fun x1 s1 => if x1 = 0 then fX12_penaltyAt_27 kb a0 a1 a2 a3 y0 s1 else fX12_penaltyAt_28 kb a0 a1 a2 a3 0 y0 s1
noncomputable def fX12_penaltyAt_0 (kb : Co) (a0 a1 a2 a3 : Int) (s : St) : Res := bnd (FX12_isPenalty a0 a1 a2 s) fun x1 s1 => if x1 = 0 then fX12_penaltyAt_28 kb a0 a1 a2 a3 1 a0 s1 else fX12_penaltyAt_14 kb a0 a1 a2 a3 a0 s1
noncomputable def tX12_penaltyAt_88 (kb : Co) : List Rw := []
noncomputable def tX12_penaltyAt_87 (kb : Co) : List Rw := (88, [(7, 0), (7, 0), (7, 0), (7, 0), (7, 0)], [(0, 0)], fun xs ys s => fX12_penaltyAt_88 kb (ys.getD 0 0) s) :: tX12_penaltyAt_88 kb
noncomputable def tX12_penaltyAt_73 (kb : Co) : List Rw := (87, [(7, 0), (7, 0), (7, 0), (7, 0), (7, 0)], [], fun xs ys s => fX12_penaltyAt_87 kb s) :: tX12_penaltyAt_87 kb
noncomputable def tX12_penaltyAt_58 (kb : Co) : List Rw := (73, [(3, 12), (7, 0), (7, 0), (7, 0), (0, 0)], [], fun xs ys s => fX12_penaltyAt_73 kb (xs.getD 0 0) (xs.getD 1 0) s) :: tX12_penaltyAt_73 kb
noncomputable def tX12_penaltyAt_36 (kb : Co) : List Rw := (58, [(3, 12), (7, 0), (7, 0), (0, 0), (0, 0)], [], fun xs ys s => fX12_penaltyAt_58 kb (xs.getD 0 0) (xs.getD 1 0) (xs.getD 2 0) s) :: tX12_penaltyAt_58 kb
noncomputable def tX12_penaltyAt_28 (kb : Co) : List Rw := (36, [(3, 12), (0, 0), (0, 0), (0, 0), (7, 0)], [], fun xs ys s => fX12_penaltyAt_36 kb (xs.getD 0 0) (xs.getD 1 0) (xs.getD 2 0) (xs.getD 3 0) s) :: tX12_penaltyAt_36 kb
noncomputable def tX12_penaltyAt_27 (kb : Co) : List Rw := (28, [(3, 12), (0, 0), (0, 0), (0, 0), (7, 0)], [(0, 0), (3, 12)], fun xs ys s => fX12_penaltyAt_28 kb (xs.getD 0 0) (xs.getD 1 0) (xs.getD 2 0) (xs.getD 3 0) (ys.getD 0 0) (ys.getD 1 0) s) :: tX12_penaltyAt_28 kb
noncomputable def tX12_penaltyAt_14 (kb : Co) : List Rw := (27, [(3, 12), (0, 0), (0, 0), (0, 0), (7, 0)], [(3, 12)], fun xs ys s => fX12_penaltyAt_27 kb (xs.getD 0 0) (xs.getD 1 0) (xs.getD 2 0) (xs.getD 3 0) (ys.getD 0 0) s) :: tX12_penaltyAt_27 kb
noncomputable def tX12_penaltyAt_0 (kb : Co) : List Rw := (14, [(3, 12), (0, 0), (0, 0), (0, 0), (7, 0)], [(3, 12)], fun xs ys s => fX12_penaltyAt_14 kb (xs.getD 0 0) (xs.getD 1 0) (xs.getD 2 0) (xs.getD 3 0) (ys.getD 0 0) s) :: tX12_penaltyAt_14 kb
noncomputable def rX12_penaltyAt (kb : Co) : List Rw := (0, [(3, 12), (0, 0), (0, 0), (0, 0), (7, 0)], [], fun xs ys s => fX12_penaltyAt_0 kb (xs.getD 0 0) (xs.getD 1 0) (xs.getD 2 0) (xs.getD 3 0) s) :: tX12_penaltyAt_0 kb
noncomputable def kX12_penaltyAt : Nat → Co
  | 0 => nk
  | n + 1 => fam (rX12_penaltyAt (kX12_penaltyAt n)) nk
noncomputable def FX12_penaltyAt (a0 a1 a2 a3 : Int) (s : St) : Res := fX12_penaltyAt_0 (kX12_penaltyAt 0) a0 a1 a2 a3 s
noncomputable def gX12_penaltyAt : Fn := fun xs s => FX12_penaltyAt (xs.getD 0 0) (xs.getD 1 0) (xs.getD 2 0) (xs.getD 3 0) s
noncomputable def mdX12_penaltyAt : MD := ([(3, 12), (0, 0), (0, 0), (0, 0)], (0, 0), yX12_penaltyAt, cX12_penaltyAt, (5, (some .int), 3, 65, []))
-- FloatparadeModel.isFar(III)Z
noncomputable def fX12_isFar_116 (kb : Co) (y0 : Int) (s : St) : Res := if (y0 : Int) = 0 ∨ (y0 : Int) = 1 then some (0, y0, s) else none
noncomputable def fX12_isFar_115 (kb : Co) (s : St) : Res := fX12_isFar_116 kb 0 s
noncomputable def fX12_isFar_88 (kb : Co) (a4 a5 a6 : Int) (s : St) : Res := if 0 < a4 then (if 0 < a6 then (if a6 = 0 then none else if a4 < (wr ((idv a5 a6) + 15)) then fX12_isFar_115 kb s else fX12_isFar_116 kb 1 s) else fX12_isFar_115 kb s) else fX12_isFar_115 kb s
noncomputable def fX12_isFar_79 (kb : Co) (a0 a1 a2 a3 a4 a5 a7 y0 y1 : Int) (s : St) : Res := kb 26 [(3, 12, a0), (0, 0, a1), (0, 0, a2), (0, 0, a3), (0, 0, a4), (0, 0, a5), (0, 0, (wr (y1 + y0))), (0, 0, (wr (a7 + 1))), (7, 0, 0)] [] s
noncomputable def fX12_isFar_78 (kb : Co) (a0 a1 a2 a3 a4 a5 a7 y0 : Int) (s : St) : Res := fX12_isFar_79 kb a0 a1 a2 a3 a4 a5 a7 0 y0 s
noncomputable def fX12_isFar_58 (kb : Co) (a0 a1 a2 a3 a4 a5 a6 a7 y0 : Int) (s : St) : Res := if 0 < y0 then fX12_isFar_79 kb a0 a1 a2 a3 a4 (wr (a5 + y0)) a7 1 a6 s else fX12_isFar_78 kb a0 a1 a2 a3 a4 (wr (a5 + y0)) a7 a6 s
noncomputable def fX12_isFar_42 (kb : Co) (a0 a1 a2 a3 a4 a5 a6 a7 : Int) (s : St) : Res := if 0 ≤ (wr ((wr ((wr (20 * a2)) + (wr (5 * a7)))) + a3)) ∧ (wr ((wr ((wr (20 * a2)) + (wr (5 * a7)))) + a3)) < 200 then fX12_isFar_58 kb a0 a1 a2 a3 a4 a5 a6 a7 (gm s 146 a0 (wr ((wr ((wr (20 * a2)) + (wr (5 * a7)))) + a3))) s else none
noncomputable def fX12_isFar_26 (kb : Co) (a0 a1 a2 a3 a4 a5 a6 a7 : Int) (s : St) : Res := if a7 < 4 then (if a7 = a1 then fX12_isFar_58 kb a0 a1 a2 a3 a4 a5 a6 a7 0 s else fX12_isFar_42 kb a0 a1 a2 a3 a4 a5 a6 a7 s) else fX12_isFar_88 kb a4 a5 a6 s
noncomputable def fX12_isFar_0 (kb : Co) (a0 a1 a2 a3 : Int) (s : St) : Res := if 0 ≤ (wr ((wr ((wr (20 * a2)) + (wr (5 * a1)))) + a3)) ∧ (wr ((wr ((wr (20 * a2)) + (wr (5 * a1)))) + a3)) < 200 then fX12_isFar_26 kb a0 a1 a2 a3 (gm s 146 a0 (wr ((wr ((wr (20 * a2)) + (wr (5 * a1)))) + a3))) 0 0 0 s else none
noncomputable def tX12_isFar_116 (kb : Co) : List Rw := []
noncomputable def tX12_isFar_115 (kb : Co) : List Rw := (116, [(7, 0), (7, 0), (7, 0), (7, 0), (7, 0), (7, 0), (7, 0), (7, 0), (7, 0)], [(0, 0)], fun xs ys s => fX12_isFar_116 kb (ys.getD 0 0) s) :: tX12_isFar_116 kb
noncomputable def tX12_isFar_88 (kb : Co) : List Rw := (115, [(7, 0), (7, 0), (7, 0), (7, 0), (7, 0), (7, 0), (7, 0), (7, 0), (7, 0)], [], fun xs ys s => fX12_isFar_115 kb s) :: tX12_isFar_115 kb
noncomputable def tX12_isFar_79 (kb : Co) : List Rw := (88, [(7, 0), (7, 0), (7, 0), (7, 0), (0, 0), (0, 0), (0, 0), (7, 0), (7, 0)], [], fun xs ys s => fX12_isFar_88 kb (xs.getD 0 0) (xs.getD 1 0) (xs.getD 2 0) s) :: tX12_isFar_88 kb
noncomputable def tX12_isFar_78 (kb : Co) : List Rw := (79, [(3, 12), (0, 0), (0, 0), (0, 0), (0, 0), (0, 0), (7, 0), (0, 0), (7, 0)], [(0, 0), (0, 0)], fun xs ys s => fX12_isFar_79 kb (xs.getD 0 0) (xs.getD 1 0) (xs.getD 2 0) (xs.getD 3 0) (xs.getD 4 0) (xs.getD 5 0) (xs.getD 6 0) (ys.getD 0 0) (ys.getD 1 0) s) :: tX12_isFar_79 kb
noncomputable def tX12_isFar_58 (kb : Co) : List Rw := (78, [(3, 12), (0, 0), (0, 0), (0, 0), (0, 0), (0, 0), (7, 0), (0, 0), (7, 0)], [(0, 0)], fun xs ys s => fX12_isFar_78 kb (xs.getD 0 0) (xs.getD 1 0) (xs.getD 2 0) (xs.getD 3 0) (xs.getD 4 0) (xs.getD 5 0) (xs.getD 6 0) (ys.getD 0 0) s) :: tX12_isFar_78 kb
noncomputable def tX12_isFar_42 (kb : Co) : List Rw := (58, [(3, 12), (0, 0), (0, 0), (0, 0), (0, 0), (0, 0), (0, 0), (0, 0), (7, 0)], [(0, 0)], fun xs ys s => fX12_isFar_58 kb (xs.getD 0 0) (xs.getD 1 0) (xs.getD 2 0) (xs.getD 3 0) (xs.getD 4 0) (xs.getD 5 0) (xs.getD 6 0) (xs.getD 7 0) (ys.getD 0 0) s) :: tX12_isFar_58 kb
noncomputable def tX12_isFar_26 (kb : Co) : List Rw := (42, [(3, 12), (0, 0), (0, 0), (0, 0), (0, 0), (0, 0), (0, 0), (0, 0), (7, 0)], [], fun xs ys s => fX12_isFar_42 kb (xs.getD 0 0) (xs.getD 1 0) (xs.getD 2 0) (xs.getD 3 0) (xs.getD 4 0) (xs.getD 5 0) (xs.getD 6 0) (xs.getD 7 0) s) :: tX12_isFar_42 kb
noncomputable def tX12_isFar_0 (kb : Co) : List Rw := (26, [(3, 12), (0, 0), (0, 0), (0, 0), (0, 0), (0, 0), (0, 0), (0, 0), (7, 0)], [], fun xs ys s => fX12_isFar_26 kb (xs.getD 0 0) (xs.getD 1 0) (xs.getD 2 0) (xs.getD 3 0) (xs.getD 4 0) (xs.getD 5 0) (xs.getD 6 0) (xs.getD 7 0) s) :: tX12_isFar_26 kb
noncomputable def rX12_isFar (kb : Co) : List Rw := (0, [(3, 12), (0, 0), (0, 0), (0, 0), (7, 0), (7, 0), (7, 0), (7, 0), (7, 0)], [], fun xs ys s => fX12_isFar_0 kb (xs.getD 0 0) (xs.getD 1 0) (xs.getD 2 0) (xs.getD 3 0) s) :: tX12_isFar_0 kb
noncomputable def kX12_isFar : Nat → Co
  | 0 => nk
  | n + 1 => fam (rX12_isFar (kX12_isFar n)) nk
noncomputable def FX12_isFar (a0 a1 a2 a3 : Int) (s : St) : Res := fX12_isFar_0 (kX12_isFar 9999) a0 a1 a2 a3 s
noncomputable def gX12_isFar : Fn := fun xs s => FX12_isFar (xs.getD 0 0) (xs.getD 1 0) (xs.getD 2 0) (xs.getD 3 0) s
noncomputable def mdX12_isFar : MD := ([(3, 12), (0, 0), (0, 0), (0, 0)], (0, 0), yX12_isFar, cX12_isFar, (9, (some .boolean), 0, 0, []))
-- FloatparadeModel.doubts(II)Z
noncomputable def fX12_doubts_46 (kb : Co) (y0 : Int) (s : St) : Res := if (y0 : Int) = 0 ∨ (y0 : Int) = 1 then some (0, y0, s) else none
noncomputable def fX12_doubts_45 (kb : Co) (s : St) : Res := fX12_doubts_46 kb 0 s
noncomputable def fX12_doubts_36 (kb : Co) (a3 : Int) (s : St) : Res := if a3 < 3 then fX12_doubts_45 kb s else fX12_doubts_46 kb 1 s
noncomputable def fX12_doubts_28 (kb : Co) (a0 a1 a2 a4 y0 y1 : Int) (s : St) : Res := kb 5 [(3, 12, a0), (0, 0, a1), (0, 0, a2), (0, 0, (wr (y1 + y0))), (0, 0, (wr (a4 + 1)))] [] s
noncomputable def fX12_doubts_27 (kb : Co) (a0 a1 a2 a4 y0 : Int) (s : St) : Res := fX12_doubts_28 kb a0 a1 a2 a4 0 y0 s
noncomputable def fX12_doubts_5 (kb : Co) (a0 a1 a2 a3 a4 : Int) (s : St) : Res := if a4 < 5 then (bnd (FX12_isFar a0 a1 a2 a4 s) fun x1 s1 => if x1 = 0 then fX12_doubts_27 kb a0 a1 a2 a4 a3 s1 else fX12_doubts_28 kb a0 a1 a2 a4 1 a3 s1) else fX12_doubts_36 kb a3 s
noncomputable def fX12_doubts_0 (kb : Co) (a0 a1 a2 : Int) (s : St) : Res := fX12_doubts_5 kb a0 a1 a2 0 0 s
noncomputable def tX12_doubts_46 (kb : Co) : List Rw := []
noncomputable def tX12_doubts_45 (kb : Co) : List Rw := (46, [(7, 0), (7, 0), (7, 0), (7, 0), (7, 0)], [(0, 0)], fun xs ys s => fX12_doubts_46 kb (ys.getD 0 0) s) :: tX12_doubts_46 kb
noncomputable def tX12_doubts_36 (kb : Co) : List Rw := (45, [(7, 0), (7, 0), (7, 0), (7, 0), (7, 0)], [], fun xs ys s => fX12_doubts_45 kb s) :: tX12_doubts_45 kb
noncomputable def tX12_doubts_28 (kb : Co) : List Rw := (36, [(7, 0), (7, 0), (7, 0), (0, 0), (7, 0)], [], fun xs ys s => fX12_doubts_36 kb (xs.getD 0 0) s) :: tX12_doubts_36 kb
noncomputable def tX12_doubts_27 (kb : Co) : List Rw := (28, [(3, 12), (0, 0), (0, 0), (7, 0), (0, 0)], [(0, 0), (0, 0)], fun xs ys s => fX12_doubts_28 kb (xs.getD 0 0) (xs.getD 1 0) (xs.getD 2 0) (xs.getD 3 0) (ys.getD 0 0) (ys.getD 1 0) s) :: tX12_doubts_28 kb
noncomputable def tX12_doubts_5 (kb : Co) : List Rw := (27, [(3, 12), (0, 0), (0, 0), (7, 0), (0, 0)], [(0, 0)], fun xs ys s => fX12_doubts_27 kb (xs.getD 0 0) (xs.getD 1 0) (xs.getD 2 0) (xs.getD 3 0) (ys.getD 0 0) s) :: tX12_doubts_27 kb
noncomputable def tX12_doubts_0 (kb : Co) : List Rw := (5, [(3, 12), (0, 0), (0, 0), (0, 0), (0, 0)], [], fun xs ys s => fX12_doubts_5 kb (xs.getD 0 0) (xs.getD 1 0) (xs.getD 2 0) (xs.getD 3 0) (xs.getD 4 0) s) :: tX12_doubts_5 kb
noncomputable def rX12_doubts (kb : Co) : List Rw := (0, [(3, 12), (0, 0), (0, 0), (7, 0), (7, 0)], [], fun xs ys s => fX12_doubts_0 kb (xs.getD 0 0) (xs.getD 1 0) (xs.getD 2 0) s) :: tX12_doubts_0 kb
noncomputable def kX12_doubts : Nat → Co
  | 0 => nk
  | n + 1 => fam (rX12_doubts (kX12_doubts n)) nk
noncomputable def FX12_doubts (a0 a1 a2 : Int) (s : St) : Res := fX12_doubts_0 (kX12_doubts 9999) a0 a1 a2 s
noncomputable def gX12_doubts : Fn := fun xs s => FX12_doubts (xs.getD 0 0) (xs.getD 1 0) (xs.getD 2 0) s
noncomputable def mdX12_doubts : MD := ([(3, 12), (0, 0), (0, 0)], (0, 0), yX12_doubts, cX12_doubts, (5, (some .boolean), 1, 28, []))
-- FloatparadeModel.isDoubted(II)Z
noncomputable def fX12_isDoubted_47 (kb : Co) (y0 : Int) (s : St) : Res := if (y0 : Int) = 0 ∨ (y0 : Int) = 1 then some (0, y0, s) else none
noncomputable def fX12_isDoubted_46 (kb : Co) (s : St) : Res := fX12_isDoubted_47 kb 0 s
noncomputable def fX12_isDoubted_27 (kb : Co) (a0 a1 a2 y0 y1 : Int) (s : St) : Res := bnd (FX12_holds y1 y0 s) fun x1 s1 => if x1 = 0 then fX12_isDoubted_46 kb s1 else bnd (FX12_doubts a0 a1 a2 s1) fun x2 s2 => if x2 = 0 then fX12_isDoubted_46 kb s2 else fX12_isDoubted_47 kb 1 s2
noncomputable def fX12_isDoubted_26 (kb : Co) (a0 a1 a2 y0 : Int) (s : St) : Res := fX12_isDoubted_27 kb a0 a1 a2 2 y0 s
noncomputable def fX12_isDoubted_13 (kb : Co) (a0 a1 a2 y0 : Int) (s : St) : Res := bnd (FX12_in a1 0 3 s) fun x1 s1 => if x1 = 0 then fX12_isDoubted_26 kb a0 a1 a2 y0 s1 else fX12_isDoubted_27 kb a0 a1 a2 0 y0 s1
noncomputable def fX12_isDoubted_0 (kb : Co) (a0 a1 a2 : Int) (s : St) : Res := bnd (FX12_isSociety a0 a2 s) fun x1 s1 => if x1 = 0 then fX12_isDoubted_27 kb a0 a1 a2 1 a0 s1 else fX12_isDoubted_13 kb a0 a1 a2 a0 s1
noncomputable def tX12_isDoubted_47 (kb : Co) : List Rw := []
noncomputable def tX12_isDoubted_46 (kb : Co) : List Rw := (47, [(7, 0), (7, 0), (7, 0)], [(0, 0)], fun xs ys s => fX12_isDoubted_47 kb (ys.getD 0 0) s) :: tX12_isDoubted_47 kb
noncomputable def tX12_isDoubted_27 (kb : Co) : List Rw := (46, [(7, 0), (7, 0), (7, 0)], [], fun xs ys s => fX12_isDoubted_46 kb s) :: tX12_isDoubted_46 kb
noncomputable def tX12_isDoubted_26 (kb : Co) : List Rw := (27, [(3, 12), (0, 0), (0, 0)], [(0, 0), (3, 12)], fun xs ys s => fX12_isDoubted_27 kb (xs.getD 0 0) (xs.getD 1 0) (xs.getD 2 0) (ys.getD 0 0) (ys.getD 1 0) s) :: tX12_isDoubted_27 kb
noncomputable def tX12_isDoubted_13 (kb : Co) : List Rw := (26, [(3, 12), (0, 0), (0, 0)], [(3, 12)], fun xs ys s => fX12_isDoubted_26 kb (xs.getD 0 0) (xs.getD 1 0) (xs.getD 2 0) (ys.getD 0 0) s) :: tX12_isDoubted_26 kb
noncomputable def tX12_isDoubted_0 (kb : Co) : List Rw := (13, [(3, 12), (0, 0), (0, 0)], [(3, 12)], fun xs ys s => fX12_isDoubted_13 kb (xs.getD 0 0) (xs.getD 1 0) (xs.getD 2 0) (ys.getD 0 0) s) :: tX12_isDoubted_13 kb
noncomputable def rX12_isDoubted (kb : Co) : List Rw := (0, [(3, 12), (0, 0), (0, 0)], [], fun xs ys s => fX12_isDoubted_0 kb (xs.getD 0 0) (xs.getD 1 0) (xs.getD 2 0) s) :: tX12_isDoubted_0 kb
noncomputable def kX12_isDoubted : Nat → Co
  | 0 => nk
  | n + 1 => fam (rX12_isDoubted (kX12_isDoubted n)) nk
noncomputable def FX12_isDoubted (a0 a1 a2 : Int) (s : St) : Res := fX12_isDoubted_0 (kX12_isDoubted 0) a0 a1 a2 s
noncomputable def gX12_isDoubted : Fn := fun xs s => FX12_isDoubted (xs.getD 0 0) (xs.getD 1 0) (xs.getD 2 0) s
noncomputable def mdX12_isDoubted : MD := ([(3, 12), (0, 0), (0, 0)], (0, 0), yX12_isDoubted, cX12_isDoubted, (3, (some .boolean), 2, 52, []))
-- FloatparadeModel.table(II)I
noncomputable def fX12_table_29 (kb : Co) (a0 a1 a2 : Int) (s : St) : Res := bnd (FX12_tableAt a0 a1 a2 s) fun x1 s1 => some (0, x1, s1)
noncomputable def fX12_table_21 (kb : Co) (a0 a1 a2 y0 y1 : Int) (s : St) : Res := bnd (FX12_holds y1 y0 s) fun x1 s1 => if x1 = 0 then some (0, 0, s1) else fX12_table_29 kb a0 a1 a2 s1
noncomputable def fX12_table_20 (kb : Co) (a0 a1 a2 y0 : Int) (s : St) : Res := fX12_table_21 kb a0 a1 a2 2 y0 s
noncomputable def fX12_table_9 (kb : Co) (a0 a1 a2 y0 : Int) (s : St) : Res := bnd (FX12_isLeague a1 s) fun x1 s1 => if x1 = 0 then fX12_table_20 kb a0 a1 a2 y0 s1 else fX12_table_21 kb a0 a1 a2 0 y0 s1
noncomputable def fX12_table_0 (kb : Co) (a0 a1 a2 : Int) (s : St) : Res := if a2 < 0 then fX12_table_21 kb a0 a1 a2 1 a0 s else fX12_table_9 kb a0 a1 a2 a0 s
noncomputable def tX12_table_29 (kb : Co) : List Rw := []
noncomputable def tX12_table_21 (kb : Co) : List Rw := (29, [(3, 12), (0, 0), (0, 0)], [], fun xs ys s => fX12_table_29 kb (xs.getD 0 0) (xs.getD 1 0) (xs.getD 2 0) s) :: tX12_table_29 kb
noncomputable def tX12_table_20 (kb : Co) : List Rw := (21, [(3, 12), (0, 0), (0, 0)], [(0, 0), (3, 12)], fun xs ys s => fX12_table_21 kb (xs.getD 0 0) (xs.getD 1 0) (xs.getD 2 0) (ys.getD 0 0) (ys.getD 1 0) s) :: tX12_table_21 kb
noncomputable def tX12_table_9 (kb : Co) : List Rw := (20, [(3, 12), (0, 0), (0, 0)], [(3, 12)], fun xs ys s => fX12_table_20 kb (xs.getD 0 0) (xs.getD 1 0) (xs.getD 2 0) (ys.getD 0 0) s) :: tX12_table_20 kb
noncomputable def tX12_table_0 (kb : Co) : List Rw := (9, [(3, 12), (0, 0), (0, 0)], [(3, 12)], fun xs ys s => fX12_table_9 kb (xs.getD 0 0) (xs.getD 1 0) (xs.getD 2 0) (ys.getD 0 0) s) :: tX12_table_9 kb
noncomputable def rX12_table (kb : Co) : List Rw := (0, [(3, 12), (0, 0), (0, 0)], [], fun xs ys s => fX12_table_0 kb (xs.getD 0 0) (xs.getD 1 0) (xs.getD 2 0) s) :: tX12_table_0 kb
noncomputable def kX12_table : Nat → Co
  | 0 => nk
  | n + 1 => fam (rX12_table (kX12_table n)) nk
noncomputable def FX12_table (a0 a1 a2 : Int) (s : St) : Res := fX12_table_0 (kX12_table 0) a0 a1 a2 s
noncomputable def gX12_table : Fn := fun xs s => FX12_table (xs.getD 0 0) (xs.getD 1 0) (xs.getD 2 0) s
noncomputable def mdX12_table : MD := ([(3, 12), (0, 0), (0, 0)], (0, 0), yX12_table, cX12_table, (3, (some .int), 4, 100, []))
-- FloatparadeLaw.society(LFloatparade;II[J)I
noncomputable def fL_society_21 (kb : Co) (s : St) : Res := some (0, 0, s)
noncomputable def fL_society_17 (kb : Co) (y0 : Int) (s : St) : Res := some (0, 2, s)
noncomputable def fL_society_13 (kb : Co) (y0 : Int) (s : St) : Res := some (0, 1, s)
noncomputable def fL_society_0 (kb : Co) (a0 a1 a2 a3 : Int) (s : St) : Res := bnh (FX11_society a0 a1 a2 s) (fun x1 s1 => if 0 ≤ 0 ∧ 0 < 1 then fL_society_21 kb (pm s1 60 a3 0 x1) else none) (fun o9 s9 => if o9 = 1 then fL_society_13 kb 0 s9 else if o9 = 2 then fL_society_17 kb 0 s9 else none)
noncomputable def tL_society_21 (kb : Co) : List Rw := []
noncomputable def tL_society_17 (kb : Co) : List Rw := (21, [(7, 0), (7, 0), (7, 0), (7, 0), (7, 0)], [], fun xs ys s => fL_society_21 kb s) :: tL_society_21 kb
noncomputable def tL_society_13 (kb : Co) : List Rw := (17, [(7, 0), (7, 0), (7, 0), (7, 0), (7, 0)], [(8, 0)], fun xs ys s => fL_society_17 kb (ys.getD 0 0) s) :: tL_society_17 kb
noncomputable def tL_society_0 (kb : Co) : List Rw := (13, [(7, 0), (7, 0), (7, 0), (7, 0), (7, 0)], [(8, 0)], fun xs ys s => fL_society_13 kb (ys.getD 0 0) s) :: tL_society_13 kb
noncomputable def rL_society (kb : Co) : List Rw := (0, [(3, 11), (0, 0), (0, 0), (3, 60), (7, 0)], [], fun xs ys s => fL_society_0 kb (xs.getD 0 0) (xs.getD 1 0) (xs.getD 2 0) (xs.getD 3 0) s) :: tL_society_0 kb
noncomputable def kL_society : Nat → Co
  | 0 => nk
  | n + 1 => fam (rL_society (kL_society n)) nk
noncomputable def FL_society (a0 a1 a2 a3 : Int) (s : St) : Res := fL_society_0 (kL_society 0) a0 a1 a2 a3 s
noncomputable def gL_society : Fn := fun xs s => FL_society (xs.getD 0 0) (xs.getD 1 0) (xs.getD 2 0) (xs.getD 3 0) s
noncomputable def mdL_society : MD := ([(3, 11), (0, 0), (0, 0), (3, 60)], (0, 0), yL_society, cL_society, (5, (some .int), 7, 113, [(0, 10, 13, 13), (0, 10, 17, 15)]))
-- FloatparadeLaw.feud(LFloatparade;IIZ[J)I
noncomputable def fL_feud_30 (kb : Co) (s : St) : Res := some (0, 0, s)
noncomputable def fL_feud_26 (kb : Co) (y0 : Int) (s : St) : Res := some (0, 2, s)
noncomputable def fL_feud_22 (kb : Co) (y0 : Int) (s : St) : Res := some (0, 1, s)
noncomputable def fL_feud_18 (kb : Co) (y0 y1 y2 : Int) (s : St) : Res := if 0 ≤ y1 ∧ y1 < 1 then fL_feud_30 kb (pm s 60 y2 y1 y0) else none
noncomputable def fL_feud_17 (kb : Co) (y0 y1 : Int) (s : St) : Res := fL_feud_18 kb 0 y0 y1 s
noncomputable def fL_feud_0 (kb : Co) (a0 a1 a2 a3 a4 : Int) (s : St) : Res := bnh (FX11_feud a0 a1 a2 a3 s) (fun x1 s1 => if x1 = 0 then fL_feud_17 kb 0 a4 s1 else fL_feud_18 kb 1 0 a4 s1) (fun o9 s9 => if o9 = 3 then fL_feud_22 kb 0 s9 else if o9 = 1 then fL_feud_26 kb 0 s9 else none)
noncomputable def tL_feud_30 (kb : Co) : List Rw := []
noncomputable def tL_feud_26 (kb : Co) : List Rw := (30, [(7, 0), (7, 0), (7, 0), (7, 0), (7, 0), (7, 0)], [], fun xs ys s => fL_feud_30 kb s) :: tL_feud_30 kb
noncomputable def tL_feud_22 (kb : Co) : List Rw := (26, [(7, 0), (7, 0), (7, 0), (7, 0), (7, 0), (7, 0)], [(8, 0)], fun xs ys s => fL_feud_26 kb (ys.getD 0 0) s) :: tL_feud_26 kb
noncomputable def tL_feud_18 (kb : Co) : List Rw := (22, [(7, 0), (7, 0), (7, 0), (7, 0), (7, 0), (7, 0)], [(8, 0)], fun xs ys s => fL_feud_22 kb (ys.getD 0 0) s) :: tL_feud_22 kb
noncomputable def tL_feud_17 (kb : Co) : List Rw := (18, [(7, 0), (7, 0), (7, 0), (7, 0), (7, 0), (7, 0)], [(1, 0), (0, 0), (3, 60)], fun xs ys s => fL_feud_18 kb (ys.getD 0 0) (ys.getD 1 0) (ys.getD 2 0) s) :: tL_feud_18 kb
noncomputable def tL_feud_0 (kb : Co) : List Rw := (17, [(7, 0), (7, 0), (7, 0), (7, 0), (7, 0), (7, 0)], [(0, 0), (3, 60)], fun xs ys s => fL_feud_17 kb (ys.getD 0 0) (ys.getD 1 0) s) :: tL_feud_17 kb
noncomputable def rL_feud (kb : Co) : List Rw := (0, [(3, 11), (0, 0), (0, 0), (0, 0), (3, 60), (7, 0)], [], fun xs ys s => fL_feud_0 kb (xs.getD 0 0) (xs.getD 1 0) (xs.getD 2 0) (xs.getD 3 0) (xs.getD 4 0) s) :: tL_feud_0 kb
noncomputable def kL_feud : Nat → Co
  | 0 => nk
  | n + 1 => fam (rL_feud (kL_feud n)) nk
noncomputable def FL_feud (a0 a1 a2 a3 a4 : Int) (s : St) : Res := fL_feud_0 (kL_feud 0) a0 a1 a2 a3 a4 s
noncomputable def gL_feud : Fn := fun xs s => FL_feud (xs.getD 0 0) (xs.getD 1 0) (xs.getD 2 0) (xs.getD 3 0) (xs.getD 4 0) s
noncomputable def mdL_feud : MD := ([(3, 11), (0, 0), (0, 0), (0, 0), (3, 60)], (0, 0), yL_feud, cL_feud, (6, (some .int), 7, 116, [(0, 19, 22, 21), (0, 19, 26, 13)]))
-- FloatparadeLaw.theme(LFloatparade;III[J)I
noncomputable def fL_theme_23 (kb : Co) (s : St) : Res := some (0, 0, s)
noncomputable def fL_theme_19 (kb : Co) (y0 : Int) (s : St) : Res := some (0, 2, s)
noncomputable def fL_theme_15 (kb : Co) (y0 : Int) (s : St) : Res := some (0, 1, s)
noncomputable def fL_theme_0 (kb : Co) (a0 a1 a2 a3 a4 : Int) (s : St) : Res := bnh (FX11_theme a0 a1 a2 a3 s) (fun x1 s1 => if 0 ≤ 0 ∧ 0 < 1 then fL_theme_23 kb (pm s1 60 a4 0 x1) else none) (fun o9 s9 => if o9 = 3 then fL_theme_15 kb 0 s9 else if o9 = 1 then fL_theme_19 kb 0 s9 else none)
noncomputable def tL_theme_23 (kb : Co) : List Rw := []
noncomputable def tL_theme_19 (kb : Co) : List Rw := (23, [(7, 0), (7, 0), (7, 0), (7, 0), (7, 0), (7, 0)], [], fun xs ys s => fL_theme_23 kb s) :: tL_theme_23 kb
noncomputable def tL_theme_15 (kb : Co) : List Rw := (19, [(7, 0), (7, 0), (7, 0), (7, 0), (7, 0), (7, 0)], [(8, 0)], fun xs ys s => fL_theme_19 kb (ys.getD 0 0) s) :: tL_theme_19 kb
noncomputable def tL_theme_0 (kb : Co) : List Rw := (15, [(7, 0), (7, 0), (7, 0), (7, 0), (7, 0), (7, 0)], [(8, 0)], fun xs ys s => fL_theme_15 kb (ys.getD 0 0) s) :: tL_theme_15 kb
noncomputable def rL_theme (kb : Co) : List Rw := (0, [(3, 11), (0, 0), (0, 0), (0, 0), (3, 60), (7, 0)], [], fun xs ys s => fL_theme_0 kb (xs.getD 0 0) (xs.getD 1 0) (xs.getD 2 0) (xs.getD 3 0) (xs.getD 4 0) s) :: tL_theme_0 kb
noncomputable def kL_theme : Nat → Co
  | 0 => nk
  | n + 1 => fam (rL_theme (kL_theme n)) nk
noncomputable def FL_theme (a0 a1 a2 a3 a4 : Int) (s : St) : Res := fL_theme_0 (kL_theme 0) a0 a1 a2 a3 a4 s
noncomputable def gL_theme : Fn := fun xs s => FL_theme (xs.getD 0 0) (xs.getD 1 0) (xs.getD 2 0) (xs.getD 3 0) (xs.getD 4 0) s
noncomputable def mdL_theme : MD := ([(3, 11), (0, 0), (0, 0), (0, 0), (3, 60)], (0, 0), yL_theme, cL_theme, (6, (some .int), 7, 115, [(0, 12, 15, 21), (0, 12, 19, 13)]))
-- FloatparadeLaw.song(LFloatparade;I[J)I
noncomputable def fL_song_18 (kb : Co) (s : St) : Res := some (0, 0, s)
noncomputable def fL_song_15 (kb : Co) (y0 : Int) (s : St) : Res := some (0, 2, s)
noncomputable def fL_song_12 (kb : Co) (y0 : Int) (s : St) : Res := some (0, 1, s)
noncomputable def fL_song_0 (kb : Co) (a0 a1 a2 : Int) (s : St) : Res := bnh (FX11_song a0 a1 s) (fun x1 s1 => if 0 ≤ 0 ∧ 0 < 1 then fL_song_18 kb (pm s1 60 a2 0 x1) else none) (fun o9 s9 => if o9 = 3 then fL_song_12 kb 0 s9 else if o9 = 2 then fL_song_15 kb 0 s9 else none)
noncomputable def tL_song_18 (kb : Co) : List Rw := []
noncomputable def tL_song_15 (kb : Co) : List Rw := (18, [(7, 0), (7, 0), (7, 0), (7, 0)], [], fun xs ys s => fL_song_18 kb s) :: tL_song_18 kb
noncomputable def tL_song_12 (kb : Co) : List Rw := (15, [(7, 0), (7, 0), (7, 0), (7, 0)], [(8, 0)], fun xs ys s => fL_song_15 kb (ys.getD 0 0) s) :: tL_song_15 kb
noncomputable def tL_song_0 (kb : Co) : List Rw := (12, [(7, 0), (7, 0), (7, 0), (7, 0)], [(8, 0)], fun xs ys s => fL_song_12 kb (ys.getD 0 0) s) :: tL_song_12 kb
noncomputable def rL_song (kb : Co) : List Rw := (0, [(3, 11), (0, 0), (3, 60), (7, 0)], [], fun xs ys s => fL_song_0 kb (xs.getD 0 0) (xs.getD 1 0) (xs.getD 2 0) s) :: tL_song_0 kb
noncomputable def kL_song : Nat → Co
  | 0 => nk
  | n + 1 => fam (rL_song (kL_song n)) nk
noncomputable def FL_song (a0 a1 a2 : Int) (s : St) : Res := fL_song_0 (kL_song 0) a0 a1 a2 s
noncomputable def gL_song : Fn := fun xs s => FL_song (xs.getD 0 0) (xs.getD 1 0) (xs.getD 2 0) s
noncomputable def mdL_song : MD := ([(3, 11), (0, 0), (3, 60)], (0, 0), yL_song, cL_song, (4, (some .int), 7, 112, [(0, 9, 12, 21), (0, 9, 15, 15)]))
-- FloatparadeLaw.vote(LFloatparade;III[J)I
noncomputable def fL_vote_27 (kb : Co) (s : St) : Res := some (0, 0, s)
noncomputable def fL_vote_23 (kb : Co) (y0 : Int) (s : St) : Res := some (0, 3, s)
noncomputable def fL_vote_19 (kb : Co) (y0 : Int) (s : St) : Res := some (0, 2, s)
noncomputable def fL_vote_15 (kb : Co) (y0 : Int) (s : St) : Res := some (0, 1, s)
noncomputable def fL_vote_0 (kb : Co) (a0 a1 a2 a3 a4 : Int) (s : St) : Res := bnh (FX11_vote a0 a1 a2 a3 s) (fun x1 s1 => if 0 ≤ 0 ∧ 0 < 1 then fL_vote_27 kb (pm s1 60 a4 0 x1) else none) (fun o9 s9 => if o9 = 3 then fL_vote_15 kb 0 s9 else if o9 = 1 then fL_vote_19 kb 0 s9 else if o9 = 2 then fL_vote_23 kb 0 s9 else none)
noncomputable def tL_vote_27 (kb : Co) : List Rw := []
noncomputable def tL_vote_23 (kb : Co) : List Rw := (27, [(7, 0), (7, 0), (7, 0), (7, 0), (7, 0), (7, 0)], [], fun xs ys s => fL_vote_27 kb s) :: tL_vote_27 kb
noncomputable def tL_vote_19 (kb : Co) : List Rw := (23, [(7, 0), (7, 0), (7, 0), (7, 0), (7, 0), (7, 0)], [(8, 0)], fun xs ys s => fL_vote_23 kb (ys.getD 0 0) s) :: tL_vote_23 kb
noncomputable def tL_vote_15 (kb : Co) : List Rw := (19, [(7, 0), (7, 0), (7, 0), (7, 0), (7, 0), (7, 0)], [(8, 0)], fun xs ys s => fL_vote_19 kb (ys.getD 0 0) s) :: tL_vote_19 kb
noncomputable def tL_vote_0 (kb : Co) : List Rw := (15, [(7, 0), (7, 0), (7, 0), (7, 0), (7, 0), (7, 0)], [(8, 0)], fun xs ys s => fL_vote_15 kb (ys.getD 0 0) s) :: tL_vote_15 kb
noncomputable def rL_vote (kb : Co) : List Rw := (0, [(3, 11), (0, 0), (0, 0), (0, 0), (3, 60), (7, 0)], [], fun xs ys s => fL_vote_0 kb (xs.getD 0 0) (xs.getD 1 0) (xs.getD 2 0) (xs.getD 3 0) (xs.getD 4 0) s) :: tL_vote_0 kb
noncomputable def kL_vote : Nat → Co
  | 0 => nk
  | n + 1 => fam (rL_vote (kL_vote n)) nk
noncomputable def FL_vote (a0 a1 a2 a3 a4 : Int) (s : St) : Res := fL_vote_0 (kL_vote 0) a0 a1 a2 a3 a4 s
noncomputable def gL_vote : Fn := fun xs s => FL_vote (xs.getD 0 0) (xs.getD 1 0) (xs.getD 2 0) (xs.getD 3 0) (xs.getD 4 0) s
noncomputable def mdL_vote : MD := ([(3, 11), (0, 0), (0, 0), (0, 0), (3, 60)], (0, 0), yL_vote, cL_vote, (6, (some .int), 7, 132, [(0, 12, 15, 21), (0, 12, 19, 13), (0, 12, 23, 15)]))
-- FloatparadeLaw.round(LFloatparade;I[J)I
noncomputable def fL_round_18 (kb : Co) (s : St) : Res := some (0, 0, s)
noncomputable def fL_round_15 (kb : Co) (y0 : Int) (s : St) : Res := some (0, 2, s)
noncomputable def fL_round_12 (kb : Co) (y0 : Int) (s : St) : Res := some (0, 1, s)
noncomputable def fL_round_0 (kb : Co) (a0 a1 a2 : Int) (s : St) : Res := bnh (FX11_round a0 a1 s) (fun x1 s1 => if 0 ≤ 0 ∧ 0 < 1 then fL_round_18 kb (pm s1 60 a2 0 x1) else none) (fun o9 s9 => if o9 = 3 then fL_round_12 kb 0 s9 else if o9 = 2 then fL_round_15 kb 0 s9 else none)
noncomputable def tL_round_18 (kb : Co) : List Rw := []
noncomputable def tL_round_15 (kb : Co) : List Rw := (18, [(7, 0), (7, 0), (7, 0), (7, 0)], [], fun xs ys s => fL_round_18 kb s) :: tL_round_18 kb
noncomputable def tL_round_12 (kb : Co) : List Rw := (15, [(7, 0), (7, 0), (7, 0), (7, 0)], [(8, 0)], fun xs ys s => fL_round_15 kb (ys.getD 0 0) s) :: tL_round_15 kb
noncomputable def tL_round_0 (kb : Co) : List Rw := (12, [(7, 0), (7, 0), (7, 0), (7, 0)], [(8, 0)], fun xs ys s => fL_round_12 kb (ys.getD 0 0) s) :: tL_round_12 kb
noncomputable def rL_round (kb : Co) : List Rw := (0, [(3, 11), (0, 0), (3, 60), (7, 0)], [], fun xs ys s => fL_round_0 kb (xs.getD 0 0) (xs.getD 1 0) (xs.getD 2 0) s) :: tL_round_0 kb
noncomputable def kL_round : Nat → Co
  | 0 => nk
  | n + 1 => fam (rL_round (kL_round n)) nk
noncomputable def FL_round (a0 a1 a2 : Int) (s : St) : Res := fL_round_0 (kL_round 0) a0 a1 a2 s
noncomputable def gL_round : Fn := fun xs s => FL_round (xs.getD 0 0) (xs.getD 1 0) (xs.getD 2 0) s
noncomputable def mdL_round : MD := ([(3, 11), (0, 0), (3, 60)], (0, 0), yL_round, cL_round, (4, (some .int), 7, 112, [(0, 9, 12, 21), (0, 9, 15, 15)]))
-- FloatparadeLaw.street(LFloatparade;IIIIII[J)I
noncomputable def fL_street_33 (kb : Co) (s : St) : Res := some (0, 0, s)
noncomputable def fL_street_29 (kb : Co) (y0 : Int) (s : St) : Res := some (0, 3, s)
noncomputable def fL_street_25 (kb : Co) (y0 : Int) (s : St) : Res := some (0, 2, s)
noncomputable def fL_street_21 (kb : Co) (y0 : Int) (s : St) : Res := some (0, 1, s)
noncomputable def fL_street_0 (kb : Co) (a0 a1 a2 a3 a4 a5 a6 a7 : Int) (s : St) : Res := bnh (FX11_street a0 a1 a2 a3 a4 a5 a6 s) (fun x1 s1 => if 0 ≤ 0 ∧ 0 < 1 then fL_street_33 kb (pm s1 60 a7 0 x1) else none) (fun o9 s9 => if o9 = 3 then fL_street_21 kb 0 s9 else if o9 = 1 then fL_street_25 kb 0 s9 else if o9 = 2 then fL_street_29 kb 0 s9 else none)
noncomputable def tL_street_33 (kb : Co) : List Rw := []
noncomputable def tL_street_29 (kb : Co) : List Rw := (33, [(7, 0), (7, 0), (7, 0), (7, 0), (7, 0), (7, 0), (7, 0), (7, 0), (7, 0)], [], fun xs ys s => fL_street_33 kb s) :: tL_street_33 kb
noncomputable def tL_street_25 (kb : Co) : List Rw := (29, [(7, 0), (7, 0), (7, 0), (7, 0), (7, 0), (7, 0), (7, 0), (7, 0), (7, 0)], [(8, 0)], fun xs ys s => fL_street_29 kb (ys.getD 0 0) s) :: tL_street_29 kb
noncomputable def tL_street_21 (kb : Co) : List Rw := (25, [(7, 0), (7, 0), (7, 0), (7, 0), (7, 0), (7, 0), (7, 0), (7, 0), (7, 0)], [(8, 0)], fun xs ys s => fL_street_25 kb (ys.getD 0 0) s) :: tL_street_25 kb
noncomputable def tL_street_0 (kb : Co) : List Rw := (21, [(7, 0), (7, 0), (7, 0), (7, 0), (7, 0), (7, 0), (7, 0), (7, 0), (7, 0)], [(8, 0)], fun xs ys s => fL_street_21 kb (ys.getD 0 0) s) :: tL_street_21 kb
noncomputable def rL_street (kb : Co) : List Rw := (0, [(3, 11), (0, 0), (0, 0), (0, 0), (0, 0), (0, 0), (0, 0), (3, 60), (7, 0)], [], fun xs ys s => fL_street_0 kb (xs.getD 0 0) (xs.getD 1 0) (xs.getD 2 0) (xs.getD 3 0) (xs.getD 4 0) (xs.getD 5 0) (xs.getD 6 0) (xs.getD 7 0) s) :: tL_street_0 kb
noncomputable def kL_street : Nat → Co
  | 0 => nk
  | n + 1 => fam (rL_street (kL_street n)) nk
noncomputable def FL_street (a0 a1 a2 a3 a4 a5 a6 a7 : Int) (s : St) : Res := fL_street_0 (kL_street 0) a0 a1 a2 a3 a4 a5 a6 a7 s
noncomputable def gL_street : Fn := fun xs s => FL_street (xs.getD 0 0) (xs.getD 1 0) (xs.getD 2 0) (xs.getD 3 0) (xs.getD 4 0) (xs.getD 5 0) (xs.getD 6 0) (xs.getD 7 0) s
noncomputable def mdL_street : MD := ([(3, 11), (0, 0), (0, 0), (0, 0), (0, 0), (0, 0), (0, 0), (3, 60)], (0, 0), yL_street, cL_street, (9, (some .int), 7, 116, [(0, 18, 21, 21), (0, 18, 25, 13), (0, 18, 29, 15)]))
-- FloatparadeLaw.route(LFloatparade;II)I
noncomputable def fL_route_18 (kb : Co) (s : St) : Res := some (0, 0, s)
noncomputable def fL_route_15 (kb : Co) (y0 : Int) (s : St) : Res := some (0, 3, s)
noncomputable def fL_route_12 (kb : Co) (y0 : Int) (s : St) : Res := some (0, 2, s)
noncomputable def fL_route_9 (kb : Co) (y0 : Int) (s : St) : Res := some (0, 1, s)
noncomputable def fL_route_0 (kb : Co) (a0 a1 a2 : Int) (s : St) : Res := bnh (FX11_route a0 a1 a2 s) (fun _ s1 => fL_route_18 kb s1) (fun o9 s9 => if o9 = 3 then fL_route_9 kb 0 s9 else if o9 = 1 then fL_route_12 kb 0 s9 else if o9 = 2 then fL_route_15 kb 0 s9 else none)
noncomputable def tL_route_18 (kb : Co) : List Rw := []
noncomputable def tL_route_15 (kb : Co) : List Rw := (18, [(7, 0), (7, 0), (7, 0), (7, 0)], [], fun xs ys s => fL_route_18 kb s) :: tL_route_18 kb
noncomputable def tL_route_12 (kb : Co) : List Rw := (15, [(7, 0), (7, 0), (7, 0), (7, 0)], [(8, 0)], fun xs ys s => fL_route_15 kb (ys.getD 0 0) s) :: tL_route_15 kb
noncomputable def tL_route_9 (kb : Co) : List Rw := (12, [(7, 0), (7, 0), (7, 0), (7, 0)], [(8, 0)], fun xs ys s => fL_route_12 kb (ys.getD 0 0) s) :: tL_route_12 kb
noncomputable def tL_route_0 (kb : Co) : List Rw := (9, [(7, 0), (7, 0), (7, 0), (7, 0)], [(8, 0)], fun xs ys s => fL_route_9 kb (ys.getD 0 0) s) :: tL_route_9 kb
noncomputable def rL_route (kb : Co) : List Rw := (0, [(3, 11), (0, 0), (0, 0), (7, 0)], [], fun xs ys s => fL_route_0 kb (xs.getD 0 0) (xs.getD 1 0) (xs.getD 2 0) s) :: tL_route_0 kb
noncomputable def kL_route : Nat → Co
  | 0 => nk
  | n + 1 => fam (rL_route (kL_route n)) nk
noncomputable def FL_route (a0 a1 a2 : Int) (s : St) : Res := fL_route_0 (kL_route 0) a0 a1 a2 s
noncomputable def gL_route : Fn := fun xs s => FL_route (xs.getD 0 0) (xs.getD 1 0) (xs.getD 2 0) s
noncomputable def mdL_route : MD := ([(3, 11), (0, 0), (0, 0)], (0, 0), yL_route, cL_route, (4, (some .int), 7, 113, [(0, 6, 9, 21), (0, 6, 12, 13), (0, 6, 15, 15)]))
-- FloatparadeLaw.goOn(LFloatparade;II[J)I
noncomputable def fL_goOn_25 (kb : Co) (s : St) : Res := some (0, 0, s)
noncomputable def fL_goOn_21 (kb : Co) (y0 : Int) (s : St) : Res := some (0, 3, s)
noncomputable def fL_goOn_17 (kb : Co) (y0 : Int) (s : St) : Res := some (0, 2, s)
noncomputable def fL_goOn_13 (kb : Co) (y0 : Int) (s : St) : Res := some (0, 1, s)
noncomputable def fL_goOn_0 (kb : Co) (a0 a1 a2 a3 : Int) (s : St) : Res := bnh (FX11_goOn a0 a1 a2 s) (fun x1 s1 => if 0 ≤ 0 ∧ 0 < 1 then fL_goOn_25 kb (pm s1 60 a3 0 x1) else none) (fun o9 s9 => if o9 = 3 then fL_goOn_13 kb 0 s9 else if o9 = 1 then fL_goOn_17 kb 0 s9 else if o9 = 2 then fL_goOn_21 kb 0 s9 else none)
noncomputable def tL_goOn_25 (kb : Co) : List Rw := []
noncomputable def tL_goOn_21 (kb : Co) : List Rw := (25, [(7, 0), (7, 0), (7, 0), (7, 0), (7, 0)], [], fun xs ys s => fL_goOn_25 kb s) :: tL_goOn_25 kb
noncomputable def tL_goOn_17 (kb : Co) : List Rw := (21, [(7, 0), (7, 0), (7, 0), (7, 0), (7, 0)], [(8, 0)], fun xs ys s => fL_goOn_21 kb (ys.getD 0 0) s) :: tL_goOn_21 kb
noncomputable def tL_goOn_13 (kb : Co) : List Rw := (17, [(7, 0), (7, 0), (7, 0), (7, 0), (7, 0)], [(8, 0)], fun xs ys s => fL_goOn_17 kb (ys.getD 0 0) s) :: tL_goOn_17 kb
noncomputable def tL_goOn_0 (kb : Co) : List Rw := (13, [(7, 0), (7, 0), (7, 0), (7, 0), (7, 0)], [(8, 0)], fun xs ys s => fL_goOn_13 kb (ys.getD 0 0) s) :: tL_goOn_13 kb
noncomputable def rL_goOn (kb : Co) : List Rw := (0, [(3, 11), (0, 0), (0, 0), (3, 60), (7, 0)], [], fun xs ys s => fL_goOn_0 kb (xs.getD 0 0) (xs.getD 1 0) (xs.getD 2 0) (xs.getD 3 0) s) :: tL_goOn_0 kb
noncomputable def kL_goOn : Nat → Co
  | 0 => nk
  | n + 1 => fam (rL_goOn (kL_goOn n)) nk
noncomputable def FL_goOn (a0 a1 a2 a3 : Int) (s : St) : Res := fL_goOn_0 (kL_goOn 0) a0 a1 a2 a3 s
noncomputable def gL_goOn : Fn := fun xs s => FL_goOn (xs.getD 0 0) (xs.getD 1 0) (xs.getD 2 0) (xs.getD 3 0) s
noncomputable def mdL_goOn : MD := ([(3, 11), (0, 0), (0, 0), (3, 60)], (0, 0), yL_goOn, cL_goOn, (5, (some .int), 7, 114, [(0, 10, 13, 21), (0, 10, 17, 13), (0, 10, 21, 15)]))
-- FloatparadeLaw.jury(LFloatparade;IZ[J)I
noncomputable def fL_jury_24 (kb : Co) (s : St) : Res := some (0, 0, s)
noncomputable def fL_jury_20 (kb : Co) (y0 : Int) (s : St) : Res := some (0, 1, s)
noncomputable def fL_jury_16 (kb : Co) (y0 y1 y2 : Int) (s : St) : Res := if 0 ≤ y1 ∧ y1 < 1 then fL_jury_24 kb (pm s 60 y2 y1 y0) else none
noncomputable def fL_jury_15 (kb : Co) (y0 y1 : Int) (s : St) : Res := fL_jury_16 kb 0 y0 y1 s
noncomputable def fL_jury_0 (kb : Co) (a0 a1 a2 a3 : Int) (s : St) : Res := bnh (FX11_jury a0 a1 a2 s) (fun x1 s1 => if x1 = 0 then fL_jury_15 kb 0 a3 s1 else fL_jury_16 kb 1 0 a3 s1) (fun o9 s9 => if o9 = 3 then fL_jury_20 kb 0 s9 else none)
noncomputable def tL_jury_24 (kb : Co) : List Rw := []
noncomputable def tL_jury_20 (kb : Co) : List Rw := (24, [(7, 0), (7, 0), (7, 0), (7, 0), (7, 0)], [], fun xs ys s => fL_jury_24 kb s) :: tL_jury_24 kb
noncomputable def tL_jury_16 (kb : Co) : List Rw := (20, [(7, 0), (7, 0), (7, 0), (7, 0), (7, 0)], [(8, 0)], fun xs ys s => fL_jury_20 kb (ys.getD 0 0) s) :: tL_jury_20 kb
noncomputable def tL_jury_15 (kb : Co) : List Rw := (16, [(7, 0), (7, 0), (7, 0), (7, 0), (7, 0)], [(1, 0), (0, 0), (3, 60)], fun xs ys s => fL_jury_16 kb (ys.getD 0 0) (ys.getD 1 0) (ys.getD 2 0) s) :: tL_jury_16 kb
noncomputable def tL_jury_0 (kb : Co) : List Rw := (15, [(7, 0), (7, 0), (7, 0), (7, 0), (7, 0)], [(0, 0), (3, 60)], fun xs ys s => fL_jury_15 kb (ys.getD 0 0) (ys.getD 1 0) s) :: tL_jury_15 kb
noncomputable def rL_jury (kb : Co) : List Rw := (0, [(3, 11), (0, 0), (0, 0), (3, 60), (7, 0)], [], fun xs ys s => fL_jury_0 kb (xs.getD 0 0) (xs.getD 1 0) (xs.getD 2 0) (xs.getD 3 0) s) :: tL_jury_0 kb
noncomputable def kL_jury : Nat → Co
  | 0 => nk
  | n + 1 => fam (rL_jury (kL_jury n)) nk
noncomputable def FL_jury (a0 a1 a2 a3 : Int) (s : St) : Res := fL_jury_0 (kL_jury 0) a0 a1 a2 a3 s
noncomputable def gL_jury : Fn := fun xs s => FL_jury (xs.getD 0 0) (xs.getD 1 0) (xs.getD 2 0) (xs.getD 3 0) s
noncomputable def mdL_jury : MD := ([(3, 11), (0, 0), (0, 0), (3, 60)], (0, 0), yL_jury, cL_jury, (5, (some .int), 7, 112, [(0, 17, 20, 21)]))
-- FloatparadeLaw.build(LFloatparade;IIIII[J)I
noncomputable def fL_build_31 (kb : Co) (s : St) : Res := some (0, 0, s)
noncomputable def fL_build_27 (kb : Co) (y0 : Int) (s : St) : Res := some (0, 3, s)
noncomputable def fL_build_23 (kb : Co) (y0 : Int) (s : St) : Res := some (0, 2, s)
noncomputable def fL_build_19 (kb : Co) (y0 : Int) (s : St) : Res := some (0, 1, s)
noncomputable def fL_build_0 (kb : Co) (a0 a1 a2 a3 a4 a5 a6 : Int) (s : St) : Res := bnh (FX11_build a0 a1 a2 a3 a4 a5 s) (fun x1 s1 => if 0 ≤ 0 ∧ 0 < 1 then fL_build_31 kb (pm s1 60 a6 0 x1) else none) (fun o9 s9 => if o9 = 3 then fL_build_19 kb 0 s9 else if o9 = 1 then fL_build_23 kb 0 s9 else if o9 = 2 then fL_build_27 kb 0 s9 else none)
noncomputable def tL_build_31 (kb : Co) : List Rw := []
noncomputable def tL_build_27 (kb : Co) : List Rw := (31, [(7, 0), (7, 0), (7, 0), (7, 0), (7, 0), (7, 0), (7, 0), (7, 0)], [], fun xs ys s => fL_build_31 kb s) :: tL_build_31 kb
noncomputable def tL_build_23 (kb : Co) : List Rw := (27, [(7, 0), (7, 0), (7, 0), (7, 0), (7, 0), (7, 0), (7, 0), (7, 0)], [(8, 0)], fun xs ys s => fL_build_27 kb (ys.getD 0 0) s) :: tL_build_27 kb
noncomputable def tL_build_19 (kb : Co) : List Rw := (23, [(7, 0), (7, 0), (7, 0), (7, 0), (7, 0), (7, 0), (7, 0), (7, 0)], [(8, 0)], fun xs ys s => fL_build_23 kb (ys.getD 0 0) s) :: tL_build_23 kb
noncomputable def tL_build_0 (kb : Co) : List Rw := (19, [(7, 0), (7, 0), (7, 0), (7, 0), (7, 0), (7, 0), (7, 0), (7, 0)], [(8, 0)], fun xs ys s => fL_build_19 kb (ys.getD 0 0) s) :: tL_build_19 kb
noncomputable def rL_build (kb : Co) : List Rw := (0, [(3, 11), (0, 0), (0, 0), (0, 0), (0, 0), (0, 0), (3, 60), (7, 0)], [], fun xs ys s => fL_build_0 kb (xs.getD 0 0) (xs.getD 1 0) (xs.getD 2 0) (xs.getD 3 0) (xs.getD 4 0) (xs.getD 5 0) (xs.getD 6 0) s) :: tL_build_0 kb
noncomputable def kL_build : Nat → Co
  | 0 => nk
  | n + 1 => fam (rL_build (kL_build n)) nk
noncomputable def FL_build (a0 a1 a2 a3 a4 a5 a6 : Int) (s : St) : Res := fL_build_0 (kL_build 0) a0 a1 a2 a3 a4 a5 a6 s
noncomputable def gL_build : Fn := fun xs s => FL_build (xs.getD 0 0) (xs.getD 1 0) (xs.getD 2 0) (xs.getD 3 0) (xs.getD 4 0) (xs.getD 5 0) (xs.getD 6 0) s
noncomputable def mdL_build : MD := ([(3, 11), (0, 0), (0, 0), (0, 0), (0, 0), (0, 0), (3, 60)], (0, 0), yL_build, cL_build, (8, (some .int), 7, 116, [(0, 16, 19, 21), (0, 16, 23, 13), (0, 16, 27, 15)]))
-- FloatparadeLaw.cut(LFloatparade;IIIIII[J)I
noncomputable def fL_cut_33 (kb : Co) (s : St) : Res := some (0, 0, s)
noncomputable def fL_cut_29 (kb : Co) (y0 : Int) (s : St) : Res := some (0, 3, s)
noncomputable def fL_cut_25 (kb : Co) (y0 : Int) (s : St) : Res := some (0, 2, s)
noncomputable def fL_cut_21 (kb : Co) (y0 : Int) (s : St) : Res := some (0, 1, s)
noncomputable def fL_cut_0 (kb : Co) (a0 a1 a2 a3 a4 a5 a6 a7 : Int) (s : St) : Res := bnh (FX11_cut a0 a1 a2 a3 a4 a5 a6 s) (fun x1 s1 => if 0 ≤ 0 ∧ 0 < 1 then fL_cut_33 kb (pm s1 60 a7 0 x1) else none) (fun o9 s9 => if o9 = 3 then fL_cut_21 kb 0 s9 else if o9 = 1 then fL_cut_25 kb 0 s9 else if o9 = 2 then fL_cut_29 kb 0 s9 else none)
noncomputable def tL_cut_33 (kb : Co) : List Rw := []
noncomputable def tL_cut_29 (kb : Co) : List Rw := (33, [(7, 0), (7, 0), (7, 0), (7, 0), (7, 0), (7, 0), (7, 0), (7, 0), (7, 0)], [], fun xs ys s => fL_cut_33 kb s) :: tL_cut_33 kb
noncomputable def tL_cut_25 (kb : Co) : List Rw := (29, [(7, 0), (7, 0), (7, 0), (7, 0), (7, 0), (7, 0), (7, 0), (7, 0), (7, 0)], [(8, 0)], fun xs ys s => fL_cut_29 kb (ys.getD 0 0) s) :: tL_cut_29 kb
noncomputable def tL_cut_21 (kb : Co) : List Rw := (25, [(7, 0), (7, 0), (7, 0), (7, 0), (7, 0), (7, 0), (7, 0), (7, 0), (7, 0)], [(8, 0)], fun xs ys s => fL_cut_25 kb (ys.getD 0 0) s) :: tL_cut_25 kb
noncomputable def tL_cut_0 (kb : Co) : List Rw := (21, [(7, 0), (7, 0), (7, 0), (7, 0), (7, 0), (7, 0), (7, 0), (7, 0), (7, 0)], [(8, 0)], fun xs ys s => fL_cut_21 kb (ys.getD 0 0) s) :: tL_cut_21 kb
noncomputable def rL_cut (kb : Co) : List Rw := (0, [(3, 11), (0, 0), (0, 0), (0, 0), (0, 0), (0, 0), (0, 0), (3, 60), (7, 0)], [], fun xs ys s => fL_cut_0 kb (xs.getD 0 0) (xs.getD 1 0) (xs.getD 2 0) (xs.getD 3 0) (xs.getD 4 0) (xs.getD 5 0) (xs.getD 6 0) (xs.getD 7 0) s) :: tL_cut_0 kb
noncomputable def kL_cut : Nat → Co
  | 0 => nk
  | n + 1 => fam (rL_cut (kL_cut n)) nk
noncomputable def FL_cut (a0 a1 a2 a3 a4 a5 a6 a7 : Int) (s : St) : Res := fL_cut_0 (kL_cut 0) a0 a1 a2 a3 a4 a5 a6 a7 s
noncomputable def gL_cut : Fn := fun xs s => FL_cut (xs.getD 0 0) (xs.getD 1 0) (xs.getD 2 0) (xs.getD 3 0) (xs.getD 4 0) (xs.getD 5 0) (xs.getD 6 0) (xs.getD 7 0) s
noncomputable def mdL_cut : MD := ([(3, 11), (0, 0), (0, 0), (0, 0), (0, 0), (0, 0), (0, 0), (3, 60)], (0, 0), yL_cut, cL_cut, (9, (some .int), 7, 118, [(0, 18, 21, 21), (0, 18, 25, 13), (0, 18, 29, 15)]))
-- FloatparadeLaw.fits(LFloatparade;II[J)I
noncomputable def fL_fits_24 (kb : Co) (s : St) : Res := some (0, 0, s)
noncomputable def fL_fits_20 (kb : Co) (y0 : Int) (s : St) : Res := some (0, 1, s)
noncomputable def fL_fits_16 (kb : Co) (y0 y1 y2 : Int) (s : St) : Res := if 0 ≤ y1 ∧ y1 < 1 then fL_fits_24 kb (pm s 60 y2 y1 y0) else none
noncomputable def fL_fits_15 (kb : Co) (y0 y1 : Int) (s : St) : Res := fL_fits_16 kb 0 y0 y1 s
noncomputable def fL_fits_0 (kb : Co) (a0 a1 a2 a3 : Int) (s : St) : Res := bnh (FX11_fits a0 a1 a2 s) (fun x1 s1 => if x1 = 0 then fL_fits_15 kb 0 a3 s1 else fL_fits_16 kb 1 0 a3 s1) (fun o9 s9 => if o9 = 3 then fL_fits_20 kb 0 s9 else none)
noncomputable def tL_fits_24 (kb : Co) : List Rw := []
noncomputable def tL_fits_20 (kb : Co) : List Rw := (24, [(7, 0), (7, 0), (7, 0), (7, 0), (7, 0)], [], fun xs ys s => fL_fits_24 kb s) :: tL_fits_24 kb
noncomputable def tL_fits_16 (kb : Co) : List Rw := (20, [(7, 0), (7, 0), (7, 0), (7, 0), (7, 0)], [(8, 0)], fun xs ys s => fL_fits_20 kb (ys.getD 0 0) s) :: tL_fits_20 kb
noncomputable def tL_fits_15 (kb : Co) : List Rw := (16, [(7, 0), (7, 0), (7, 0), (7, 0), (7, 0)], [(1, 0), (0, 0), (3, 60)], fun xs ys s => fL_fits_16 kb (ys.getD 0 0) (ys.getD 1 0) (ys.getD 2 0) s) :: tL_fits_16 kb
noncomputable def tL_fits_0 (kb : Co) : List Rw := (15, [(7, 0), (7, 0), (7, 0), (7, 0), (7, 0)], [(0, 0), (3, 60)], fun xs ys s => fL_fits_15 kb (ys.getD 0 0) (ys.getD 1 0) s) :: tL_fits_15 kb
noncomputable def rL_fits (kb : Co) : List Rw := (0, [(3, 11), (0, 0), (0, 0), (3, 60), (7, 0)], [], fun xs ys s => fL_fits_0 kb (xs.getD 0 0) (xs.getD 1 0) (xs.getD 2 0) (xs.getD 3 0) s) :: tL_fits_0 kb
noncomputable def kL_fits : Nat → Co
  | 0 => nk
  | n + 1 => fam (rL_fits (kL_fits n)) nk
noncomputable def FL_fits (a0 a1 a2 a3 : Int) (s : St) : Res := fL_fits_0 (kL_fits 0) a0 a1 a2 a3 s
noncomputable def gL_fits : Fn := fun xs s => FL_fits (xs.getD 0 0) (xs.getD 1 0) (xs.getD 2 0) (xs.getD 3 0) s
noncomputable def mdL_fits : MD := ([(3, 11), (0, 0), (0, 0), (3, 60)], (0, 0), yL_fits, cL_fits, (5, (some .int), 7, 115, [(0, 17, 20, 21)]))
-- FloatparadeLaw.enter(LFloatparade;II[J)I
noncomputable def fL_enter_25 (kb : Co) (s : St) : Res := some (0, 0, s)
noncomputable def fL_enter_21 (kb : Co) (y0 : Int) (s : St) : Res := some (0, 3, s)
noncomputable def fL_enter_17 (kb : Co) (y0 : Int) (s : St) : Res := some (0, 2, s)
noncomputable def fL_enter_13 (kb : Co) (y0 : Int) (s : St) : Res := some (0, 1, s)
noncomputable def fL_enter_0 (kb : Co) (a0 a1 a2 a3 : Int) (s : St) : Res := bnh (FX11_enter a0 a1 a2 s) (fun x1 s1 => if 0 ≤ 0 ∧ 0 < 1 then fL_enter_25 kb (pm s1 60 a3 0 x1) else none) (fun o9 s9 => if o9 = 3 then fL_enter_13 kb 0 s9 else if o9 = 1 then fL_enter_17 kb 0 s9 else if o9 = 2 then fL_enter_21 kb 0 s9 else none)
noncomputable def tL_enter_25 (kb : Co) : List Rw := []
noncomputable def tL_enter_21 (kb : Co) : List Rw := (25, [(7, 0), (7, 0), (7, 0), (7, 0), (7, 0)], [], fun xs ys s => fL_enter_25 kb s) :: tL_enter_25 kb
noncomputable def tL_enter_17 (kb : Co) : List Rw := (21, [(7, 0), (7, 0), (7, 0), (7, 0), (7, 0)], [(8, 0)], fun xs ys s => fL_enter_21 kb (ys.getD 0 0) s) :: tL_enter_21 kb
noncomputable def tL_enter_13 (kb : Co) : List Rw := (17, [(7, 0), (7, 0), (7, 0), (7, 0), (7, 0)], [(8, 0)], fun xs ys s => fL_enter_17 kb (ys.getD 0 0) s) :: tL_enter_17 kb
noncomputable def tL_enter_0 (kb : Co) : List Rw := (13, [(7, 0), (7, 0), (7, 0), (7, 0), (7, 0)], [(8, 0)], fun xs ys s => fL_enter_13 kb (ys.getD 0 0) s) :: tL_enter_13 kb
noncomputable def rL_enter (kb : Co) : List Rw := (0, [(3, 11), (0, 0), (0, 0), (3, 60), (7, 0)], [], fun xs ys s => fL_enter_0 kb (xs.getD 0 0) (xs.getD 1 0) (xs.getD 2 0) (xs.getD 3 0) s) :: tL_enter_0 kb
noncomputable def kL_enter : Nat → Co
  | 0 => nk
  | n + 1 => fam (rL_enter (kL_enter n)) nk
noncomputable def FL_enter (a0 a1 a2 a3 : Int) (s : St) : Res := fL_enter_0 (kL_enter 0) a0 a1 a2 a3 s
noncomputable def gL_enter : Fn := fun xs s => FL_enter (xs.getD 0 0) (xs.getD 1 0) (xs.getD 2 0) (xs.getD 3 0) s
noncomputable def mdL_enter : MD := ([(3, 11), (0, 0), (0, 0), (3, 60)], (0, 0), yL_enter, cL_enter, (5, (some .int), 7, 157, [(0, 10, 13, 21), (0, 10, 17, 13), (0, 10, 21, 15)]))
-- FloatparadeLaw.change(LFloatparade;II[J)I
noncomputable def fL_change_32 (kb : Co) (s : St) : Res := some (0, 0, s)
noncomputable def fL_change_28 (kb : Co) (y0 : Int) (s : St) : Res := some (0, 3, s)
noncomputable def fL_change_24 (kb : Co) (y0 : Int) (s : St) : Res := some (0, 2, s)
noncomputable def fL_change_20 (kb : Co) (y0 : Int) (s : St) : Res := some (0, 1, s)
noncomputable def fL_change_16 (kb : Co) (y0 y1 y2 : Int) (s : St) : Res := if 0 ≤ y1 ∧ y1 < 1 then fL_change_32 kb (pm s 60 y2 y1 y0) else none
noncomputable def fL_change_15 (kb : Co) (y0 y1 : Int) (s : St) : Res := fL_change_16 kb 0 y0 y1 s
noncomputable def fL_change_0 (kb : Co) (a0 a1 a2 a3 : Int) (s : St) : Res := bnh (FX11_change a0 a1 a2 s) (fun x1 s1 => if x1 = 0 then fL_change_15 kb 0 a3 s1 else fL_change_16 kb 1 0 a3 s1) (fun o9 s9 => if o9 = 3 then fL_change_20 kb 0 s9 else if o9 = 1 then fL_change_24 kb 0 s9 else if o9 = 2 then fL_change_28 kb 0 s9 else none)
noncomputable def tL_change_32 (kb : Co) : List Rw := []
noncomputable def tL_change_28 (kb : Co) : List Rw := (32, [(7, 0), (7, 0), (7, 0), (7, 0), (7, 0)], [], fun xs ys s => fL_change_32 kb s) :: tL_change_32 kb
noncomputable def tL_change_24 (kb : Co) : List Rw := (28, [(7, 0), (7, 0), (7, 0), (7, 0), (7, 0)], [(8, 0)], fun xs ys s => fL_change_28 kb (ys.getD 0 0) s) :: tL_change_28 kb
noncomputable def tL_change_20 (kb : Co) : List Rw := (24, [(7, 0), (7, 0), (7, 0), (7, 0), (7, 0)], [(8, 0)], fun xs ys s => fL_change_24 kb (ys.getD 0 0) s) :: tL_change_24 kb
noncomputable def tL_change_16 (kb : Co) : List Rw := (20, [(7, 0), (7, 0), (7, 0), (7, 0), (7, 0)], [(8, 0)], fun xs ys s => fL_change_20 kb (ys.getD 0 0) s) :: tL_change_20 kb
noncomputable def tL_change_15 (kb : Co) : List Rw := (16, [(7, 0), (7, 0), (7, 0), (7, 0), (7, 0)], [(1, 0), (0, 0), (3, 60)], fun xs ys s => fL_change_16 kb (ys.getD 0 0) (ys.getD 1 0) (ys.getD 2 0) s) :: tL_change_16 kb
noncomputable def tL_change_0 (kb : Co) : List Rw := (15, [(7, 0), (7, 0), (7, 0), (7, 0), (7, 0)], [(0, 0), (3, 60)], fun xs ys s => fL_change_15 kb (ys.getD 0 0) (ys.getD 1 0) s) :: tL_change_15 kb
noncomputable def rL_change (kb : Co) : List Rw := (0, [(3, 11), (0, 0), (0, 0), (3, 60), (7, 0)], [], fun xs ys s => fL_change_0 kb (xs.getD 0 0) (xs.getD 1 0) (xs.getD 2 0) (xs.getD 3 0) s) :: tL_change_0 kb
noncomputable def kL_change : Nat → Co
  | 0 => nk
  | n + 1 => fam (rL_change (kL_change n)) nk
noncomputable def FL_change (a0 a1 a2 a3 : Int) (s : St) : Res := fL_change_0 (kL_change 0) a0 a1 a2 a3 s
noncomputable def gL_change : Fn := fun xs s => FL_change (xs.getD 0 0) (xs.getD 1 0) (xs.getD 2 0) (xs.getD 3 0) s
noncomputable def mdL_change : MD := ([(3, 11), (0, 0), (0, 0), (3, 60)], (0, 0), yL_change, cL_change, (5, (some .int), 7, 119, [(0, 17, 20, 21), (0, 17, 24, 13), (0, 17, 28, 15)]))
-- FloatparadeLaw.order(LFloatparade;II[J)I
noncomputable def fL_order_21 (kb : Co) (s : St) : Res := some (0, 0, s)
noncomputable def fL_order_17 (kb : Co) (y0 : Int) (s : St) : Res := some (0, 2, s)
noncomputable def fL_order_13 (kb : Co) (y0 : Int) (s : St) : Res := some (0, 1, s)
noncomputable def fL_order_0 (kb : Co) (a0 a1 a2 a3 : Int) (s : St) : Res := bnh (FX11_order a0 a1 a2 s) (fun x1 s1 => if 0 ≤ 0 ∧ 0 < 1 then fL_order_21 kb (pm s1 60 a3 0 x1) else none) (fun o9 s9 => if o9 = 3 then fL_order_13 kb 0 s9 else if o9 = 1 then fL_order_17 kb 0 s9 else none)
noncomputable def tL_order_21 (kb : Co) : List Rw := []
noncomputable def tL_order_17 (kb : Co) : List Rw := (21, [(7, 0), (7, 0), (7, 0), (7, 0), (7, 0)], [], fun xs ys s => fL_order_21 kb s) :: tL_order_21 kb
noncomputable def tL_order_13 (kb : Co) : List Rw := (17, [(7, 0), (7, 0), (7, 0), (7, 0), (7, 0)], [(8, 0)], fun xs ys s => fL_order_17 kb (ys.getD 0 0) s) :: tL_order_17 kb
noncomputable def tL_order_0 (kb : Co) : List Rw := (13, [(7, 0), (7, 0), (7, 0), (7, 0), (7, 0)], [(8, 0)], fun xs ys s => fL_order_13 kb (ys.getD 0 0) s) :: tL_order_13 kb
noncomputable def rL_order (kb : Co) : List Rw := (0, [(3, 11), (0, 0), (0, 0), (3, 60), (7, 0)], [], fun xs ys s => fL_order_0 kb (xs.getD 0 0) (xs.getD 1 0) (xs.getD 2 0) (xs.getD 3 0) s) :: tL_order_0 kb
noncomputable def kL_order : Nat → Co
  | 0 => nk
  | n + 1 => fam (rL_order (kL_order n)) nk
noncomputable def FL_order (a0 a1 a2 a3 : Int) (s : St) : Res := fL_order_0 (kL_order 0) a0 a1 a2 a3 s
noncomputable def gL_order : Fn := fun xs s => FL_order (xs.getD 0 0) (xs.getD 1 0) (xs.getD 2 0) (xs.getD 3 0) s
noncomputable def mdL_order : MD := ([(3, 11), (0, 0), (0, 0), (3, 60)], (0, 0), yL_order, cL_order, (5, (some .int), 7, 113, [(0, 10, 13, 21), (0, 10, 17, 13)]))
-- FloatparadeLaw.begin(LFloatparade;III[J)I
noncomputable def fL_begin_23 (kb : Co) (s : St) : Res := some (0, 0, s)
noncomputable def fL_begin_19 (kb : Co) (y0 : Int) (s : St) : Res := some (0, 2, s)
noncomputable def fL_begin_15 (kb : Co) (y0 : Int) (s : St) : Res := some (0, 1, s)
noncomputable def fL_begin_0 (kb : Co) (a0 a1 a2 a3 a4 : Int) (s : St) : Res := bnh (FX11_begin a0 a1 a2 a3 s) (fun x1 s1 => if 0 ≤ 0 ∧ 0 < 1 then fL_begin_23 kb (pm s1 60 a4 0 x1) else none) (fun o9 s9 => if o9 = 1 then fL_begin_15 kb 0 s9 else if o9 = 2 then fL_begin_19 kb 0 s9 else none)
noncomputable def tL_begin_23 (kb : Co) : List Rw := []
noncomputable def tL_begin_19 (kb : Co) : List Rw := (23, [(7, 0), (7, 0), (7, 0), (7, 0), (7, 0), (7, 0)], [], fun xs ys s => fL_begin_23 kb s) :: tL_begin_23 kb
noncomputable def tL_begin_15 (kb : Co) : List Rw := (19, [(7, 0), (7, 0), (7, 0), (7, 0), (7, 0), (7, 0)], [(8, 0)], fun xs ys s => fL_begin_19 kb (ys.getD 0 0) s) :: tL_begin_19 kb
noncomputable def tL_begin_0 (kb : Co) : List Rw := (15, [(7, 0), (7, 0), (7, 0), (7, 0), (7, 0), (7, 0)], [(8, 0)], fun xs ys s => fL_begin_15 kb (ys.getD 0 0) s) :: tL_begin_15 kb
noncomputable def rL_begin (kb : Co) : List Rw := (0, [(3, 11), (0, 0), (0, 0), (0, 0), (3, 60), (7, 0)], [], fun xs ys s => fL_begin_0 kb (xs.getD 0 0) (xs.getD 1 0) (xs.getD 2 0) (xs.getD 3 0) (xs.getD 4 0) s) :: tL_begin_0 kb
noncomputable def kL_begin : Nat → Co
  | 0 => nk
  | n + 1 => fam (rL_begin (kL_begin n)) nk
noncomputable def FL_begin (a0 a1 a2 a3 a4 : Int) (s : St) : Res := fL_begin_0 (kL_begin 0) a0 a1 a2 a3 a4 s
noncomputable def gL_begin : Fn := fun xs s => FL_begin (xs.getD 0 0) (xs.getD 1 0) (xs.getD 2 0) (xs.getD 3 0) (xs.getD 4 0) s
noncomputable def mdL_begin : MD := ([(3, 11), (0, 0), (0, 0), (0, 0), (3, 60)], (0, 0), yL_begin, cL_begin, (6, (some .int), 7, 156, [(0, 12, 15, 13), (0, 12, 19, 15)]))
-- FloatparadeLaw.stop(LFloatparade;III[J)I
noncomputable def fL_stop_27 (kb : Co) (s : St) : Res := some (0, 0, s)
noncomputable def fL_stop_23 (kb : Co) (y0 : Int) (s : St) : Res := some (0, 3, s)
noncomputable def fL_stop_19 (kb : Co) (y0 : Int) (s : St) : Res := some (0, 2, s)
noncomputable def fL_stop_15 (kb : Co) (y0 : Int) (s : St) : Res := some (0, 1, s)
noncomputable def fL_stop_0 (kb : Co) (a0 a1 a2 a3 a4 : Int) (s : St) : Res := bnh (FX11_stop a0 a1 a2 a3 s) (fun x1 s1 => if 0 ≤ 0 ∧ 0 < 1 then fL_stop_27 kb (pm s1 60 a4 0 x1) else none) (fun o9 s9 => if o9 = 1 then fL_stop_15 kb 0 s9 else if o9 = 2 then fL_stop_19 kb 0 s9 else if o9 = 3 then fL_stop_23 kb 0 s9 else none)
noncomputable def tL_stop_27 (kb : Co) : List Rw := []
noncomputable def tL_stop_23 (kb : Co) : List Rw := (27, [(7, 0), (7, 0), (7, 0), (7, 0), (7, 0), (7, 0)], [], fun xs ys s => fL_stop_27 kb s) :: tL_stop_27 kb
noncomputable def tL_stop_19 (kb : Co) : List Rw := (23, [(7, 0), (7, 0), (7, 0), (7, 0), (7, 0), (7, 0)], [(8, 0)], fun xs ys s => fL_stop_23 kb (ys.getD 0 0) s) :: tL_stop_23 kb
noncomputable def tL_stop_15 (kb : Co) : List Rw := (19, [(7, 0), (7, 0), (7, 0), (7, 0), (7, 0), (7, 0)], [(8, 0)], fun xs ys s => fL_stop_19 kb (ys.getD 0 0) s) :: tL_stop_19 kb
noncomputable def tL_stop_0 (kb : Co) : List Rw := (15, [(7, 0), (7, 0), (7, 0), (7, 0), (7, 0), (7, 0)], [(8, 0)], fun xs ys s => fL_stop_15 kb (ys.getD 0 0) s) :: tL_stop_15 kb
noncomputable def rL_stop (kb : Co) : List Rw := (0, [(3, 11), (0, 0), (0, 0), (0, 0), (3, 60), (7, 0)], [], fun xs ys s => fL_stop_0 kb (xs.getD 0 0) (xs.getD 1 0) (xs.getD 2 0) (xs.getD 3 0) (xs.getD 4 0) s) :: tL_stop_0 kb
noncomputable def kL_stop : Nat → Co
  | 0 => nk
  | n + 1 => fam (rL_stop (kL_stop n)) nk
noncomputable def FL_stop (a0 a1 a2 a3 a4 : Int) (s : St) : Res := fL_stop_0 (kL_stop 0) a0 a1 a2 a3 a4 s
noncomputable def gL_stop : Fn := fun xs s => FL_stop (xs.getD 0 0) (xs.getD 1 0) (xs.getD 2 0) (xs.getD 3 0) (xs.getD 4 0) s
noncomputable def mdL_stop : MD := ([(3, 11), (0, 0), (0, 0), (0, 0), (3, 60)], (0, 0), yL_stop, cL_stop, (6, (some .int), 7, 115, [(0, 12, 15, 13), (0, 12, 19, 15), (0, 12, 23, 21)]))
-- FloatparadeLaw.ambulance(LFloatparade;I[J)I
noncomputable def fL_ambulance_15 (kb : Co) (s : St) : Res := some (0, 0, s)
noncomputable def fL_ambulance_12 (kb : Co) (y0 : Int) (s : St) : Res := some (0, 1, s)
noncomputable def fL_ambulance_0 (kb : Co) (a0 a1 a2 : Int) (s : St) : Res := bnh (FX11_ambulance a0 a1 s) (fun x1 s1 => if 0 ≤ 0 ∧ 0 < 1 then fL_ambulance_15 kb (pm s1 60 a2 0 x1) else none) (fun o9 s9 => if o9 = 3 then fL_ambulance_12 kb 0 s9 else none)
noncomputable def tL_ambulance_15 (kb : Co) : List Rw := []
noncomputable def tL_ambulance_12 (kb : Co) : List Rw := (15, [(7, 0), (7, 0), (7, 0), (7, 0)], [], fun xs ys s => fL_ambulance_15 kb s) :: tL_ambulance_15 kb
noncomputable def tL_ambulance_0 (kb : Co) : List Rw := (12, [(7, 0), (7, 0), (7, 0), (7, 0)], [(8, 0)], fun xs ys s => fL_ambulance_12 kb (ys.getD 0 0) s) :: tL_ambulance_12 kb
noncomputable def rL_ambulance (kb : Co) : List Rw := (0, [(3, 11), (0, 0), (3, 60), (7, 0)], [], fun xs ys s => fL_ambulance_0 kb (xs.getD 0 0) (xs.getD 1 0) (xs.getD 2 0) s) :: tL_ambulance_0 kb
noncomputable def kL_ambulance : Nat → Co
  | 0 => nk
  | n + 1 => fam (rL_ambulance (kL_ambulance n)) nk
noncomputable def FL_ambulance (a0 a1 a2 : Int) (s : St) : Res := fL_ambulance_0 (kL_ambulance 0) a0 a1 a2 s
noncomputable def gL_ambulance : Fn := fun xs s => FL_ambulance (xs.getD 0 0) (xs.getD 1 0) (xs.getD 2 0) s
noncomputable def mdL_ambulance : MD := ([(3, 11), (0, 0), (3, 60)], (0, 0), yL_ambulance, cL_ambulance, (4, (some .int), 7, 114, [(0, 9, 12, 21)]))
-- FloatparadeLaw.march(LFloatparade;II[J)I
noncomputable def fL_march_21 (kb : Co) (s : St) : Res := some (0, 0, s)
noncomputable def fL_march_17 (kb : Co) (y0 : Int) (s : St) : Res := some (0, 2, s)
noncomputable def fL_march_13 (kb : Co) (y0 : Int) (s : St) : Res := some (0, 1, s)
noncomputable def fL_march_0 (kb : Co) (a0 a1 a2 a3 : Int) (s : St) : Res := bnh (FX11_march a0 a1 a2 s) (fun x1 s1 => if 0 ≤ 0 ∧ 0 < 1 then fL_march_21 kb (pm s1 60 a3 0 x1) else none) (fun o9 s9 => if o9 = 1 then fL_march_13 kb 0 s9 else if o9 = 2 then fL_march_17 kb 0 s9 else none)
noncomputable def tL_march_21 (kb : Co) : List Rw := []
noncomputable def tL_march_17 (kb : Co) : List Rw := (21, [(7, 0), (7, 0), (7, 0), (7, 0), (7, 0)], [], fun xs ys s => fL_march_21 kb s) :: tL_march_21 kb
noncomputable def tL_march_13 (kb : Co) : List Rw := (17, [(7, 0), (7, 0), (7, 0), (7, 0), (7, 0)], [(8, 0)], fun xs ys s => fL_march_17 kb (ys.getD 0 0) s) :: tL_march_17 kb
noncomputable def tL_march_0 (kb : Co) : List Rw := (13, [(7, 0), (7, 0), (7, 0), (7, 0), (7, 0)], [(8, 0)], fun xs ys s => fL_march_13 kb (ys.getD 0 0) s) :: tL_march_13 kb
noncomputable def rL_march (kb : Co) : List Rw := (0, [(3, 11), (0, 0), (0, 0), (3, 60), (7, 0)], [], fun xs ys s => fL_march_0 kb (xs.getD 0 0) (xs.getD 1 0) (xs.getD 2 0) (xs.getD 3 0) s) :: tL_march_0 kb
noncomputable def kL_march : Nat → Co
  | 0 => nk
  | n + 1 => fam (rL_march (kL_march n)) nk
noncomputable def FL_march (a0 a1 a2 a3 : Int) (s : St) : Res := fL_march_0 (kL_march 0) a0 a1 a2 a3 s
noncomputable def gL_march : Fn := fun xs s => FL_march (xs.getD 0 0) (xs.getD 1 0) (xs.getD 2 0) (xs.getD 3 0) s
noncomputable def mdL_march : MD := ([(3, 11), (0, 0), (0, 0), (3, 60)], (0, 0), yL_march, cL_march, (5, (some .int), 7, 166, [(0, 10, 13, 13), (0, 10, 17, 15)]))
-- FloatparadeLaw.part(LFloatparade;III[J)I
noncomputable def fL_part_27 (kb : Co) (s : St) : Res := some (0, 0, s)
noncomputable def fL_part_23 (kb : Co) (y0 : Int) (s : St) : Res := some (0, 3, s)
noncomputable def fL_part_19 (kb : Co) (y0 : Int) (s : St) : Res := some (0, 2, s)
noncomputable def fL_part_15 (kb : Co) (y0 : Int) (s : St) : Res := some (0, 1, s)
noncomputable def fL_part_0 (kb : Co) (a0 a1 a2 a3 a4 : Int) (s : St) : Res := bnh (FX11_part a0 a1 a2 a3 s) (fun x1 s1 => if 0 ≤ 0 ∧ 0 < 1 then fL_part_27 kb (pm s1 60 a4 0 x1) else none) (fun o9 s9 => if o9 = 1 then fL_part_15 kb 0 s9 else if o9 = 2 then fL_part_19 kb 0 s9 else if o9 = 3 then fL_part_23 kb 0 s9 else none)
noncomputable def tL_part_27 (kb : Co) : List Rw := []
noncomputable def tL_part_23 (kb : Co) : List Rw := (27, [(7, 0), (7, 0), (7, 0), (7, 0), (7, 0), (7, 0)], [], fun xs ys s => fL_part_27 kb s) :: tL_part_27 kb
noncomputable def tL_part_19 (kb : Co) : List Rw := (23, [(7, 0), (7, 0), (7, 0), (7, 0), (7, 0), (7, 0)], [(8, 0)], fun xs ys s => fL_part_23 kb (ys.getD 0 0) s) :: tL_part_23 kb
noncomputable def tL_part_15 (kb : Co) : List Rw := (19, [(7, 0), (7, 0), (7, 0), (7, 0), (7, 0), (7, 0)], [(8, 0)], fun xs ys s => fL_part_19 kb (ys.getD 0 0) s) :: tL_part_19 kb
noncomputable def tL_part_0 (kb : Co) : List Rw := (15, [(7, 0), (7, 0), (7, 0), (7, 0), (7, 0), (7, 0)], [(8, 0)], fun xs ys s => fL_part_15 kb (ys.getD 0 0) s) :: tL_part_15 kb
noncomputable def rL_part (kb : Co) : List Rw := (0, [(3, 11), (0, 0), (0, 0), (0, 0), (3, 60), (7, 0)], [], fun xs ys s => fL_part_0 kb (xs.getD 0 0) (xs.getD 1 0) (xs.getD 2 0) (xs.getD 3 0) (xs.getD 4 0) s) :: tL_part_0 kb
noncomputable def kL_part : Nat → Co
  | 0 => nk
  | n + 1 => fam (rL_part (kL_part n)) nk
noncomputable def FL_part (a0 a1 a2 a3 a4 : Int) (s : St) : Res := fL_part_0 (kL_part 0) a0 a1 a2 a3 a4 s
noncomputable def gL_part : Fn := fun xs s => FL_part (xs.getD 0 0) (xs.getD 1 0) (xs.getD 2 0) (xs.getD 3 0) (xs.getD 4 0) s
noncomputable def mdL_part : MD := ([(3, 11), (0, 0), (0, 0), (0, 0), (3, 60)], (0, 0), yL_part, cL_part, (6, (some .int), 7, 115, [(0, 12, 15, 13), (0, 12, 19, 15), (0, 12, 23, 21)]))
-- FloatparadeLaw.clock(LFloatparade;II[J)I
noncomputable def fL_clock_21 (kb : Co) (s : St) : Res := some (0, 0, s)
noncomputable def fL_clock_17 (kb : Co) (y0 : Int) (s : St) : Res := some (0, 2, s)
noncomputable def fL_clock_13 (kb : Co) (y0 : Int) (s : St) : Res := some (0, 1, s)
noncomputable def fL_clock_0 (kb : Co) (a0 a1 a2 a3 : Int) (s : St) : Res := bnh (FX11_clock a0 a1 a2 s) (fun x1 s1 => if 0 ≤ 0 ∧ 0 < 1 then fL_clock_21 kb (pm s1 60 a3 0 x1) else none) (fun o9 s9 => if o9 = 3 then fL_clock_13 kb 0 s9 else if o9 = 1 then fL_clock_17 kb 0 s9 else none)
noncomputable def tL_clock_21 (kb : Co) : List Rw := []
noncomputable def tL_clock_17 (kb : Co) : List Rw := (21, [(7, 0), (7, 0), (7, 0), (7, 0), (7, 0)], [], fun xs ys s => fL_clock_21 kb s) :: tL_clock_21 kb
noncomputable def tL_clock_13 (kb : Co) : List Rw := (17, [(7, 0), (7, 0), (7, 0), (7, 0), (7, 0)], [(8, 0)], fun xs ys s => fL_clock_17 kb (ys.getD 0 0) s) :: tL_clock_17 kb
noncomputable def tL_clock_0 (kb : Co) : List Rw := (13, [(7, 0), (7, 0), (7, 0), (7, 0), (7, 0)], [(8, 0)], fun xs ys s => fL_clock_13 kb (ys.getD 0 0) s) :: tL_clock_13 kb
noncomputable def rL_clock (kb : Co) : List Rw := (0, [(3, 11), (0, 0), (0, 0), (3, 60), (7, 0)], [], fun xs ys s => fL_clock_0 kb (xs.getD 0 0) (xs.getD 1 0) (xs.getD 2 0) (xs.getD 3 0) s) :: tL_clock_0 kb
noncomputable def kL_clock : Nat → Co
  | 0 => nk
  | n + 1 => fam (rL_clock (kL_clock n)) nk
noncomputable def FL_clock (a0 a1 a2 a3 : Int) (s : St) : Res := fL_clock_0 (kL_clock 0) a0 a1 a2 a3 s
noncomputable def gL_clock : Fn := fun xs s => FL_clock (xs.getD 0 0) (xs.getD 1 0) (xs.getD 2 0) (xs.getD 3 0) s
noncomputable def mdL_clock : MD := ([(3, 11), (0, 0), (0, 0), (3, 60)], (0, 0), yL_clock, cL_clock, (5, (some .int), 7, 113, [(0, 10, 13, 21), (0, 10, 17, 13)]))
-- FloatparadeLaw.note(LFloatparade;IIII[J)I
noncomputable def fL_note_29 (kb : Co) (s : St) : Res := some (0, 0, s)
noncomputable def fL_note_25 (kb : Co) (y0 : Int) (s : St) : Res := some (0, 3, s)
noncomputable def fL_note_21 (kb : Co) (y0 : Int) (s : St) : Res := some (0, 2, s)
noncomputable def fL_note_17 (kb : Co) (y0 : Int) (s : St) : Res := some (0, 1, s)
noncomputable def fL_note_0 (kb : Co) (a0 a1 a2 a3 a4 a5 : Int) (s : St) : Res := bnh (FX11_note a0 a1 a2 a3 a4 s) (fun x1 s1 => if 0 ≤ 0 ∧ 0 < 1 then fL_note_29 kb (pm s1 60 a5 0 x1) else none) (fun o9 s9 => if o9 = 3 then fL_note_17 kb 0 s9 else if o9 = 1 then fL_note_21 kb 0 s9 else if o9 = 2 then fL_note_25 kb 0 s9 else none)
noncomputable def tL_note_29 (kb : Co) : List Rw := []
noncomputable def tL_note_25 (kb : Co) : List Rw := (29, [(7, 0), (7, 0), (7, 0), (7, 0), (7, 0), (7, 0), (7, 0)], [], fun xs ys s => fL_note_29 kb s) :: tL_note_29 kb
noncomputable def tL_note_21 (kb : Co) : List Rw := (25, [(7, 0), (7, 0), (7, 0), (7, 0), (7, 0), (7, 0), (7, 0)], [(8, 0)], fun xs ys s => fL_note_25 kb (ys.getD 0 0) s) :: tL_note_25 kb
noncomputable def tL_note_17 (kb : Co) : List Rw := (21, [(7, 0), (7, 0), (7, 0), (7, 0), (7, 0), (7, 0), (7, 0)], [(8, 0)], fun xs ys s => fL_note_21 kb (ys.getD 0 0) s) :: tL_note_21 kb
noncomputable def tL_note_0 (kb : Co) : List Rw := (17, [(7, 0), (7, 0), (7, 0), (7, 0), (7, 0), (7, 0), (7, 0)], [(8, 0)], fun xs ys s => fL_note_17 kb (ys.getD 0 0) s) :: tL_note_17 kb
noncomputable def rL_note (kb : Co) : List Rw := (0, [(3, 11), (0, 0), (0, 0), (0, 0), (0, 0), (3, 60), (7, 0)], [], fun xs ys s => fL_note_0 kb (xs.getD 0 0) (xs.getD 1 0) (xs.getD 2 0) (xs.getD 3 0) (xs.getD 4 0) (xs.getD 5 0) s) :: tL_note_0 kb
noncomputable def kL_note : Nat → Co
  | 0 => nk
  | n + 1 => fam (rL_note (kL_note n)) nk
noncomputable def FL_note (a0 a1 a2 a3 a4 a5 : Int) (s : St) : Res := fL_note_0 (kL_note 0) a0 a1 a2 a3 a4 a5 s
noncomputable def gL_note : Fn := fun xs s => FL_note (xs.getD 0 0) (xs.getD 1 0) (xs.getD 2 0) (xs.getD 3 0) (xs.getD 4 0) (xs.getD 5 0) s
noncomputable def mdL_note : MD := ([(3, 11), (0, 0), (0, 0), (0, 0), (0, 0), (3, 60)], (0, 0), yL_note, cL_note, (7, (some .int), 7, 116, [(0, 14, 17, 21), (0, 14, 21, 13), (0, 14, 25, 15)]))
-- FloatparadeLaw.penalty(LFloatparade;III[J)I
noncomputable def fL_penalty_27 (kb : Co) (s : St) : Res := some (0, 0, s)
noncomputable def fL_penalty_23 (kb : Co) (y0 : Int) (s : St) : Res := some (0, 3, s)
noncomputable def fL_penalty_19 (kb : Co) (y0 : Int) (s : St) : Res := some (0, 2, s)
noncomputable def fL_penalty_15 (kb : Co) (y0 : Int) (s : St) : Res := some (0, 1, s)
noncomputable def fL_penalty_0 (kb : Co) (a0 a1 a2 a3 a4 : Int) (s : St) : Res := bnh (FX11_penalty a0 a1 a2 a3 s) (fun x1 s1 => if 0 ≤ 0 ∧ 0 < 1 then fL_penalty_27 kb (pm s1 60 a4 0 x1) else none) (fun o9 s9 => if o9 = 3 then fL_penalty_15 kb 0 s9 else if o9 = 1 then fL_penalty_19 kb 0 s9 else if o9 = 2 then fL_penalty_23 kb 0 s9 else none)
noncomputable def tL_penalty_27 (kb : Co) : List Rw := []
noncomputable def tL_penalty_23 (kb : Co) : List Rw := (27, [(7, 0), (7, 0), (7, 0), (7, 0), (7, 0), (7, 0)], [], fun xs ys s => fL_penalty_27 kb s) :: tL_penalty_27 kb
noncomputable def tL_penalty_19 (kb : Co) : List Rw := (23, [(7, 0), (7, 0), (7, 0), (7, 0), (7, 0), (7, 0)], [(8, 0)], fun xs ys s => fL_penalty_23 kb (ys.getD 0 0) s) :: tL_penalty_23 kb
noncomputable def tL_penalty_15 (kb : Co) : List Rw := (19, [(7, 0), (7, 0), (7, 0), (7, 0), (7, 0), (7, 0)], [(8, 0)], fun xs ys s => fL_penalty_19 kb (ys.getD 0 0) s) :: tL_penalty_19 kb
noncomputable def tL_penalty_0 (kb : Co) : List Rw := (15, [(7, 0), (7, 0), (7, 0), (7, 0), (7, 0), (7, 0)], [(8, 0)], fun xs ys s => fL_penalty_15 kb (ys.getD 0 0) s) :: tL_penalty_15 kb
noncomputable def rL_penalty (kb : Co) : List Rw := (0, [(3, 11), (0, 0), (0, 0), (0, 0), (3, 60), (7, 0)], [], fun xs ys s => fL_penalty_0 kb (xs.getD 0 0) (xs.getD 1 0) (xs.getD 2 0) (xs.getD 3 0) (xs.getD 4 0) s) :: tL_penalty_0 kb
noncomputable def kL_penalty : Nat → Co
  | 0 => nk
  | n + 1 => fam (rL_penalty (kL_penalty n)) nk
noncomputable def FL_penalty (a0 a1 a2 a3 a4 : Int) (s : St) : Res := fL_penalty_0 (kL_penalty 0) a0 a1 a2 a3 a4 s
noncomputable def gL_penalty : Fn := fun xs s => FL_penalty (xs.getD 0 0) (xs.getD 1 0) (xs.getD 2 0) (xs.getD 3 0) (xs.getD 4 0) s
noncomputable def mdL_penalty : MD := ([(3, 11), (0, 0), (0, 0), (0, 0), (3, 60)], (0, 0), yL_penalty, cL_penalty, (6, (some .int), 7, 114, [(0, 12, 15, 21), (0, 12, 19, 13), (0, 12, 23, 15)]))
-- FloatparadeLaw.appeal(LFloatparade;II[J)I
noncomputable def fL_appeal_21 (kb : Co) (s : St) : Res := some (0, 0, s)
noncomputable def fL_appeal_17 (kb : Co) (y0 : Int) (s : St) : Res := some (0, 2, s)
noncomputable def fL_appeal_13 (kb : Co) (y0 : Int) (s : St) : Res := some (0, 1, s)
noncomputable def fL_appeal_0 (kb : Co) (a0 a1 a2 a3 : Int) (s : St) : Res := bnh (FX11_appeal a0 a1 a2 s) (fun x1 s1 => if 0 ≤ 0 ∧ 0 < 1 then fL_appeal_21 kb (pm s1 60 a3 0 x1) else none) (fun o9 s9 => if o9 = 3 then fL_appeal_13 kb 0 s9 else if o9 = 2 then fL_appeal_17 kb 0 s9 else none)
noncomputable def tL_appeal_21 (kb : Co) : List Rw := []
noncomputable def tL_appeal_17 (kb : Co) : List Rw := (21, [(7, 0), (7, 0), (7, 0), (7, 0), (7, 0)], [], fun xs ys s => fL_appeal_21 kb s) :: tL_appeal_21 kb
noncomputable def tL_appeal_13 (kb : Co) : List Rw := (17, [(7, 0), (7, 0), (7, 0), (7, 0), (7, 0)], [(8, 0)], fun xs ys s => fL_appeal_17 kb (ys.getD 0 0) s) :: tL_appeal_17 kb
noncomputable def tL_appeal_0 (kb : Co) : List Rw := (13, [(7, 0), (7, 0), (7, 0), (7, 0), (7, 0)], [(8, 0)], fun xs ys s => fL_appeal_13 kb (ys.getD 0 0) s) :: tL_appeal_13 kb
noncomputable def rL_appeal (kb : Co) : List Rw := (0, [(3, 11), (0, 0), (0, 0), (3, 60), (7, 0)], [], fun xs ys s => fL_appeal_0 kb (xs.getD 0 0) (xs.getD 1 0) (xs.getD 2 0) (xs.getD 3 0) s) :: tL_appeal_0 kb
noncomputable def kL_appeal : Nat → Co
  | 0 => nk
  | n + 1 => fam (rL_appeal (kL_appeal n)) nk
noncomputable def FL_appeal (a0 a1 a2 a3 : Int) (s : St) : Res := fL_appeal_0 (kL_appeal 0) a0 a1 a2 a3 s
noncomputable def gL_appeal : Fn := fun xs s => FL_appeal (xs.getD 0 0) (xs.getD 1 0) (xs.getD 2 0) (xs.getD 3 0) s
noncomputable def mdL_appeal : MD := ([(3, 11), (0, 0), (0, 0), (3, 60)], (0, 0), yL_appeal, cL_appeal, (5, (some .int), 7, 113, [(0, 10, 13, 21), (0, 10, 17, 15)]))
-- FloatparadeLaw.draw(LFloatparade;I[J)I
noncomputable def fL_draw_15 (kb : Co) (s : St) : Res := some (0, 0, s)
noncomputable def fL_draw_12 (kb : Co) (y0 : Int) (s : St) : Res := some (0, 1, s)
noncomputable def fL_draw_0 (kb : Co) (a0 a1 a2 : Int) (s : St) : Res := bnh (FX11_draw a0 a1 s) (fun x1 s1 => if 0 ≤ 0 ∧ 0 < 1 then fL_draw_15 kb (pm s1 60 a2 0 x1) else none) (fun o9 s9 => if o9 = 1 then fL_draw_12 kb 0 s9 else none)
noncomputable def tL_draw_15 (kb : Co) : List Rw := []
noncomputable def tL_draw_12 (kb : Co) : List Rw := (15, [(7, 0), (7, 0), (7, 0), (7, 0)], [], fun xs ys s => fL_draw_15 kb s) :: tL_draw_15 kb
noncomputable def tL_draw_0 (kb : Co) : List Rw := (12, [(7, 0), (7, 0), (7, 0), (7, 0)], [(8, 0)], fun xs ys s => fL_draw_12 kb (ys.getD 0 0) s) :: tL_draw_12 kb
noncomputable def rL_draw (kb : Co) : List Rw := (0, [(3, 11), (0, 0), (3, 60), (7, 0)], [], fun xs ys s => fL_draw_0 kb (xs.getD 0 0) (xs.getD 1 0) (xs.getD 2 0) s) :: tL_draw_0 kb
noncomputable def kL_draw : Nat → Co
  | 0 => nk
  | n + 1 => fam (rL_draw (kL_draw n)) nk
noncomputable def FL_draw (a0 a1 a2 : Int) (s : St) : Res := fL_draw_0 (kL_draw 0) a0 a1 a2 s
noncomputable def gL_draw : Fn := fun xs s => FL_draw (xs.getD 0 0) (xs.getD 1 0) (xs.getD 2 0) s
noncomputable def mdL_draw : MD := ([(3, 11), (0, 0), (3, 60)], (0, 0), yL_draw, cL_draw, (4, (some .int), 7, 112, [(0, 9, 12, 13)]))
-- FloatparadeLaw.endYear(LFloatparade;[J)I
noncomputable def fL_endYear_14 (kb : Co) (s : St) : Res := some (0, 0, s)
noncomputable def fL_endYear_11 (kb : Co) (y0 : Int) (s : St) : Res := some (0, 1, s)
noncomputable def fL_endYear_0 (kb : Co) (a0 a1 : Int) (s : St) : Res := bnh (FX11_endYear a0 s) (fun x1 s1 => if 0 ≤ 0 ∧ 0 < 1 then fL_endYear_14 kb (pm s1 60 a1 0 x1) else none) (fun o9 s9 => if o9 = 2 then fL_endYear_11 kb 0 s9 else none)
noncomputable def tL_endYear_14 (kb : Co) : List Rw := []
noncomputable def tL_endYear_11 (kb : Co) : List Rw := (14, [(7, 0), (7, 0), (7, 0)], [], fun xs ys s => fL_endYear_14 kb s) :: tL_endYear_14 kb
noncomputable def tL_endYear_0 (kb : Co) : List Rw := (11, [(7, 0), (7, 0), (7, 0)], [(8, 0)], fun xs ys s => fL_endYear_11 kb (ys.getD 0 0) s) :: tL_endYear_11 kb
noncomputable def rL_endYear (kb : Co) : List Rw := (0, [(3, 11), (3, 60), (7, 0)], [], fun xs ys s => fL_endYear_0 kb (xs.getD 0 0) (xs.getD 1 0) s) :: tL_endYear_0 kb
noncomputable def kL_endYear : Nat → Co
  | 0 => nk
  | n + 1 => fam (rL_endYear (kL_endYear n)) nk
noncomputable def FL_endYear (a0 a1 : Int) (s : St) : Res := fL_endYear_0 (kL_endYear 0) a0 a1 s
noncomputable def gL_endYear : Fn := fun xs s => FL_endYear (xs.getD 0 0) (xs.getD 1 0) s
noncomputable def mdL_endYear : MD := ([(3, 11), (3, 60)], (0, 0), yL_endYear, cL_endYear, (3, (some .int), 7, 167, [(0, 8, 11, 15)]))
-- FloatparadeLaw.about(LFloatparade;II[J)I
noncomputable def fL_about_21 (kb : Co) (s : St) : Res := some (0, 0, s)
noncomputable def fL_about_17 (kb : Co) (y0 : Int) (s : St) : Res := some (0, 2, s)
noncomputable def fL_about_13 (kb : Co) (y0 : Int) (s : St) : Res := some (0, 1, s)
noncomputable def fL_about_0 (kb : Co) (a0 a1 a2 a3 : Int) (s : St) : Res := bnh (FX11_about a0 a1 a2 s) (fun x1 s1 => if 0 ≤ 0 ∧ 0 < 1 then fL_about_21 kb (pm s1 60 a3 0 x1) else none) (fun o9 s9 => if o9 = 3 then fL_about_13 kb 0 s9 else if o9 = 1 then fL_about_17 kb 0 s9 else none)
noncomputable def tL_about_21 (kb : Co) : List Rw := []
noncomputable def tL_about_17 (kb : Co) : List Rw := (21, [(7, 0), (7, 0), (7, 0), (7, 0), (7, 0)], [], fun xs ys s => fL_about_21 kb s) :: tL_about_21 kb
noncomputable def tL_about_13 (kb : Co) : List Rw := (17, [(7, 0), (7, 0), (7, 0), (7, 0), (7, 0)], [(8, 0)], fun xs ys s => fL_about_17 kb (ys.getD 0 0) s) :: tL_about_17 kb
noncomputable def tL_about_0 (kb : Co) : List Rw := (13, [(7, 0), (7, 0), (7, 0), (7, 0), (7, 0)], [(8, 0)], fun xs ys s => fL_about_13 kb (ys.getD 0 0) s) :: tL_about_13 kb
noncomputable def rL_about (kb : Co) : List Rw := (0, [(3, 11), (0, 0), (0, 0), (3, 60), (7, 0)], [], fun xs ys s => fL_about_0 kb (xs.getD 0 0) (xs.getD 1 0) (xs.getD 2 0) (xs.getD 3 0) s) :: tL_about_0 kb
noncomputable def kL_about : Nat → Co
  | 0 => nk
  | n + 1 => fam (rL_about (kL_about n)) nk
noncomputable def FL_about (a0 a1 a2 a3 : Int) (s : St) : Res := fL_about_0 (kL_about 0) a0 a1 a2 a3 s
noncomputable def gL_about : Fn := fun xs s => FL_about (xs.getD 0 0) (xs.getD 1 0) (xs.getD 2 0) (xs.getD 3 0) s
noncomputable def mdL_about : MD := ([(3, 11), (0, 0), (0, 0), (3, 60)], (0, 0), yL_about, cL_about, (5, (some .int), 7, 152, [(0, 10, 13, 21), (0, 10, 17, 13)]))
-- FloatparadeLaw.notes(LFloatparade;II[J)I
noncomputable def fL_notes_21 (kb : Co) (s : St) : Res := some (0, 0, s)
noncomputable def fL_notes_17 (kb : Co) (y0 : Int) (s : St) : Res := some (0, 2, s)
noncomputable def fL_notes_13 (kb : Co) (y0 : Int) (s : St) : Res := some (0, 1, s)
noncomputable def fL_notes_0 (kb : Co) (a0 a1 a2 a3 : Int) (s : St) : Res := bnh (FX11_notes a0 a1 a2 s) (fun x1 s1 => if 0 ≤ 0 ∧ 0 < 1 then fL_notes_21 kb (pm s1 60 a3 0 x1) else none) (fun o9 s9 => if o9 = 3 then fL_notes_13 kb 0 s9 else if o9 = 1 then fL_notes_17 kb 0 s9 else none)
noncomputable def tL_notes_21 (kb : Co) : List Rw := []
noncomputable def tL_notes_17 (kb : Co) : List Rw := (21, [(7, 0), (7, 0), (7, 0), (7, 0), (7, 0)], [], fun xs ys s => fL_notes_21 kb s) :: tL_notes_21 kb
noncomputable def tL_notes_13 (kb : Co) : List Rw := (17, [(7, 0), (7, 0), (7, 0), (7, 0), (7, 0)], [(8, 0)], fun xs ys s => fL_notes_17 kb (ys.getD 0 0) s) :: tL_notes_17 kb
noncomputable def tL_notes_0 (kb : Co) : List Rw := (13, [(7, 0), (7, 0), (7, 0), (7, 0), (7, 0)], [(8, 0)], fun xs ys s => fL_notes_13 kb (ys.getD 0 0) s) :: tL_notes_13 kb
noncomputable def rL_notes (kb : Co) : List Rw := (0, [(3, 11), (0, 0), (0, 0), (3, 60), (7, 0)], [], fun xs ys s => fL_notes_0 kb (xs.getD 0 0) (xs.getD 1 0) (xs.getD 2 0) (xs.getD 3 0) s) :: tL_notes_0 kb
noncomputable def kL_notes : Nat → Co
  | 0 => nk
  | n + 1 => fam (rL_notes (kL_notes n)) nk
noncomputable def FL_notes (a0 a1 a2 a3 : Int) (s : St) : Res := fL_notes_0 (kL_notes 0) a0 a1 a2 a3 s
noncomputable def gL_notes : Fn := fun xs s => FL_notes (xs.getD 0 0) (xs.getD 1 0) (xs.getD 2 0) (xs.getD 3 0) s
noncomputable def mdL_notes : MD := ([(3, 11), (0, 0), (0, 0), (3, 60)], (0, 0), yL_notes, cL_notes, (5, (some .int), 7, 113, [(0, 10, 13, 21), (0, 10, 17, 13)]))
-- FloatparadeLaw.penaltyAt(LFloatparade;III[J)I
noncomputable def fL_penaltyAt_23 (kb : Co) (s : St) : Res := some (0, 0, s)
noncomputable def fL_penaltyAt_19 (kb : Co) (y0 : Int) (s : St) : Res := some (0, 2, s)
noncomputable def fL_penaltyAt_15 (kb : Co) (y0 : Int) (s : St) : Res := some (0, 1, s)
noncomputable def fL_penaltyAt_0 (kb : Co) (a0 a1 a2 a3 a4 : Int) (s : St) : Res := bnh (FX11_penaltyAt a0 a1 a2 a3 s) (fun x1 s1 => if 0 ≤ 0 ∧ 0 < 1 then fL_penaltyAt_23 kb (pm s1 60 a4 0 x1) else none) (fun o9 s9 => if o9 = 3 then fL_penaltyAt_15 kb 0 s9 else if o9 = 1 then fL_penaltyAt_19 kb 0 s9 else none)
noncomputable def tL_penaltyAt_23 (kb : Co) : List Rw := []
noncomputable def tL_penaltyAt_19 (kb : Co) : List Rw := (23, [(7, 0), (7, 0), (7, 0), (7, 0), (7, 0), (7, 0)], [], fun xs ys s => fL_penaltyAt_23 kb s) :: tL_penaltyAt_23 kb
noncomputable def tL_penaltyAt_15 (kb : Co) : List Rw := (19, [(7, 0), (7, 0), (7, 0), (7, 0), (7, 0), (7, 0)], [(8, 0)], fun xs ys s => fL_penaltyAt_19 kb (ys.getD 0 0) s) :: tL_penaltyAt_19 kb
noncomputable def tL_penaltyAt_0 (kb : Co) : List Rw := (15, [(7, 0), (7, 0), (7, 0), (7, 0), (7, 0), (7, 0)], [(8, 0)], fun xs ys s => fL_penaltyAt_15 kb (ys.getD 0 0) s) :: tL_penaltyAt_15 kb
noncomputable def rL_penaltyAt (kb : Co) : List Rw := (0, [(3, 11), (0, 0), (0, 0), (0, 0), (3, 60), (7, 0)], [], fun xs ys s => fL_penaltyAt_0 kb (xs.getD 0 0) (xs.getD 1 0) (xs.getD 2 0) (xs.getD 3 0) (xs.getD 4 0) s) :: tL_penaltyAt_0 kb
noncomputable def kL_penaltyAt : Nat → Co
  | 0 => nk
  | n + 1 => fam (rL_penaltyAt (kL_penaltyAt n)) nk
noncomputable def FL_penaltyAt (a0 a1 a2 a3 a4 : Int) (s : St) : Res := fL_penaltyAt_0 (kL_penaltyAt 0) a0 a1 a2 a3 a4 s
noncomputable def gL_penaltyAt : Fn := fun xs s => FL_penaltyAt (xs.getD 0 0) (xs.getD 1 0) (xs.getD 2 0) (xs.getD 3 0) (xs.getD 4 0) s
noncomputable def mdL_penaltyAt : MD := ([(3, 11), (0, 0), (0, 0), (0, 0), (3, 60)], (0, 0), yL_penaltyAt, cL_penaltyAt, (6, (some .int), 7, 114, [(0, 12, 15, 21), (0, 12, 19, 13)]))
-- FloatparadeLaw.isDoubted(LFloatparade;II[J)I
noncomputable def fL_isDoubted_28 (kb : Co) (s : St) : Res := some (0, 0, s)
noncomputable def fL_isDoubted_24 (kb : Co) (y0 : Int) (s : St) : Res := some (0, 2, s)
noncomputable def fL_isDoubted_20 (kb : Co) (y0 : Int) (s : St) : Res := some (0, 1, s)
noncomputable def fL_isDoubted_16 (kb : Co) (y0 y1 y2 : Int) (s : St) : Res := if 0 ≤ y1 ∧ y1 < 1 then fL_isDoubted_28 kb (pm s 60 y2 y1 y0) else none
noncomputable def fL_isDoubted_15 (kb : Co) (y0 y1 : Int) (s : St) : Res := fL_isDoubted_16 kb 0 y0 y1 s
noncomputable def fL_isDoubted_0 (kb : Co) (a0 a1 a2 a3 : Int) (s : St) : Res := bnh (FX11_isDoubted a0 a1 a2 s) (fun x1 s1 => if x1 = 0 then fL_isDoubted_15 kb 0 a3 s1 else fL_isDoubted_16 kb 1 0 a3 s1) (fun o9 s9 => if o9 = 3 then fL_isDoubted_20 kb 0 s9 else if o9 = 1 then fL_isDoubted_24 kb 0 s9 else none)
noncomputable def tL_isDoubted_28 (kb : Co) : List Rw := []
noncomputable def tL_isDoubted_24 (kb : Co) : List Rw := (28, [(7, 0), (7, 0), (7, 0), (7, 0), (7, 0)], [], fun xs ys s => fL_isDoubted_28 kb s) :: tL_isDoubted_28 kb
noncomputable def tL_isDoubted_20 (kb : Co) : List Rw := (24, [(7, 0), (7, 0), (7, 0), (7, 0), (7, 0)], [(8, 0)], fun xs ys s => fL_isDoubted_24 kb (ys.getD 0 0) s) :: tL_isDoubted_24 kb
noncomputable def tL_isDoubted_16 (kb : Co) : List Rw := (20, [(7, 0), (7, 0), (7, 0), (7, 0), (7, 0)], [(8, 0)], fun xs ys s => fL_isDoubted_20 kb (ys.getD 0 0) s) :: tL_isDoubted_20 kb
noncomputable def tL_isDoubted_15 (kb : Co) : List Rw := (16, [(7, 0), (7, 0), (7, 0), (7, 0), (7, 0)], [(1, 0), (0, 0), (3, 60)], fun xs ys s => fL_isDoubted_16 kb (ys.getD 0 0) (ys.getD 1 0) (ys.getD 2 0) s) :: tL_isDoubted_16 kb
noncomputable def tL_isDoubted_0 (kb : Co) : List Rw := (15, [(7, 0), (7, 0), (7, 0), (7, 0), (7, 0)], [(0, 0), (3, 60)], fun xs ys s => fL_isDoubted_15 kb (ys.getD 0 0) (ys.getD 1 0) s) :: tL_isDoubted_15 kb
noncomputable def rL_isDoubted (kb : Co) : List Rw := (0, [(3, 11), (0, 0), (0, 0), (3, 60), (7, 0)], [], fun xs ys s => fL_isDoubted_0 kb (xs.getD 0 0) (xs.getD 1 0) (xs.getD 2 0) (xs.getD 3 0) s) :: tL_isDoubted_0 kb
noncomputable def kL_isDoubted : Nat → Co
  | 0 => nk
  | n + 1 => fam (rL_isDoubted (kL_isDoubted n)) nk
noncomputable def FL_isDoubted (a0 a1 a2 a3 : Int) (s : St) : Res := fL_isDoubted_0 (kL_isDoubted 0) a0 a1 a2 a3 s
noncomputable def gL_isDoubted : Fn := fun xs s => FL_isDoubted (xs.getD 0 0) (xs.getD 1 0) (xs.getD 2 0) (xs.getD 3 0) s
noncomputable def mdL_isDoubted : MD := ([(3, 11), (0, 0), (0, 0), (3, 60)], (0, 0), yL_isDoubted, cL_isDoubted, (5, (some .int), 7, 113, [(0, 17, 20, 21), (0, 17, 24, 13)]))
-- FloatparadeLaw.table(LFloatparade;II[J)I
noncomputable def fL_table_21 (kb : Co) (s : St) : Res := some (0, 0, s)
noncomputable def fL_table_17 (kb : Co) (y0 : Int) (s : St) : Res := some (0, 2, s)
noncomputable def fL_table_13 (kb : Co) (y0 : Int) (s : St) : Res := some (0, 1, s)
noncomputable def fL_table_0 (kb : Co) (a0 a1 a2 a3 : Int) (s : St) : Res := bnh (FX11_table a0 a1 a2 s) (fun x1 s1 => if 0 ≤ 0 ∧ 0 < 1 then fL_table_21 kb (pm s1 60 a3 0 x1) else none) (fun o9 s9 => if o9 = 3 then fL_table_13 kb 0 s9 else if o9 = 1 then fL_table_17 kb 0 s9 else none)
noncomputable def tL_table_21 (kb : Co) : List Rw := []
noncomputable def tL_table_17 (kb : Co) : List Rw := (21, [(7, 0), (7, 0), (7, 0), (7, 0), (7, 0)], [], fun xs ys s => fL_table_21 kb s) :: tL_table_21 kb
noncomputable def tL_table_13 (kb : Co) : List Rw := (17, [(7, 0), (7, 0), (7, 0), (7, 0), (7, 0)], [(8, 0)], fun xs ys s => fL_table_17 kb (ys.getD 0 0) s) :: tL_table_17 kb
noncomputable def tL_table_0 (kb : Co) : List Rw := (13, [(7, 0), (7, 0), (7, 0), (7, 0), (7, 0)], [(8, 0)], fun xs ys s => fL_table_13 kb (ys.getD 0 0) s) :: tL_table_13 kb
noncomputable def rL_table (kb : Co) : List Rw := (0, [(3, 11), (0, 0), (0, 0), (3, 60), (7, 0)], [], fun xs ys s => fL_table_0 kb (xs.getD 0 0) (xs.getD 1 0) (xs.getD 2 0) (xs.getD 3 0) s) :: tL_table_0 kb
noncomputable def kL_table : Nat → Co
  | 0 => nk
  | n + 1 => fam (rL_table (kL_table n)) nk
noncomputable def FL_table (a0 a1 a2 a3 : Int) (s : St) : Res := fL_table_0 (kL_table 0) a0 a1 a2 a3 s
noncomputable def gL_table : Fn := fun xs s => FL_table (xs.getD 0 0) (xs.getD 1 0) (xs.getD 2 0) (xs.getD 3 0) s
noncomputable def mdL_table : MD := ([(3, 11), (0, 0), (0, 0), (3, 60)], (0, 0), yL_table, cL_table, (5, (some .int), 7, 169, [(0, 10, 13, 21), (0, 10, 17, 13)]))
-- FloatparadeLaw.law([I)Z
noncomputable def fL_law_2642 (kb : Co) (s : St) : Res := if (1 : Int) = 0 ∨ (1 : Int) = 1 then some (0, 1, s) else none
noncomputable def fL_law_2636 (kb : Co) (a0 a1 a2 a3 a4 : Int) (s : St) : Res := kb 23 [(5, 0, a0), (3, 11, a1), (3, 12, a2), (3, 60, a3), (0, 0, (wr (a4 + 7))), (7, 0, 0), (7, 0, 0)] [] s
noncomputable def fL_law_2633 (kb : Co) (a0 a1 a2 a3 a4 : Int) (s : St) : Res := fL_law_2636 kb a0 a1 a2 a3 a4 s
noncomputable def fL_law_2616 (kb : Co) (a0 a1 a2 a3 a4 a5 a6 : Int) (s : St) : Res := if a5 = 0 then (if 0 ≤ 0 ∧ 0 < 1 then if (icp (gm s 60 a3 0) a6) = 0 then fL_law_2633 kb a0 a1 a2 a3 a4 s else if (0 : Int) = 0 ∨ (0 : Int) = 1 then some (0, 0, s) else none else none) else fL_law_2633 kb a0 a1 a2 a3 a4 s
noncomputable def fL_law_2568 (kb : Co) (a0 a1 a2 a3 a4 : Int) (s : St) : Res := if 0 ≤ (wr (a4 + 1)) ∧ (wr (a4 + 1)) < gm s 61 1 0 then if 0 ≤ (wr (a4 + 2)) ∧ (wr (a4 + 2)) < gm s 61 1 0 then bn0 (FL_table a1 (gm s 61 0 (wr (a4 + 1))) (gm s 61 0 (wr (a4 + 2))) a3 s) fun x1 s1 => if 0 ≤ (wr (a4 + 1)) ∧ (wr (a4 + 1)) < gm s1 61 1 0 then if 0 ≤ (wr (a4 + 2)) ∧ (wr (a4 + 2)) < gm s1 61 1 0 then bnd (FX12_table a2 (gm s1 61 0 (wr (a4 + 1))) (gm s1 61 0 (wr (a4 + 2))) s1) fun x2 s2 => bnd (FX12_thrown a2 s2) fun x3 s3 => if x3 = x1 then fL_law_2616 kb a0 a1 a2 a3 a4 x1 x2 s3 else if (0 : Int) = 0 ∨ (0 : Int) = 1 then some (0, 0, s3) else none else none else none else none else none
noncomputable def fL_law_2565 (kb : Co) (a0 a1 a2 a3 a4 : Int) (s : St) : Res := fL_law_2636 kb a0 a1 a2 a3 a4 s
noncomputable def fL_law_2559 (kb : Co) (a0 a1 a2 a3 a4 y0 y1 : Int) (s : St) : Res := if (icp y1 y0) = 0 then fL_law_2565 kb a0 a1 a2 a3 a4 s else if (0 : Int) = 0 ∨ (0 : Int) = 1 then some (0, 0, s) else none
noncomputable def fL_law_2558 (kb : Co) (a0 a1 a2 a3 a4 y0 : Int) (s : St) : Res := fL_law_2559 kb a0 a1 a2 a3 a4 0 y0 s
noncomputable def fL_law_2541 (kb : Co) (a0 a1 a2 a3 a4 a5 a6 : Int) (s : St) : Res := if a5 = 0 then (if 0 ≤ 0 ∧ 0 < 1 then if a6 = 0 then fL_law_2558 kb a0 a1 a2 a3 a4 (gm s 60 a3 0) s else fL_law_2559 kb a0 a1 a2 a3 a4 1 (gm s 60 a3 0) s else none) else fL_law_2565 kb a0 a1 a2 a3 a4 s
noncomputable def fL_law_2493 (kb : Co) (a0 a1 a2 a3 a4 : Int) (s : St) : Res := if 0 ≤ (wr (a4 + 1)) ∧ (wr (a4 + 1)) < gm s 61 1 0 then if 0 ≤ (wr (a4 + 2)) ∧ (wr (a4 + 2)) < gm s 61 1 0 then bn0 (FL_isDoubted a1 (gm s 61 0 (wr (a4 + 1))) (gm s 61 0 (wr (a4 + 2))) a3 s) fun x1 s1 => if 0 ≤ (wr (a4 + 1)) ∧ (wr (a4 + 1)) < gm s1 61 1 0 then if 0 ≤ (wr (a4 + 2)) ∧ (wr (a4 + 2)) < gm s1 61 1 0 then bnd (FX12_isDoubted a2 (gm s1 61 0 (wr (a4 + 1))) (gm s1 61 0 (wr (a4 + 2))) s1) fun x2 s2 => bnd (FX12_thrown a2 s2) fun x3 s3 => if x3 = x1 then fL_law_2541 kb a0 a1 a2 a3 a4 x1 x2 s3 else if (0 : Int) = 0 ∨ (0 : Int) = 1 then some (0, 0, s3) else none else none else none else none else none
noncomputable def fL_law_2490 (kb : Co) (a0 a1 a2 a3 a4 : Int) (s : St) : Res := fL_law_2636 kb a0 a1 a2 a3 a4 s
noncomputable def fL_law_2473 (kb : Co) (a0 a1 a2 a3 a4 a5 a6 : Int) (s : St) : Res := if a5 = 0 then (if 0 ≤ 0 ∧ 0 < 1 then if (icp (gm s 60 a3 0) a6) = 0 then fL_law_2490 kb a0 a1 a2 a3 a4 s else if (0 : Int) = 0 ∨ (0 : Int) = 1 then some (0, 0, s) else none else none) else fL_law_2490 kb a0 a1 a2 a3 a4 s
noncomputable def fL_law_2413 (kb : Co) (a0 a1 a2 a3 a4 : Int) (s : St) : Res := if 0 ≤ (wr (a4 + 1)) ∧ (wr (a4 + 1)) < gm s 61 1 0 then if 0 ≤ (wr (a4 + 2)) ∧ (wr (a4 + 2)) < gm s 61 1 0 then if 0 ≤ (wr (a4 + 3)) ∧ (wr (a4 + 3)) < gm s 61 1 0 then bn0 (FL_penaltyAt a1 (gm s 61 0 (wr (a4 + 1))) (gm s 61 0 (wr (a4 + 2))) (gm s 61 0 (wr (a4 + 3))) a3 s) fun x1 s1 => if 0 ≤ (wr (a4 + 1)) ∧ (wr (a4 + 1)) < gm s1 61 1 0 then if 0 ≤ (wr (a4 + 2)) ∧ (wr (a4 + 2)) < gm s1 61 1 0 then if 0 ≤ (wr (a4 + 3)) ∧ (wr (a4 + 3)) < gm s1 61 1 0 then bnd (FX12_penaltyAt a2 (gm s1 61 0 (wr (a4 + 1))) (gm s1 61 0 (wr (a4 + 2))) (gm s1 61 0 (wr (a4 + 3))) s1) fun x2 s2 => bnd (FX12_thrown a2 s2) fun x3 s3 => if x3 = x1 then fL_law_2473 kb a0 a1 a2 a3 a4 x1 x2 s3 else if (0 : Int) = 0 ∨ (0 : Int) = 1 then some (0, 0, s3) else none else none else none else none else none else none else none
noncomputable def fL_law_2410 (kb : Co) (a0 a1 a2 a3 a4 : Int) (s : St) : Res := fL_law_2636 kb a0 a1 a2 a3 a4 s
noncomputable def fL_law_2393 (kb : Co) (a0 a1 a2 a3 a4 a5 a6 : Int) (s : St) : Res := if a5 = 0 then (if 0 ≤ 0 ∧ 0 < 1 then if (icp (gm s 60 a3 0) a6) = 0 then fL_law_2410 kb a0 a1 a2 a3 a4 s else if (0 : Int) = 0 ∨ (0 : Int) = 1 then some (0, 0, s) else none else none) else fL_law_2410 kb a0 a1 a2 a3 a4 s
noncomputable def fL_law_2345 (kb : Co) (a0 a1 a2 a3 a4 : Int) (s : St) : Res := if 0 ≤ (wr (a4 + 1)) ∧ (wr (a4 + 1)) < gm s 61 1 0 then if 0 ≤ (wr (a4 + 2)) ∧ (wr (a4 + 2)) < gm s 61 1 0 then bn0 (FL_notes a1 (gm s 61 0 (wr (a4 + 1))) (gm s 61 0 (wr (a4 + 2))) a3 s) fun x1 s1 => if 0 ≤ (wr (a4 + 1)) ∧ (wr (a4 + 1)) < gm s1 61 1 0 then if 0 ≤ (wr (a4 + 2)) ∧ (wr (a4 + 2)) < gm s1 61 1 0 then bnd (FX12_notes a2 (gm s1 61 0 (wr (a4 + 1))) (gm s1 61 0 (wr (a4 + 2))) s1) fun x2 s2 => bnd (FX12_thrown a2 s2) fun x3 s3 => if x3 = x1 then fL_law_2393 kb a0 a1 a2 a3 a4 x1 x2 s3 else if (0 : Int) = 0 ∨ (0 : Int) = 1 then some (0, 0, s3) else none else none else none else none else none
noncomputable def fL_law_2342 (kb : Co) (a0 a1 a2 a3 a4 : Int) (s : St) : Res := fL_law_2636 kb a0 a1 a2 a3 a4 s
noncomputable def fL_law_2325 (kb : Co) (a0 a1 a2 a3 a4 a5 a6 : Int) (s : St) : Res := if a5 = 0 then (if 0 ≤ 0 ∧ 0 < 1 then if (icp (gm s 60 a3 0) a6) = 0 then fL_law_2342 kb a0 a1 a2 a3 a4 s else if (0 : Int) = 0 ∨ (0 : Int) = 1 then some (0, 0, s) else none else none) else fL_law_2342 kb a0 a1 a2 a3 a4 s
noncomputable def fL_law_2277 (kb : Co) (a0 a1 a2 a3 a4 : Int) (s : St) : Res := if 0 ≤ (wr (a4 + 1)) ∧ (wr (a4 + 1)) < gm s 61 1 0 then if 0 ≤ (wr (a4 + 2)) ∧ (wr (a4 + 2)) < gm s 61 1 0 then bn0 (FL_about a1 (gm s 61 0 (wr (a4 + 1))) (gm s 61 0 (wr (a4 + 2))) a3 s) fun x1 s1 => if 0 ≤ (wr (a4 + 1)) ∧ (wr (a4 + 1)) < gm s1 61 1 0 then if 0 ≤ (wr (a4 + 2)) ∧ (wr (a4 + 2)) < gm s1 61 1 0 then bnd (FX12_about a2 (gm s1 61 0 (wr (a4 + 1))) (gm s1 61 0 (wr (a4 + 2))) s1) fun x2 s2 => bnd (FX12_thrown a2 s2) fun x3 s3 => if x3 = x1 then fL_law_2325 kb a0 a1 a2 a3 a4 x1 x2 s3 else if (0 : Int) = 0 ∨ (0 : Int) = 1 then some (0, 0, s3) else none else none else none else none else none
noncomputable def fL_law_2274 (kb : Co) (a0 a1 a2 a3 a4 : Int) (s : St) : Res := fL_law_2636 kb a0 a1 a2 a3 a4 s
noncomputable def fL_law_2257 (kb : Co) (a0 a1 a2 a3 a4 a5 a6 : Int) (s : St) : Res := if a5 = 0 then (if 0 ≤ 0 ∧ 0 < 1 then if (icp (gm s 60 a3 0) a6) = 0 then fL_law_2274 kb a0 a1 a2 a3 a4 s else if (0 : Int) = 0 ∨ (0 : Int) = 1 then some (0, 0, s) else none else none) else fL_law_2274 kb a0 a1 a2 a3 a4 s
noncomputable def fL_law_2233 (kb : Co) (a0 a1 a2 a3 a4 : Int) (s : St) : Res := bn0 (FL_endYear a1 a3 s) fun x1 s1 => bnd (FX12_endYear a2 s1) fun x2 s2 => bnd (FX12_thrown a2 s2) fun x3 s3 => if x3 = x1 then fL_law_2257 kb a0 a1 a2 a3 a4 x1 x2 s3 else if (0 : Int) = 0 ∨ (0 : Int) = 1 then some (0, 0, s3) else none
noncomputable def fL_law_2230 (kb : Co) (a0 a1 a2 a3 a4 : Int) (s : St) : Res := fL_law_2636 kb a0 a1 a2 a3 a4 s
noncomputable def fL_law_2213 (kb : Co) (a0 a1 a2 a3 a4 a5 a6 : Int) (s : St) : Res := if a5 = 0 then (if 0 ≤ 0 ∧ 0 < 1 then if (icp (gm s 60 a3 0) a6) = 0 then fL_law_2230 kb a0 a1 a2 a3 a4 s else if (0 : Int) = 0 ∨ (0 : Int) = 1 then some (0, 0, s) else none else none) else fL_law_2230 kb a0 a1 a2 a3 a4 s
noncomputable def fL_law_2177 (kb : Co) (a0 a1 a2 a3 a4 : Int) (s : St) : Res := if 0 ≤ (wr (a4 + 1)) ∧ (wr (a4 + 1)) < gm s 61 1 0 then bn0 (FL_draw a1 (gm s 61 0 (wr (a4 + 1))) a3 s) fun x1 s1 => if 0 ≤ (wr (a4 + 1)) ∧ (wr (a4 + 1)) < gm s1 61 1 0 then bnd (FX12_draw a2 (gm s1 61 0 (wr (a4 + 1))) s1) fun x2 s2 => bnd (FX12_thrown a2 s2) fun x3 s3 => if x3 = x1 then fL_law_2213 kb a0 a1 a2 a3 a4 x1 x2 s3 else if (0 : Int) = 0 ∨ (0 : Int) = 1 then some (0, 0, s3) else none else none else none
noncomputable def fL_law_2174 (kb : Co) (a0 a1 a2 a3 a4 : Int) (s : St) : Res := fL_law_2636 kb a0 a1 a2 a3 a4 s
noncomputable def fL_law_2157 (kb : Co) (a0 a1 a2 a3 a4 a5 a6 : Int) (s : St) : Res := if a5 = 0 then (if 0 ≤ 0 ∧ 0 < 1 then if (icp (gm s 60 a3 0) a6) = 0 then fL_law_2174 kb a0 a1 a2 a3 a4 s else if (0 : Int) = 0 ∨ (0 : Int) = 1 then some (0, 0, s) else none else none) else fL_law_2174 kb a0 a1 a2 a3 a4 s
noncomputable def fL_law_2109 (kb : Co) (a0 a1 a2 a3 a4 : Int) (s : St) : Res := if 0 ≤ (wr (a4 + 1)) ∧ (wr (a4 + 1)) < gm s 61 1 0 then if 0 ≤ (wr (a4 + 2)) ∧ (wr (a4 + 2)) < gm s 61 1 0 then bn0 (FL_appeal a1 (gm s 61 0 (wr (a4 + 1))) (gm s 61 0 (wr (a4 + 2))) a3 s) fun x1 s1 => if 0 ≤ (wr (a4 + 1)) ∧ (wr (a4 + 1)) < gm s1 61 1 0 then if 0 ≤ (wr (a4 + 2)) ∧ (wr (a4 + 2)) < gm s1 61 1 0 then bnd (FX12_appeal a2 (gm s1 61 0 (wr (a4 + 1))) (gm s1 61 0 (wr (a4 + 2))) s1) fun x2 s2 => bnd (FX12_thrown a2 s2) fun x3 s3 => if x3 = x1 then fL_law_2157 kb a0 a1 a2 a3 a4 x1 x2 s3 else if (0 : Int) = 0 ∨ (0 : Int) = 1 then some (0, 0, s3) else none else none else none else none else none
noncomputable def fL_law_2106 (kb : Co) (a0 a1 a2 a3 a4 : Int) (s : St) : Res := fL_law_2636 kb a0 a1 a2 a3 a4 s
noncomputable def fL_law_2089 (kb : Co) (a0 a1 a2 a3 a4 a5 a6 : Int) (s : St) : Res := if a5 = 0 then (if 0 ≤ 0 ∧ 0 < 1 then if (icp (gm s 60 a3 0) a6) = 0 then fL_law_2106 kb a0 a1 a2 a3 a4 s else if (0 : Int) = 0 ∨ (0 : Int) = 1 then some (0, 0, s) else none else none) else fL_law_2106 kb a0 a1 a2 a3 a4 s
noncomputable def fL_law_2029 (kb : Co) (a0 a1 a2 a3 a4 : Int) (s : St) : Res := if 0 ≤ (wr (a4 + 1)) ∧ (wr (a4 + 1)) < gm s 61 1 0 then if 0 ≤ (wr (a4 + 2)) ∧ (wr (a4 + 2)) < gm s 61 1 0 then if 0 ≤ (wr (a4 + 3)) ∧ (wr (a4 + 3)) < gm s 61 1 0 then bn0 (FL_penalty a1 (gm s 61 0 (wr (a4 + 1))) (gm s 61 0 (wr (a4 + 2))) (gm s 61 0 (wr (a4 + 3))) a3 s) fun x1 s1 => if 0 ≤ (wr (a4 + 1)) ∧ (wr (a4 + 1)) < gm s1 61 1 0 then if 0 ≤ (wr (a4 + 2)) ∧ (wr (a4 + 2)) < gm s1 61 1 0 then if 0 ≤ (wr (a4 + 3)) ∧ (wr (a4 + 3)) < gm s1 61 1 0 then bnd (FX12_penalty a2 (gm s1 61 0 (wr (a4 + 1))) (gm s1 61 0 (wr (a4 + 2))) (gm s1 61 0 (wr (a4 + 3))) s1) fun x2 s2 => bnd (FX12_thrown a2 s2) fun x3 s3 => if x3 = x1 then fL_law_2089 kb a0 a1 a2 a3 a4 x1 x2 s3 else if (0 : Int) = 0 ∨ (0 : Int) = 1 then some (0, 0, s3) else none else none else none else none else none else none else none
noncomputable def fL_law_2026 (kb : Co) (a0 a1 a2 a3 a4 : Int) (s : St) : Res := fL_law_2636 kb a0 a1 a2 a3 a4 s
noncomputable def fL_law_2009 (kb : Co) (a0 a1 a2 a3 a4 a5 a6 : Int) (s : St) : Res := if a5 = 0 then (if 0 ≤ 0 ∧ 0 < 1 then if (icp (gm s 60 a3 0) a6) = 0 then fL_law_2026 kb a0 a1 a2 a3 a4 s else if (0 : Int) = 0 ∨ (0 : Int) = 1 then some (0, 0, s) else none else none) else fL_law_2026 kb a0 a1 a2 a3 a4 s
noncomputable def fL_law_1937 (kb : Co) (a0 a1 a2 a3 a4 : Int) (s : St) : Res := if 0 ≤ (wr (a4 + 1)) ∧ (wr (a4 + 1)) < gm s 61 1 0 then if 0 ≤ (wr (a4 + 2)) ∧ (wr (a4 + 2)) < gm s 61 1 0 then if 0 ≤ (wr (a4 + 3)) ∧ (wr (a4 + 3)) < gm s 61 1 0 then if 0 ≤ (wr (a4 + 4)) ∧ (wr (a4 + 4)) < gm s 61 1 0 then bn0 (FL_note a1 (gm s 61 0 (wr (a4 + 1))) (gm s 61 0 (wr (a4 + 2))) (gm s 61 0 (wr (a4 + 3))) (gm s 61 0 (wr (a4 + 4))) a3 s) fun x1 s1 => if 0 ≤ (wr (a4 + 1)) ∧ (wr (a4 + 1)) < gm s1 61 1 0 then if 0 ≤ (wr (a4 + 2)) ∧ (wr (a4 + 2)) < gm s1 61 1 0 then if 0 ≤ (wr (a4 + 3)) ∧ (wr (a4 + 3)) < gm s1 61 1 0 then if 0 ≤ (wr (a4 + 4)) ∧ (wr (a4 + 4)) < gm s1 61 1 0 then bnd (FX12_note a2 (gm s1 61 0 (wr (a4 + 1))) (gm s1 61 0 (wr (a4 + 2))) (gm s1 61 0 (wr (a4 + 3))) (gm s1 61 0 (wr (a4 + 4))) s1) fun x2 s2 => bnd (FX12_thrown a2 s2) fun x3 s3 => if x3 = x1 then fL_law_2009 kb a0 a1 a2 a3 a4 x1 x2 s3 else if (0 : Int) = 0 ∨ (0 : Int) = 1 then some (0, 0, s3) else none else none else none else none else none else none else none else none else none
noncomputable def fL_law_1934 (kb : Co) (a0 a1 a2 a3 a4 : Int) (s : St) : Res := fL_law_2636 kb a0 a1 a2 a3 a4 s
noncomputable def fL_law_1917 (kb : Co) (a0 a1 a2 a3 a4 a5 a6 : Int) (s : St) : Res := if a5 = 0 then (if 0 ≤ 0 ∧ 0 < 1 then if (icp (gm s 60 a3 0) a6) = 0 then fL_law_1934 kb a0 a1 a2 a3 a4 s else if (0 : Int) = 0 ∨ (0 : Int) = 1 then some (0, 0, s) else none else none) else fL_law_1934 kb a0 a1 a2 a3 a4 s
noncomputable def fL_law_1869 (kb : Co) (a0 a1 a2 a3 a4 : Int) (s : St) : Res := if 0 ≤ (wr (a4 + 1)) ∧ (wr (a4 + 1)) < gm s 61 1 0 then if 0 ≤ (wr (a4 + 2)) ∧ (wr (a4 + 2)) < gm s 61 1 0 then bn0 (FL_clock a1 (gm s 61 0 (wr (a4 + 1))) (gm s 61 0 (wr (a4 + 2))) a3 s) fun x1 s1 => if 0 ≤ (wr (a4 + 1)) ∧ (wr (a4 + 1)) < gm s1 61 1 0 then if 0 ≤ (wr (a4 + 2)) ∧ (wr (a4 + 2)) < gm s1 61 1 0 then bnd (FX12_clock a2 (gm s1 61 0 (wr (a4 + 1))) (gm s1 61 0 (wr (a4 + 2))) s1) fun x2 s2 => bnd (FX12_thrown a2 s2) fun x3 s3 => if x3 = x1 then fL_law_1917 kb a0 a1 a2 a3 a4 x1 x2 s3 else if (0 : Int) = 0 ∨ (0 : Int) = 1 then some (0, 0, s3) else none else none else none else none else none
noncomputable def fL_law_1866 (kb : Co) (a0 a1 a2 a3 a4 : Int) (s : St) : Res := fL_law_2636 kb a0 a1 a2 a3 a4 s
noncomputable def fL_law_1849 (kb : Co) (a0 a1 a2 a3 a4 a5 a6 : Int) (s : St) : Res := if a5 = 0 then (if 0 ≤ 0 ∧ 0 < 1 then if (icp (gm s 60 a3 0) a6) = 0 then fL_law_1866 kb a0 a1 a2 a3 a4 s else if (0 : Int) = 0 ∨ (0 : Int) = 1 then some (0, 0, s) else none else none) else fL_law_1866 kb a0 a1 a2 a3 a4 s
noncomputable def fL_law_1789 (kb : Co) (a0 a1 a2 a3 a4 : Int) (s : St) : Res := if 0 ≤ (wr (a4 + 1)) ∧ (wr (a4 + 1)) < gm s 61 1 0 then if 0 ≤ (wr (a4 + 2)) ∧ (wr (a4 + 2)) < gm s 61 1 0 then if 0 ≤ (wr (a4 + 3)) ∧ (wr (a4 + 3)) < gm s 61 1 0 then bn0 (FL_part a1 (gm s 61 0 (wr (a4 + 1))) (gm s 61 0 (wr (a4 + 2))) (gm s 61 0 (wr (a4 + 3))) a3 s) fun x1 s1 => if 0 ≤ (wr (a4 + 1)) ∧ (wr (a4 + 1)) < gm s1 61 1 0 then if 0 ≤ (wr (a4 + 2)) ∧ (wr (a4 + 2)) < gm s1 61 1 0 then if 0 ≤ (wr (a4 + 3)) ∧ (wr (a4 + 3)) < gm s1 61 1 0 then bnd (FX12_part a2 (gm s1 61 0 (wr (a4 + 1))) (gm s1 61 0 (wr (a4 + 2))) (gm s1 61 0 (wr (a4 + 3))) s1) fun x2 s2 => bnd (FX12_thrown a2 s2) fun x3 s3 => if x3 = x1 then fL_law_1849 kb a0 a1 a2 a3 a4 x1 x2 s3 else if (0 : Int) = 0 ∨ (0 : Int) = 1 then some (0, 0, s3) else none else none else none else none else none else none else none
noncomputable def fL_law_1786 (kb : Co) (a0 a1 a2 a3 a4 : Int) (s : St) : Res := fL_law_2636 kb a0 a1 a2 a3 a4 s
noncomputable def fL_law_1769 (kb : Co) (a0 a1 a2 a3 a4 a5 a6 : Int) (s : St) : Res := if a5 = 0 then (if 0 ≤ 0 ∧ 0 < 1 then if (icp (gm s 60 a3 0) a6) = 0 then fL_law_1786 kb a0 a1 a2 a3 a4 s else if (0 : Int) = 0 ∨ (0 : Int) = 1 then some (0, 0, s) else none else none) else fL_law_1786 kb a0 a1 a2 a3 a4 s
noncomputable def fL_law_1721 (kb : Co) (a0 a1 a2 a3 a4 : Int) (s : St) : Res := if 0 ≤ (wr (a4 + 1)) ∧ (wr (a4 + 1)) < gm s 61 1 0 then if 0 ≤ (wr (a4 + 2)) ∧ (wr (a4 + 2)) < gm s 61 1 0 then bn0 (FL_march a1 (gm s 61 0 (wr (a4 + 1))) (gm s 61 0 (wr (a4 + 2))) a3 s) fun x1 s1 => if 0 ≤ (wr (a4 + 1)) ∧ (wr (a4 + 1)) < gm s1 61 1 0 then if 0 ≤ (wr (a4 + 2)) ∧ (wr (a4 + 2)) < gm s1 61 1 0 then bnd (FX12_march a2 (gm s1 61 0 (wr (a4 + 1))) (gm s1 61 0 (wr (a4 + 2))) s1) fun x2 s2 => bnd (FX12_thrown a2 s2) fun x3 s3 => if x3 = x1 then fL_law_1769 kb a0 a1 a2 a3 a4 x1 x2 s3 else if (0 : Int) = 0 ∨ (0 : Int) = 1 then some (0, 0, s3) else none else none else none else none else none
noncomputable def fL_law_1718 (kb : Co) (a0 a1 a2 a3 a4 : Int) (s : St) : Res := fL_law_2636 kb a0 a1 a2 a3 a4 s
noncomputable def fL_law_1701 (kb : Co) (a0 a1 a2 a3 a4 a5 a6 : Int) (s : St) : Res := if a5 = 0 then (if 0 ≤ 0 ∧ 0 < 1 then if (icp (gm s 60 a3 0) a6) = 0 then fL_law_1718 kb a0 a1 a2 a3 a4 s else if (0 : Int) = 0 ∨ (0 : Int) = 1 then some (0, 0, s) else none else none) else fL_law_1718 kb a0 a1 a2 a3 a4 s
noncomputable def fL_law_1665 (kb : Co) (a0 a1 a2 a3 a4 : Int) (s : St) : Res := if 0 ≤ (wr (a4 + 1)) ∧ (wr (a4 + 1)) < gm s 61 1 0 then bn0 (FL_ambulance a1 (gm s 61 0 (wr (a4 + 1))) a3 s) fun x1 s1 => if 0 ≤ (wr (a4 + 1)) ∧ (wr (a4 + 1)) < gm s1 61 1 0 then bnd (FX12_ambulance a2 (gm s1 61 0 (wr (a4 + 1))) s1) fun x2 s2 => bnd (FX12_thrown a2 s2) fun x3 s3 => if x3 = x1 then fL_law_1701 kb a0 a1 a2 a3 a4 x1 x2 s3 else if (0 : Int) = 0 ∨ (0 : Int) = 1 then some (0, 0, s3) else none else none else none
noncomputable def fL_law_1657 (kb : Co) (a0 a1 a2 a3 a4 y0 y1 y2 : Int) (s : St) : Res := bnd (FX12_rain y1 y0 s) fun x1 s1 => if y2 = x1 then fL_law_2636 kb a0 a1 a2 a3 a4 s1 else if (0 : Int) = 0 ∨ (0 : Int) = 1 then some (0, 0, s1) else none
noncomputable def fL_law_1656 (kb : Co) (a0 a1 a2 a3 a4 y0 y1 : Int) (s : St) : Res := fL_law_1657 kb a0 a1 a2 a3 a4 0 y0 y1 s
noncomputable def fL_law_1639 (kb : Co) (a0 a1 a2 a3 a4 y0 y1 : Int) (s : St) : Res := bnd (FX11_rain y1 y0 s) fun x1 s1 => if 0 ≤ (wr (a4 + 1)) ∧ (wr (a4 + 1)) < gm s1 61 1 0 then if (gm s1 61 0 (wr (a4 + 1))) = 0 then fL_law_1656 kb a0 a1 a2 a3 a4 a2 x1 s1 else fL_law_1657 kb a0 a1 a2 a3 a4 1 a2 x1 s1 else none
noncomputable def fL_law_1638 (kb : Co) (a0 a1 a2 a3 a4 y0 : Int) (s : St) : Res := fL_law_1639 kb a0 a1 a2 a3 a4 0 y0 s
noncomputable def fL_law_1624 (kb : Co) (a0 a1 a2 a3 a4 : Int) (s : St) : Res := if 0 ≤ (wr (a4 + 1)) ∧ (wr (a4 + 1)) < gm s 61 1 0 then if (gm s 61 0 (wr (a4 + 1))) = 0 then fL_law_1638 kb a0 a1 a2 a3 a4 a1 s else fL_law_1639 kb a0 a1 a2 a3 a4 1 a1 s else none
noncomputable def fL_law_1621 (kb : Co) (a0 a1 a2 a3 a4 : Int) (s : St) : Res := fL_law_2636 kb a0 a1 a2 a3 a4 s
noncomputable def fL_law_1604 (kb : Co) (a0 a1 a2 a3 a4 a5 a6 : Int) (s : St) : Res := if a5 = 0 then (if 0 ≤ 0 ∧ 0 < 1 then if (icp (gm s 60 a3 0) a6) = 0 then fL_law_1621 kb a0 a1 a2 a3 a4 s else if (0 : Int) = 0 ∨ (0 : Int) = 1 then some (0, 0, s) else none else none) else fL_law_1621 kb a0 a1 a2 a3 a4 s
noncomputable def fL_law_1544 (kb : Co) (a0 a1 a2 a3 a4 : Int) (s : St) : Res := if 0 ≤ (wr (a4 + 1)) ∧ (wr (a4 + 1)) < gm s 61 1 0 then if 0 ≤ (wr (a4 + 2)) ∧ (wr (a4 + 2)) < gm s 61 1 0 then if 0 ≤ (wr (a4 + 3)) ∧ (wr (a4 + 3)) < gm s 61 1 0 then bn0 (FL_stop a1 (gm s 61 0 (wr (a4 + 1))) (gm s 61 0 (wr (a4 + 2))) (gm s 61 0 (wr (a4 + 3))) a3 s) fun x1 s1 => if 0 ≤ (wr (a4 + 1)) ∧ (wr (a4 + 1)) < gm s1 61 1 0 then if 0 ≤ (wr (a4 + 2)) ∧ (wr (a4 + 2)) < gm s1 61 1 0 then if 0 ≤ (wr (a4 + 3)) ∧ (wr (a4 + 3)) < gm s1 61 1 0 then bnd (FX12_stop a2 (gm s1 61 0 (wr (a4 + 1))) (gm s1 61 0 (wr (a4 + 2))) (gm s1 61 0 (wr (a4 + 3))) s1) fun x2 s2 => bnd (FX12_thrown a2 s2) fun x3 s3 => if x3 = x1 then fL_law_1604 kb a0 a1 a2 a3 a4 x1 x2 s3 else if (0 : Int) = 0 ∨ (0 : Int) = 1 then some (0, 0, s3) else none else none else none else none else none else none else none
noncomputable def fL_law_1541 (kb : Co) (a0 a1 a2 a3 a4 : Int) (s : St) : Res := fL_law_2636 kb a0 a1 a2 a3 a4 s
noncomputable def fL_law_1524 (kb : Co) (a0 a1 a2 a3 a4 a5 a6 : Int) (s : St) : Res := if a5 = 0 then (if 0 ≤ 0 ∧ 0 < 1 then if (icp (gm s 60 a3 0) a6) = 0 then fL_law_1541 kb a0 a1 a2 a3 a4 s else if (0 : Int) = 0 ∨ (0 : Int) = 1 then some (0, 0, s) else none else none) else fL_law_1541 kb a0 a1 a2 a3 a4 s
noncomputable def fL_law_1464 (kb : Co) (a0 a1 a2 a3 a4 : Int) (s : St) : Res := if 0 ≤ (wr (a4 + 1)) ∧ (wr (a4 + 1)) < gm s 61 1 0 then if 0 ≤ (wr (a4 + 2)) ∧ (wr (a4 + 2)) < gm s 61 1 0 then if 0 ≤ (wr (a4 + 3)) ∧ (wr (a4 + 3)) < gm s 61 1 0 then bn0 (FL_begin a1 (gm s 61 0 (wr (a4 + 1))) (gm s 61 0 (wr (a4 + 2))) (gm s 61 0 (wr (a4 + 3))) a3 s) fun x1 s1 => if 0 ≤ (wr (a4 + 1)) ∧ (wr (a4 + 1)) < gm s1 61 1 0 then if 0 ≤ (wr (a4 + 2)) ∧ (wr (a4 + 2)) < gm s1 61 1 0 then if 0 ≤ (wr (a4 + 3)) ∧ (wr (a4 + 3)) < gm s1 61 1 0 then bnd (FX12_begin a2 (gm s1 61 0 (wr (a4 + 1))) (gm s1 61 0 (wr (a4 + 2))) (gm s1 61 0 (wr (a4 + 3))) s1) fun x2 s2 => bnd (FX12_thrown a2 s2) fun x3 s3 => if x3 = x1 then fL_law_1524 kb a0 a1 a2 a3 a4 x1 x2 s3 else if (0 : Int) = 0 ∨ (0 : Int) = 1 then some (0, 0, s3) else none else none else none else none else none else none else none
noncomputable def fL_law_1461 (kb : Co) (a0 a1 a2 a3 a4 : Int) (s : St) : Res := fL_law_2636 kb a0 a1 a2 a3 a4 s
noncomputable def fL_law_1444 (kb : Co) (a0 a1 a2 a3 a4 a5 a6 : Int) (s : St) : Res := if a5 = 0 then (if 0 ≤ 0 ∧ 0 < 1 then if (icp (gm s 60 a3 0) a6) = 0 then fL_law_1461 kb a0 a1 a2 a3 a4 s else if (0 : Int) = 0 ∨ (0 : Int) = 1 then some (0, 0, s) else none else none) else fL_law_1461 kb a0 a1 a2 a3 a4 s
noncomputable def fL_law_1396 (kb : Co) (a0 a1 a2 a3 a4 : Int) (s : St) : Res := if 0 ≤ (wr (a4 + 1)) ∧ (wr (a4 + 1)) < gm s 61 1 0 then if 0 ≤ (wr (a4 + 2)) ∧ (wr (a4 + 2)) < gm s 61 1 0 then bn0 (FL_order a1 (gm s 61 0 (wr (a4 + 1))) (gm s 61 0 (wr (a4 + 2))) a3 s) fun x1 s1 => if 0 ≤ (wr (a4 + 1)) ∧ (wr (a4 + 1)) < gm s1 61 1 0 then if 0 ≤ (wr (a4 + 2)) ∧ (wr (a4 + 2)) < gm s1 61 1 0 then bnd (FX12_order a2 (gm s1 61 0 (wr (a4 + 1))) (gm s1 61 0 (wr (a4 + 2))) s1) fun x2 s2 => bnd (FX12_thrown a2 s2) fun x3 s3 => if x3 = x1 then fL_law_1444 kb a0 a1 a2 a3 a4 x1 x2 s3 else if (0 : Int) = 0 ∨ (0 : Int) = 1 then some (0, 0, s3) else none else none else none else none else none
noncomputable def fL_law_1393 (kb : Co) (a0 a1 a2 a3 a4 : Int) (s : St) : Res := fL_law_2636 kb a0 a1 a2 a3 a4 s
noncomputable def fL_law_1387 (kb : Co) (a0 a1 a2 a3 a4 y0 y1 : Int) (s : St) : Res := if (icp y1 y0) = 0 then fL_law_1393 kb a0 a1 a2 a3 a4 s else if (0 : Int) = 0 ∨ (0 : Int) = 1 then some (0, 0, s) else none
noncomputable def fL_law_1386 (kb : Co) (a0 a1 a2 a3 a4 y0 : Int) (s : St) : Res := fL_law_1387 kb a0 a1 a2 a3 a4 0 y0 s
noncomputable def fL_law_1369 (kb : Co) (a0 a1 a2 a3 a4 a5 a6 : Int) (s : St) : Res := if a5 = 0 then (if 0 ≤ 0 ∧ 0 < 1 then if a6 = 0 then fL_law_1386 kb a0 a1 a2 a3 a4 (gm s 60 a3 0) s else fL_law_1387 kb a0 a1 a2 a3 a4 1 (gm s 60 a3 0) s else none) else fL_law_1393 kb a0 a1 a2 a3 a4 s
noncomputable def fL_law_1321 (kb : Co) (a0 a1 a2 a3 a4 : Int) (s : St) : Res := if 0 ≤ (wr (a4 + 1)) ∧ (wr (a4 + 1)) < gm s 61 1 0 then if 0 ≤ (wr (a4 + 2)) ∧ (wr (a4 + 2)) < gm s 61 1 0 then bn0 (FL_change a1 (gm s 61 0 (wr (a4 + 1))) (gm s 61 0 (wr (a4 + 2))) a3 s) fun x1 s1 => if 0 ≤ (wr (a4 + 1)) ∧ (wr (a4 + 1)) < gm s1 61 1 0 then if 0 ≤ (wr (a4 + 2)) ∧ (wr (a4 + 2)) < gm s1 61 1 0 then bnd (FX12_change a2 (gm s1 61 0 (wr (a4 + 1))) (gm s1 61 0 (wr (a4 + 2))) s1) fun x2 s2 => bnd (FX12_thrown a2 s2) fun x3 s3 => if x3 = x1 then fL_law_1369 kb a0 a1 a2 a3 a4 x1 x2 s3 else if (0 : Int) = 0 ∨ (0 : Int) = 1 then some (0, 0, s3) else none else none else none else none else none
noncomputable def fL_law_1318 (kb : Co) (a0 a1 a2 a3 a4 : Int) (s : St) : Res := fL_law_2636 kb a0 a1 a2 a3 a4 s
noncomputable def fL_law_1301 (kb : Co) (a0 a1 a2 a3 a4 a5 a6 : Int) (s : St) : Res := if a5 = 0 then (if 0 ≤ 0 ∧ 0 < 1 then if (icp (gm s 60 a3 0) a6) = 0 then fL_law_1318 kb a0 a1 a2 a3 a4 s else if (0 : Int) = 0 ∨ (0 : Int) = 1 then some (0, 0, s) else none else none) else fL_law_1318 kb a0 a1 a2 a3 a4 s
noncomputable def fL_law_1253 (kb : Co) (a0 a1 a2 a3 a4 : Int) (s : St) : Res := if 0 ≤ (wr (a4 + 1)) ∧ (wr (a4 + 1)) < gm s 61 1 0 then if 0 ≤ (wr (a4 + 2)) ∧ (wr (a4 + 2)) < gm s 61 1 0 then bn0 (FL_enter a1 (gm s 61 0 (wr (a4 + 1))) (gm s 61 0 (wr (a4 + 2))) a3 s) fun x1 s1 => if 0 ≤ (wr (a4 + 1)) ∧ (wr (a4 + 1)) < gm s1 61 1 0 then if 0 ≤ (wr (a4 + 2)) ∧ (wr (a4 + 2)) < gm s1 61 1 0 then bnd (FX12_enter a2 (gm s1 61 0 (wr (a4 + 1))) (gm s1 61 0 (wr (a4 + 2))) s1) fun x2 s2 => bnd (FX12_thrown a2 s2) fun x3 s3 => if x3 = x1 then fL_law_1301 kb a0 a1 a2 a3 a4 x1 x2 s3 else if (0 : Int) = 0 ∨ (0 : Int) = 1 then some (0, 0, s3) else none else none else none else none else none
noncomputable def fL_law_1250 (kb : Co) (a0 a1 a2 a3 a4 : Int) (s : St) : Res := fL_law_2636 kb a0 a1 a2 a3 a4 s
noncomputable def fL_law_1244 (kb : Co) (a0 a1 a2 a3 a4 y0 y1 : Int) (s : St) : Res := if (icp y1 y0) = 0 then fL_law_1250 kb a0 a1 a2 a3 a4 s else if (0 : Int) = 0 ∨ (0 : Int) = 1 then some (0, 0, s) else none
noncomputable def fL_law_1243 (kb : Co) (a0 a1 a2 a3 a4 y0 : Int) (s : St) : Res := fL_law_1244 kb a0 a1 a2 a3 a4 0 y0 s
noncomputable def fL_law_1226 (kb : Co) (a0 a1 a2 a3 a4 a5 a6 : Int) (s : St) : Res := if a5 = 0 then (if 0 ≤ 0 ∧ 0 < 1 then if a6 = 0 then fL_law_1243 kb a0 a1 a2 a3 a4 (gm s 60 a3 0) s else fL_law_1244 kb a0 a1 a2 a3 a4 1 (gm s 60 a3 0) s else none) else fL_law_1250 kb a0 a1 a2 a3 a4 s
noncomputable def fL_law_1178 (kb : Co) (a0 a1 a2 a3 a4 : Int) (s : St) : Res := if 0 ≤ (wr (a4 + 1)) ∧ (wr (a4 + 1)) < gm s 61 1 0 then if 0 ≤ (wr (a4 + 2)) ∧ (wr (a4 + 2)) < gm s 61 1 0 then bn0 (FL_fits a1 (gm s 61 0 (wr (a4 + 1))) (gm s 61 0 (wr (a4 + 2))) a3 s) fun x1 s1 => if 0 ≤ (wr (a4 + 1)) ∧ (wr (a4 + 1)) < gm s1 61 1 0 then if 0 ≤ (wr (a4 + 2)) ∧ (wr (a4 + 2)) < gm s1 61 1 0 then bnd (FX12_fits a2 (gm s1 61 0 (wr (a4 + 1))) (gm s1 61 0 (wr (a4 + 2))) s1) fun x2 s2 => bnd (FX12_thrown a2 s2) fun x3 s3 => if x3 = x1 then fL_law_1226 kb a0 a1 a2 a3 a4 x1 x2 s3 else if (0 : Int) = 0 ∨ (0 : Int) = 1 then some (0, 0, s3) else none else none else none else none else none
noncomputable def fL_law_1175 (kb : Co) (a0 a1 a2 a3 a4 : Int) (s : St) : Res := fL_law_2636 kb a0 a1 a2 a3 a4 s
noncomputable def fL_law_1158 (kb : Co) (a0 a1 a2 a3 a4 a5 a6 : Int) (s : St) : Res := if a5 = 0 then (if 0 ≤ 0 ∧ 0 < 1 then if (icp (gm s 60 a3 0) a6) = 0 then fL_law_1175 kb a0 a1 a2 a3 a4 s else if (0 : Int) = 0 ∨ (0 : Int) = 1 then some (0, 0, s) else none else none) else fL_law_1175 kb a0 a1 a2 a3 a4 s
noncomputable def fL_law_1060 (kb : Co) (a0 a1 a2 a3 a4 : Int) (s : St) : Res := if 0 ≤ (wr (a4 + 1)) ∧ (wr (a4 + 1)) < gm s 61 1 0 then if 0 ≤ (wr (a4 + 2)) ∧ (wr (a4 + 2)) < gm s 61 1 0 then if 0 ≤ (wr (a4 + 3)) ∧ (wr (a4 + 3)) < gm s 61 1 0 then if 0 ≤ (wr (a4 + 4)) ∧ (wr (a4 + 4)) < gm s 61 1 0 then if 0 ≤ (wr (a4 + 5)) ∧ (wr (a4 + 5)) < gm s 61 1 0 then if 0 ≤ (wr (a4 + 6)) ∧ (wr (a4 + 6)) < gm s 61 1 0 then bn0 (FL_cut a1 (gm s 61 0 (wr (a4 + 1))) (gm s 61 0 (wr (a4 + 2))) (gm s 61 0 (wr (a4 + 3))) (gm s 61 0 (wr (a4 + 4))) (gm s 61 0 (wr (a4 + 5))) (gm s 61 0 (wr (a4 + 6))) a3 s) fun x1 s1 => if 0 ≤ (wr (a4 + 1)) ∧ (wr (a4 + 1)) < gm s1 61 1 0 then if 0 ≤ (wr (a4 + 2)) ∧ (wr (a4 + 2)) < gm s1 61 1 0 then if 0 ≤ (wr (a4 + 3)) ∧ (wr (a4 + 3)) < gm s1 61 1 0 then if 0 ≤ (wr (a4 + 4)) ∧ (wr (a4 + 4)) < gm s1 61 1 0 then if 0 ≤ (wr (a4 + 5)) ∧ (wr (a4 + 5)) < gm s1 61 1 0 then if 0 ≤ (wr (a4 + 6)) ∧ (wr (a4 + 6)) < gm s1 61 1 0 then bnd (FX12_cut a2 (gm s1 61 0 (wr (a4 + 1))) (gm s1 61 0 (wr (a4 + 2))) (gm s1 61 0 (wr (a4 + 3))) (gm s1 61 0 (wr (a4 + 4))) (gm s1 61 0 (wr (a4 + 5))) (gm s1 61 0 (wr (a4 + 6))) s1) fun x2 s2 => bnd (FX12_thrown a2 s2) fun x3 s3 => if x3 = x1 then fL_law_1158 kb a0 a1 a2 a3 a4 x1 x2 s3 else if (0 : Int) = 0 ∨ (0 : Int) = 1 then some (0, 0, s3) else none else none else none else none else none else none else none else none else none else none else none else none else none
noncomputable def fL_law_1057 (kb : Co) (a0 a1 a2 a3 a4 : Int) (s : St) : Res := fL_law_2636 kb a0 a1 a2 a3 a4 s
noncomputable def fL_law_1040 (kb : Co) (a0 a1 a2 a3 a4 a5 a6 : Int) (s : St) : Res := if a5 = 0 then (if 0 ≤ 0 ∧ 0 < 1 then if (icp (gm s 60 a3 0) a6) = 0 then fL_law_1057 kb a0 a1 a2 a3 a4 s else if (0 : Int) = 0 ∨ (0 : Int) = 1 then some (0, 0, s) else none else none) else fL_law_1057 kb a0 a1 a2 a3 a4 s
noncomputable def fL_law_956 (kb : Co) (a0 a1 a2 a3 a4 : Int) (s : St) : Res := if 0 ≤ (wr (a4 + 1)) ∧ (wr (a4 + 1)) < gm s 61 1 0 then if 0 ≤ (wr (a4 + 2)) ∧ (wr (a4 + 2)) < gm s 61 1 0 then if 0 ≤ (wr (a4 + 3)) ∧ (wr (a4 + 3)) < gm s 61 1 0 then if 0 ≤ (wr (a4 + 4)) ∧ (wr (a4 + 4)) < gm s 61 1 0 then if 0 ≤ (wr (a4 + 5)) ∧ (wr (a4 + 5)) < gm s 61 1 0 then bn0 (FL_build a1 (gm s 61 0 (wr (a4 + 1))) (gm s 61 0 (wr (a4 + 2))) (gm s 61 0 (wr (a4 + 3))) (gm s 61 0 (wr (a4 + 4))) (gm s 61 0 (wr (a4 + 5))) a3 s) fun x1 s1 => if 0 ≤ (wr (a4 + 1)) ∧ (wr (a4 + 1)) < gm s1 61 1 0 then if 0 ≤ (wr (a4 + 2)) ∧ (wr (a4 + 2)) < gm s1 61 1 0 then if 0 ≤ (wr (a4 + 3)) ∧ (wr (a4 + 3)) < gm s1 61 1 0 then if 0 ≤ (wr (a4 + 4)) ∧ (wr (a4 + 4)) < gm s1 61 1 0 then if 0 ≤ (wr (a4 + 5)) ∧ (wr (a4 + 5)) < gm s1 61 1 0 then bnd (FX12_build a2 (gm s1 61 0 (wr (a4 + 1))) (gm s1 61 0 (wr (a4 + 2))) (gm s1 61 0 (wr (a4 + 3))) (gm s1 61 0 (wr (a4 + 4))) (gm s1 61 0 (wr (a4 + 5))) s1) fun x2 s2 => bnd (FX12_thrown a2 s2) fun x3 s3 => if x3 = x1 then fL_law_1040 kb a0 a1 a2 a3 a4 x1 x2 s3 else if (0 : Int) = 0 ∨ (0 : Int) = 1 then some (0, 0, s3) else none else none else none else none else none else none else none else none else none else none else none
noncomputable def fL_law_953 (kb : Co) (a0 a1 a2 a3 a4 : Int) (s : St) : Res := fL_law_2636 kb a0 a1 a2 a3 a4 s
noncomputable def fL_law_947 (kb : Co) (a0 a1 a2 a3 a4 y0 y1 : Int) (s : St) : Res := if (icp y1 y0) = 0 then fL_law_953 kb a0 a1 a2 a3 a4 s else if (0 : Int) = 0 ∨ (0 : Int) = 1 then some (0, 0, s) else none
noncomputable def fL_law_946 (kb : Co) (a0 a1 a2 a3 a4 y0 : Int) (s : St) : Res := fL_law_947 kb a0 a1 a2 a3 a4 0 y0 s
noncomputable def fL_law_929 (kb : Co) (a0 a1 a2 a3 a4 a5 a6 : Int) (s : St) : Res := if a5 = 0 then (if 0 ≤ 0 ∧ 0 < 1 then if a6 = 0 then fL_law_946 kb a0 a1 a2 a3 a4 (gm s 60 a3 0) s else fL_law_947 kb a0 a1 a2 a3 a4 1 (gm s 60 a3 0) s else none) else fL_law_953 kb a0 a1 a2 a3 a4 s
noncomputable def fL_law_913 (kb : Co) (a0 a1 a2 a3 a4 a5 y0 y1 y2 : Int) (s : St) : Res := bnd (FX12_jury y2 y1 y0 s) fun x1 s1 => bnd (FX12_thrown a2 s1) fun x2 s2 => if x2 = a5 then fL_law_929 kb a0 a1 a2 a3 a4 a5 x1 s2 else if (0 : Int) = 0 ∨ (0 : Int) = 1 then some (0, 0, s2) else none
noncomputable def fL_law_912 (kb : Co) (a0 a1 a2 a3 a4 a5 y0 y1 : Int) (s : St) : Res := fL_law_913 kb a0 a1 a2 a3 a4 a5 0 y0 y1 s
noncomputable def fL_law_886 (kb : Co) (a0 a1 a2 a3 a4 y0 y1 y2 : Int) (s : St) : Res := bn0 (FL_jury y2 y1 y0 a3 s) fun x1 s1 => if 0 ≤ (wr (a4 + 1)) ∧ (wr (a4 + 1)) < gm s1 61 1 0 then if 0 ≤ (wr (a4 + 2)) ∧ (wr (a4 + 2)) < gm s1 61 1 0 then if (gm s1 61 0 (wr (a4 + 2))) = 0 then fL_law_912 kb a0 a1 a2 a3 a4 x1 (gm s1 61 0 (wr (a4 + 1))) a2 s1 else fL_law_913 kb a0 a1 a2 a3 a4 x1 1 (gm s1 61 0 (wr (a4 + 1))) a2 s1 else none else none
noncomputable def fL_law_885 (kb : Co) (a0 a1 a2 a3 a4 y0 y1 : Int) (s : St) : Res := fL_law_886 kb a0 a1 a2 a3 a4 0 y0 y1 s
noncomputable def fL_law_865 (kb : Co) (a0 a1 a2 a3 a4 : Int) (s : St) : Res := if 0 ≤ (wr (a4 + 1)) ∧ (wr (a4 + 1)) < gm s 61 1 0 then if 0 ≤ (wr (a4 + 2)) ∧ (wr (a4 + 2)) < gm s 61 1 0 then if (gm s 61 0 (wr (a4 + 2))) = 0 then fL_law_885 kb a0 a1 a2 a3 a4 (gm s 61 0 (wr (a4 + 1))) a1 s else fL_law_886 kb a0 a1 a2 a3 a4 1 (gm s 61 0 (wr (a4 + 1))) a1 s else none else none
noncomputable def fL_law_862 (kb : Co) (a0 a1 a2 a3 a4 : Int) (s : St) : Res := fL_law_2636 kb a0 a1 a2 a3 a4 s
noncomputable def fL_law_845 (kb : Co) (a0 a1 a2 a3 a4 a5 a6 : Int) (s : St) : Res := if a5 = 0 then (if 0 ≤ 0 ∧ 0 < 1 then if (icp (gm s 60 a3 0) a6) = 0 then fL_law_862 kb a0 a1 a2 a3 a4 s else if (0 : Int) = 0 ∨ (0 : Int) = 1 then some (0, 0, s) else none else none) else fL_law_862 kb a0 a1 a2 a3 a4 s
noncomputable def fL_law_797 (kb : Co) (a0 a1 a2 a3 a4 : Int) (s : St) : Res := if 0 ≤ (wr (a4 + 1)) ∧ (wr (a4 + 1)) < gm s 61 1 0 then if 0 ≤ (wr (a4 + 2)) ∧ (wr (a4 + 2)) < gm s 61 1 0 then bn0 (FL_goOn a1 (gm s 61 0 (wr (a4 + 1))) (gm s 61 0 (wr (a4 + 2))) a3 s) fun x1 s1 => if 0 ≤ (wr (a4 + 1)) ∧ (wr (a4 + 1)) < gm s1 61 1 0 then if 0 ≤ (wr (a4 + 2)) ∧ (wr (a4 + 2)) < gm s1 61 1 0 then bnd (FX12_goOn a2 (gm s1 61 0 (wr (a4 + 1))) (gm s1 61 0 (wr (a4 + 2))) s1) fun x2 s2 => bnd (FX12_thrown a2 s2) fun x3 s3 => if x3 = x1 then fL_law_845 kb a0 a1 a2 a3 a4 x1 x2 s3 else if (0 : Int) = 0 ∨ (0 : Int) = 1 then some (0, 0, s3) else none else none else none else none else none
noncomputable def fL_law_794 (kb : Co) (a0 a1 a2 a3 a4 : Int) (s : St) : Res := fL_law_2636 kb a0 a1 a2 a3 a4 s
noncomputable def fL_law_749 (kb : Co) (a0 a1 a2 a3 a4 : Int) (s : St) : Res := if 0 ≤ (wr (a4 + 1)) ∧ (wr (a4 + 1)) < gm s 61 1 0 then if 0 ≤ (wr (a4 + 2)) ∧ (wr (a4 + 2)) < gm s 61 1 0 then bn0 (FL_route a1 (gm s 61 0 (wr (a4 + 1))) (gm s 61 0 (wr (a4 + 2))) s) fun x1 s1 => if 0 ≤ (wr (a4 + 1)) ∧ (wr (a4 + 1)) < gm s1 61 1 0 then if 0 ≤ (wr (a4 + 2)) ∧ (wr (a4 + 2)) < gm s1 61 1 0 then bnd (FX12_route a2 (gm s1 61 0 (wr (a4 + 1))) (gm s1 61 0 (wr (a4 + 2))) s1) fun _ s2 => bnd (FX12_thrown a2 s2) fun x3 s3 => if x3 = x1 then fL_law_794 kb a0 a1 a2 a3 a4 s3 else if (0 : Int) = 0 ∨ (0 : Int) = 1 then some (0, 0, s3) else none else none else none else none else none
noncomputable def fL_law_746 (kb : Co) (a0 a1 a2 a3 a4 : Int) (s : St) : Res := fL_law_2636 kb a0 a1 a2 a3 a4 s
noncomputable def fL_law_729 (kb : Co) (a0 a1 a2 a3 a4 a5 a6 : Int) (s : St) : Res := if a5 = 0 then (if 0 ≤ 0 ∧ 0 < 1 then if (icp (gm s 60 a3 0) a6) = 0 then fL_law_746 kb a0 a1 a2 a3 a4 s else if (0 : Int) = 0 ∨ (0 : Int) = 1 then some (0, 0, s) else none else none) else fL_law_746 kb a0 a1 a2 a3 a4 s
noncomputable def fL_law_631 (kb : Co) (a0 a1 a2 a3 a4 : Int) (s : St) : Res := if 0 ≤ (wr (a4 + 1)) ∧ (wr (a4 + 1)) < gm s 61 1 0 then if 0 ≤ (wr (a4 + 2)) ∧ (wr (a4 + 2)) < gm s 61 1 0 then if 0 ≤ (wr (a4 + 3)) ∧ (wr (a4 + 3)) < gm s 61 1 0 then if 0 ≤ (wr (a4 + 4)) ∧ (wr (a4 + 4)) < gm s 61 1 0 then if 0 ≤ (wr (a4 + 5)) ∧ (wr (a4 + 5)) < gm s 61 1 0 then if 0 ≤ (wr (a4 + 6)) ∧ (wr (a4 + 6)) < gm s 61 1 0 then bn0 (FL_street a1 (gm s 61 0 (wr (a4 + 1))) (gm s 61 0 (wr (a4 + 2))) (gm s 61 0 (wr (a4 + 3))) (gm s 61 0 (wr (a4 + 4))) (gm s 61 0 (wr (a4 + 5))) (gm s 61 0 (wr (a4 + 6))) a3 s) fun x1 s1 => if 0 ≤ (wr (a4 + 1)) ∧ (wr (a4 + 1)) < gm s1 61 1 0 then if 0 ≤ (wr (a4 + 2)) ∧ (wr (a4 + 2)) < gm s1 61 1 0 then if 0 ≤ (wr (a4 + 3)) ∧ (wr (a4 + 3)) < gm s1 61 1 0 then if 0 ≤ (wr (a4 + 4)) ∧ (wr (a4 + 4)) < gm s1 61 1 0 then if 0 ≤ (wr (a4 + 5)) ∧ (wr (a4 + 5)) < gm s1 61 1 0 then if 0 ≤ (wr (a4 + 6)) ∧ (wr (a4 + 6)) < gm s1 61 1 0 then bnd (FX12_street a2 (gm s1 61 0 (wr (a4 + 1))) (gm s1 61 0 (wr (a4 + 2))) (gm s1 61 0 (wr (a4 + 3))) (gm s1 61 0 (wr (a4 + 4))) (gm s1 61 0 (wr (a4 + 5))) (gm s1 61 0 (wr (a4 + 6))) s1) fun x2 s2 => bnd (FX12_thrown a2 s2) fun x3 s3 => if x3 = x1 then fL_law_729 kb a0 a1 a2 a3 a4 x1 x2 s3 else if (0 : Int) = 0 ∨ (0 : Int) = 1 then some (0, 0, s3) else none else none else none else none else none else none else none else none else none else none else none else none else none
noncomputable def fL_law_628 (kb : Co) (a0 a1 a2 a3 a4 : Int) (s : St) : Res := fL_law_2636 kb a0 a1 a2 a3 a4 s
noncomputable def fL_law_611 (kb : Co) (a0 a1 a2 a3 a4 a5 a6 : Int) (s : St) : Res := if a5 = 0 then (if 0 ≤ 0 ∧ 0 < 1 then if (icp (gm s 60 a3 0) a6) = 0 then fL_law_628 kb a0 a1 a2 a3 a4 s else if (0 : Int) = 0 ∨ (0 : Int) = 1 then some (0, 0, s) else none else none) else fL_law_628 kb a0 a1 a2 a3 a4 s
noncomputable def fL_law_575 (kb : Co) (a0 a1 a2 a3 a4 : Int) (s : St) : Res := if 0 ≤ (wr (a4 + 1)) ∧ (wr (a4 + 1)) < gm s 61 1 0 then bn0 (FL_round a1 (gm s 61 0 (wr (a4 + 1))) a3 s) fun x1 s1 => if 0 ≤ (wr (a4 + 1)) ∧ (wr (a4 + 1)) < gm s1 61 1 0 then bnd (FX12_round a2 (gm s1 61 0 (wr (a4 + 1))) s1) fun x2 s2 => bnd (FX12_thrown a2 s2) fun x3 s3 => if x3 = x1 then fL_law_611 kb a0 a1 a2 a3 a4 x1 x2 s3 else if (0 : Int) = 0 ∨ (0 : Int) = 1 then some (0, 0, s3) else none else none else none
noncomputable def fL_law_572 (kb : Co) (a0 a1 a2 a3 a4 : Int) (s : St) : Res := fL_law_2636 kb a0 a1 a2 a3 a4 s
noncomputable def fL_law_555 (kb : Co) (a0 a1 a2 a3 a4 a5 a6 : Int) (s : St) : Res := if a5 = 0 then (if 0 ≤ 0 ∧ 0 < 1 then if (icp (gm s 60 a3 0) a6) = 0 then fL_law_572 kb a0 a1 a2 a3 a4 s else if (0 : Int) = 0 ∨ (0 : Int) = 1 then some (0, 0, s) else none else none) else fL_law_572 kb a0 a1 a2 a3 a4 s
noncomputable def fL_law_495 (kb : Co) (a0 a1 a2 a3 a4 : Int) (s : St) : Res := if 0 ≤ (wr (a4 + 1)) ∧ (wr (a4 + 1)) < gm s 61 1 0 then if 0 ≤ (wr (a4 + 2)) ∧ (wr (a4 + 2)) < gm s 61 1 0 then if 0 ≤ (wr (a4 + 3)) ∧ (wr (a4 + 3)) < gm s 61 1 0 then bn0 (FL_vote a1 (gm s 61 0 (wr (a4 + 1))) (gm s 61 0 (wr (a4 + 2))) (gm s 61 0 (wr (a4 + 3))) a3 s) fun x1 s1 => if 0 ≤ (wr (a4 + 1)) ∧ (wr (a4 + 1)) < gm s1 61 1 0 then if 0 ≤ (wr (a4 + 2)) ∧ (wr (a4 + 2)) < gm s1 61 1 0 then if 0 ≤ (wr (a4 + 3)) ∧ (wr (a4 + 3)) < gm s1 61 1 0 then bnd (FX12_vote a2 (gm s1 61 0 (wr (a4 + 1))) (gm s1 61 0 (wr (a4 + 2))) (gm s1 61 0 (wr (a4 + 3))) s1) fun x2 s2 => bnd (FX12_thrown a2 s2) fun x3 s3 => if x3 = x1 then fL_law_555 kb a0 a1 a2 a3 a4 x1 x2 s3 else if (0 : Int) = 0 ∨ (0 : Int) = 1 then some (0, 0, s3) else none else none else none else none else none else none else none
noncomputable def fL_law_492 (kb : Co) (a0 a1 a2 a3 a4 : Int) (s : St) : Res := fL_law_2636 kb a0 a1 a2 a3 a4 s
noncomputable def fL_law_475 (kb : Co) (a0 a1 a2 a3 a4 a5 a6 : Int) (s : St) : Res := if a5 = 0 then (if 0 ≤ 0 ∧ 0 < 1 then if (icp (gm s 60 a3 0) a6) = 0 then fL_law_492 kb a0 a1 a2 a3 a4 s else if (0 : Int) = 0 ∨ (0 : Int) = 1 then some (0, 0, s) else none else none) else fL_law_492 kb a0 a1 a2 a3 a4 s
noncomputable def fL_law_439 (kb : Co) (a0 a1 a2 a3 a4 : Int) (s : St) : Res := if 0 ≤ (wr (a4 + 1)) ∧ (wr (a4 + 1)) < gm s 61 1 0 then bn0 (FL_song a1 (gm s 61 0 (wr (a4 + 1))) a3 s) fun x1 s1 => if 0 ≤ (wr (a4 + 1)) ∧ (wr (a4 + 1)) < gm s1 61 1 0 then bnd (FX12_song a2 (gm s1 61 0 (wr (a4 + 1))) s1) fun x2 s2 => bnd (FX12_thrown a2 s2) fun x3 s3 => if x3 = x1 then fL_law_475 kb a0 a1 a2 a3 a4 x1 x2 s3 else if (0 : Int) = 0 ∨ (0 : Int) = 1 then some (0, 0, s3) else none else none else none
noncomputable def fL_law_436 (kb : Co) (a0 a1 a2 a3 a4 : Int) (s : St) : Res := fL_law_2636 kb a0 a1 a2 a3 a4 s
noncomputable def fL_law_419 (kb : Co) (a0 a1 a2 a3 a4 a5 a6 : Int) (s : St) : Res := if a5 = 0 then (if 0 ≤ 0 ∧ 0 < 1 then if (icp (gm s 60 a3 0) a6) = 0 then fL_law_436 kb a0 a1 a2 a3 a4 s else if (0 : Int) = 0 ∨ (0 : Int) = 1 then some (0, 0, s) else none else none) else fL_law_436 kb a0 a1 a2 a3 a4 s
noncomputable def fL_law_359 (kb : Co) (a0 a1 a2 a3 a4 : Int) (s : St) : Res := if 0 ≤ (wr (a4 + 1)) ∧ (wr (a4 + 1)) < gm s 61 1 0 then if 0 ≤ (wr (a4 + 2)) ∧ (wr (a4 + 2)) < gm s 61 1 0 then if 0 ≤ (wr (a4 + 3)) ∧ (wr (a4 + 3)) < gm s 61 1 0 then bn0 (FL_theme a1 (gm s 61 0 (wr (a4 + 1))) (gm s 61 0 (wr (a4 + 2))) (gm s 61 0 (wr (a4 + 3))) a3 s) fun x1 s1 => if 0 ≤ (wr (a4 + 1)) ∧ (wr (a4 + 1)) < gm s1 61 1 0 then if 0 ≤ (wr (a4 + 2)) ∧ (wr (a4 + 2)) < gm s1 61 1 0 then if 0 ≤ (wr (a4 + 3)) ∧ (wr (a4 + 3)) < gm s1 61 1 0 then bnd (FX12_theme a2 (gm s1 61 0 (wr (a4 + 1))) (gm s1 61 0 (wr (a4 + 2))) (gm s1 61 0 (wr (a4 + 3))) s1) fun x2 s2 => bnd (FX12_thrown a2 s2) fun x3 s3 => if x3 = x1 then fL_law_419 kb a0 a1 a2 a3 a4 x1 x2 s3 else if (0 : Int) = 0 ∨ (0 : Int) = 1 then some (0, 0, s3) else none else none else none else none else none else none else none
noncomputable def fL_law_356 (kb : Co) (a0 a1 a2 a3 a4 : Int) (s : St) : Res := fL_law_2636 kb a0 a1 a2 a3 a4 s
noncomputable def fL_law_350 (kb : Co) (a0 a1 a2 a3 a4 y0 y1 : Int) (s : St) : Res := if (icp y1 y0) = 0 then fL_law_356 kb a0 a1 a2 a3 a4 s else if (0 : Int) = 0 ∨ (0 : Int) = 1 then some (0, 0, s) else none
noncomputable def fL_law_349 (kb : Co) (a0 a1 a2 a3 a4 y0 : Int) (s : St) : Res := fL_law_350 kb a0 a1 a2 a3 a4 0 y0 s
noncomputable def fL_law_332 (kb : Co) (a0 a1 a2 a3 a4 a5 a6 : Int) (s : St) : Res := if a5 = 0 then (if 0 ≤ 0 ∧ 0 < 1 then if a6 = 0 then fL_law_349 kb a0 a1 a2 a3 a4 (gm s 60 a3 0) s else fL_law_350 kb a0 a1 a2 a3 a4 1 (gm s 60 a3 0) s else none) else fL_law_356 kb a0 a1 a2 a3 a4 s
noncomputable def fL_law_316 (kb : Co) (a0 a1 a2 a3 a4 a5 y0 y1 y2 y3 : Int) (s : St) : Res := bnd (FX12_feud y3 y2 y1 y0 s) fun x1 s1 => bnd (FX12_thrown a2 s1) fun x2 s2 => if x2 = a5 then fL_law_332 kb a0 a1 a2 a3 a4 a5 x1 s2 else if (0 : Int) = 0 ∨ (0 : Int) = 1 then some (0, 0, s2) else none
noncomputable def fL_law_315 (kb : Co) (a0 a1 a2 a3 a4 a5 y0 y1 y2 : Int) (s : St) : Res := fL_law_316 kb a0 a1 a2 a3 a4 a5 0 y0 y1 y2 s
noncomputable def fL_law_283 (kb : Co) (a0 a1 a2 a3 a4 y0 y1 y2 y3 : Int) (s : St) : Res := bn0 (FL_feud y3 y2 y1 y0 a3 s) fun x1 s1 => if 0 ≤ (wr (a4 + 1)) ∧ (wr (a4 + 1)) < gm s1 61 1 0 then if 0 ≤ (wr (a4 + 2)) ∧ (wr (a4 + 2)) < gm s1 61 1 0 then if 0 ≤ (wr (a4 + 3)) ∧ (wr (a4 + 3)) < gm s1 61 1 0 then if (gm s1 61 0 (wr (a4 + 3))) = 0 then fL_law_315 kb a0 a1 a2 a3 a4 x1 (gm s1 61 0 (wr (a4 + 2))) (gm s1 61 0 (wr (a4 + 1))) a2 s1 else fL_law_316 kb a0 a1 a2 a3 a4 x1 1 (gm s1 61 0 (wr (a4 + 2))) (gm s1 61 0 (wr (a4 + 1))) a2 s1 else none else none else none
noncomputable def fL_law_282 (kb : Co) (a0 a1 a2 a3 a4 y0 y1 y2 : Int) (s : St) : Res := fL_law_283 kb a0 a1 a2 a3 a4 0 y0 y1 y2 s
noncomputable def fL_law_256 (kb : Co) (a0 a1 a2 a3 a4 : Int) (s : St) : Res := if 0 ≤ (wr (a4 + 1)) ∧ (wr (a4 + 1)) < gm s 61 1 0 then if 0 ≤ (wr (a4 + 2)) ∧ (wr (a4 + 2)) < gm s 61 1 0 then if 0 ≤ (wr (a4 + 3)) ∧ (wr (a4 + 3)) < gm s 61 1 0 then if (gm s 61 0 (wr (a4 + 3))) = 0 then fL_law_282 kb a0 a1 a2 a3 a4 (gm s 61 0 (wr (a4 + 2))) (gm s 61 0 (wr (a4 + 1))) a1 s else fL_law_283 kb a0 a1 a2 a3 a4 1 (gm s 61 0 (wr (a4 + 2))) (gm s 61 0 (wr (a4 + 1))) a1 s else none else none else none
noncomputable def fL_law_253 (kb : Co) (a0 a1 a2 a3 a4 : Int) (s : St) : Res := fL_law_2636 kb a0 a1 a2 a3 a4 s
noncomputable def fL_law_236 (kb : Co) (a0 a1 a2 a3 a4 a5 a6 : Int) (s : St) : Res := if a5 = 0 then (if 0 ≤ 0 ∧ 0 < 1 then if (icp (gm s 60 a3 0) a6) = 0 then fL_law_253 kb a0 a1 a2 a3 a4 s else if (0 : Int) = 0 ∨ (0 : Int) = 1 then some (0, 0, s) else none else none) else fL_law_253 kb a0 a1 a2 a3 a4 s
noncomputable def fL_law_188 (kb : Co) (a0 a1 a2 a3 a4 : Int) (s : St) : Res := if 0 ≤ (wr (a4 + 1)) ∧ (wr (a4 + 1)) < gm s 61 1 0 then if 0 ≤ (wr (a4 + 2)) ∧ (wr (a4 + 2)) < gm s 61 1 0 then bn0 (FL_society a1 (gm s 61 0 (wr (a4 + 1))) (gm s 61 0 (wr (a4 + 2))) a3 s) fun x1 s1 => if 0 ≤ (wr (a4 + 1)) ∧ (wr (a4 + 1)) < gm s1 61 1 0 then if 0 ≤ (wr (a4 + 2)) ∧ (wr (a4 + 2)) < gm s1 61 1 0 then bnd (FX12_society a2 (gm s1 61 0 (wr (a4 + 1))) (gm s1 61 0 (wr (a4 + 2))) s1) fun x2 s2 => bnd (FX12_thrown a2 s2) fun x3 s3 => if x3 = x1 then fL_law_236 kb a0 a1 a2 a3 a4 x1 x2 s3 else if (0 : Int) = 0 ∨ (0 : Int) = 1 then some (0, 0, s3) else none else none else none else none else none
noncomputable def fL_law_23 (kb : Co) (a0 a1 a2 a3 a4 : Int) (s : St) : Res := if (wr ((gm s 61 1 0) - 7)) < a4 then fL_law_2642 kb s else if 0 ≤ a4 ∧ a4 < gm s 61 1 0 then if (iand (gm s 61 0 a4) 63) = 0 then fL_law_188 kb a0 a1 a2 a3 a4 s else if (iand (gm s 61 0 a4) 63) = 1 then fL_law_256 kb a0 a1 a2 a3 a4 s else if (iand (gm s 61 0 a4) 63) = 2 then fL_law_359 kb a0 a1 a2 a3 a4 s else if (iand (gm s 61 0 a4) 63) = 3 then fL_law_439 kb a0 a1 a2 a3 a4 s else if (iand (gm s 61 0 a4) 63) = 4 then fL_law_495 kb a0 a1 a2 a3 a4 s else if (iand (gm s 61 0 a4) 63) = 5 then fL_law_575 kb a0 a1 a2 a3 a4 s else if (iand (gm s 61 0 a4) 63) = 6 then fL_law_631 kb a0 a1 a2 a3 a4 s else if (iand (gm s 61 0 a4) 63) = 7 then fL_law_749 kb a0 a1 a2 a3 a4 s else if (iand (gm s 61 0 a4) 63) = 8 then fL_law_797 kb a0 a1 a2 a3 a4 s else if (iand (gm s 61 0 a4) 63) = 9 then fL_law_865 kb a0 a1 a2 a3 a4 s else if (iand (gm s 61 0 a4) 63) = 10 then fL_law_956 kb a0 a1 a2 a3 a4 s else if (iand (gm s 61 0 a4) 63) = 11 then fL_law_1060 kb a0 a1 a2 a3 a4 s else if (iand (gm s 61 0 a4) 63) = 12 then fL_law_1178 kb a0 a1 a2 a3 a4 s else if (iand (gm s 61 0 a4) 63) = 13 then fL_law_1253 kb a0 a1 a2 a3 a4 s else if (iand (gm s 61 0 a4) 63) = 14 then fL_law_1321 kb a0 a1 a2 a3 a4 s else if (iand (gm s 61 0 a4) 63) = 15 then fL_law_1396 kb a0 a1 a2 a3 a4 s else if (iand (gm s 61 0 a4) 63) = 16 then fL_law_1464 kb a0 a1 a2 a3 a4 s else if (iand (gm s 61 0 a4) 63) = 17 then fL_law_1544 kb a0 a1 a2 a3 a4 s else if (iand (gm s 61 0 a4) 63) = 18 then fL_law_1624 kb a0 a1 a2 a3 a4 s else if (iand (gm s 61 0 a4) 63) = 19 then fL_law_1665 kb a0 a1 a2 a3 a4 s else if (iand (gm s 61 0 a4) 63) = 20 then fL_law_1721 kb a0 a1 a2 a3 a4 s else if (iand (gm s 61 0 a4) 63) = 21 then fL_law_1789 kb a0 a1 a2 a3 a4 s else if (iand (gm s 61 0 a4) 63) = 22 then fL_law_1869 kb a0 a1 a2 a3 a4 s else if (iand (gm s 61 0 a4) 63) = 23 then fL_law_1937 kb a0 a1 a2 a3 a4 s else if (iand (gm s 61 0 a4) 63) = 24 then fL_law_2029 kb a0 a1 a2 a3 a4 s else if (iand (gm s 61 0 a4) 63) = 25 then fL_law_2109 kb a0 a1 a2 a3 a4 s else if (iand (gm s 61 0 a4) 63) = 26 then fL_law_2177 kb a0 a1 a2 a3 a4 s else if (iand (gm s 61 0 a4) 63) = 27 then fL_law_2233 kb a0 a1 a2 a3 a4 s else if (iand (gm s 61 0 a4) 63) = 28 then fL_law_2277 kb a0 a1 a2 a3 a4 s else if (iand (gm s 61 0 a4) 63) = 29 then fL_law_2345 kb a0 a1 a2 a3 a4 s else if (iand (gm s 61 0 a4) 63) = 30 then fL_law_2413 kb a0 a1 a2 a3 a4 s else if (iand (gm s 61 0 a4) 63) = 31 then fL_law_2493 kb a0 a1 a2 a3 a4 s else if (iand (gm s 61 0 a4) 63) = 32 then fL_law_2568 kb a0 a1 a2 a3 a4 s else fL_law_2636 kb a0 a1 a2 a3 a4 s else none
noncomputable def fL_law_20 (kb : Co) (a0 a1 a2 a3 : Int) (s : St) : Res := fL_law_23 kb a0 a1 a2 a3 0 s
noncomputable def tL_law_2642 (kb : Co) : List Rw := []
noncomputable def tL_law_2636 (kb : Co) : List Rw := (2642, [(7, 0), (7, 0), (7, 0), (7, 0), (7, 0), (7, 0), (7, 0)], [], fun xs ys s => fL_law_2642 kb s) :: tL_law_2642 kb
noncomputable def tL_law_2633 (kb : Co) : List Rw := (2636, [(5, 0), (3, 11), (3, 12), (3, 60), (0, 0), (7, 0), (7, 0)], [], fun xs ys s => fL_law_2636 kb (xs.getD 0 0) (xs.getD 1 0) (xs.getD 2 0) (xs.getD 3 0) (xs.getD 4 0) s) :: tL_law_2636 kb
noncomputable def tL_law_2616 (kb : Co) : List Rw := (2633, [(5, 0), (3, 11), (3, 12), (3, 60), (0, 0), (7, 0), (7, 0)], [], fun xs ys s => fL_law_2633 kb (xs.getD 0 0) (xs.getD 1 0) (xs.getD 2 0) (xs.getD 3 0) (xs.getD 4 0) s) :: tL_law_2633 kb
noncomputable def tL_law_2568 (kb : Co) : List Rw := (2616, [(5, 0), (3, 11), (3, 12), (3, 60), (0, 0), (0, 0), (0, 0)], [], fun xs ys s => fL_law_2616 kb (xs.getD 0 0) (xs.getD 1 0) (xs.getD 2 0) (xs.getD 3 0) (xs.getD 4 0) (xs.getD 5 0) (xs.getD 6 0) s) :: tL_law_2616 kb
noncomputable def tL_law_2565 (kb : Co) : List Rw := (2568, [(5, 0), (3, 11), (3, 12), (3, 60), (0, 0), (7, 0), (7, 0)], [], fun xs ys s => fL_law_2568 kb (xs.getD 0 0) (xs.getD 1 0) (xs.getD 2 0) (xs.getD 3 0) (xs.getD 4 0) s) :: tL_law_2568 kb
noncomputable def tL_law_2559 (kb : Co) : List Rw := (2565, [(5, 0), (3, 11), (3, 12), (3, 60), (0, 0), (7, 0), (7, 0)], [], fun xs ys s => fL_law_2565 kb (xs.getD 0 0) (xs.getD 1 0) (xs.getD 2 0) (xs.getD 3 0) (xs.getD 4 0) s) :: tL_law_2565 kb
noncomputable def tL_law_2558 (kb : Co) : List Rw := (2559, [(5, 0), (3, 11), (3, 12), (3, 60), (0, 0), (7, 0), (7, 0)], [(1, 0), (1, 0)], fun xs ys s => fL_law_2559 kb (xs.getD 0 0) (xs.getD 1 0) (xs.getD 2 0) (xs.getD 3 0) (xs.getD 4 0) (ys.getD 0 0) (ys.getD 1 0) s) :: tL_law_2559 kb
noncomputable def tL_law_2541 (kb : Co) : List Rw := (2558, [(5, 0), (3, 11), (3, 12), (3, 60), (0, 0), (7, 0), (7, 0)], [(1, 0)], fun xs ys s => fL_law_2558 kb (xs.getD 0 0) (xs.getD 1 0) (xs.getD 2 0) (xs.getD 3 0) (xs.getD 4 0) (ys.getD 0 0) s) :: tL_law_2558 kb
noncomputable def tL_law_2493 (kb : Co) : List Rw := (2541, [(5, 0), (3, 11), (3, 12), (3, 60), (0, 0), (0, 0), (0, 0)], [], fun xs ys s => fL_law_2541 kb (xs.getD 0 0) (xs.getD 1 0) (xs.getD 2 0) (xs.getD 3 0) (xs.getD 4 0) (xs.getD 5 0) (xs.getD 6 0) s) :: tL_law_2541 kb
noncomputable def tL_law_2490 (kb : Co) : List Rw := (2493, [(5, 0), (3, 11), (3, 12), (3, 60), (0, 0), (7, 0), (7, 0)], [], fun xs ys s => fL_law_2493 kb (xs.getD 0 0) (xs.getD 1 0) (xs.getD 2 0) (xs.getD 3 0) (xs.getD 4 0) s) :: tL_law_2493 kb
noncomputable def tL_law_2473 (kb : Co) : List Rw := (2490, [(5, 0), (3, 11), (3, 12), (3, 60), (0, 0), (7, 0), (7, 0)], [], fun xs ys s => fL_law_2490 kb (xs.getD 0 0) (xs.getD 1 0) (xs.getD 2 0) (xs.getD 3 0) (xs.getD 4 0) s) :: tL_law_2490 kb
noncomputable def tL_law_2413 (kb : Co) : List Rw := (2473, [(5, 0), (3, 11), (3, 12), (3, 60), (0, 0), (0, 0), (0, 0)], [], fun xs ys s => fL_law_2473 kb (xs.getD 0 0) (xs.getD 1 0) (xs.getD 2 0) (xs.getD 3 0) (xs.getD 4 0) (xs.getD 5 0) (xs.getD 6 0) s) :: tL_law_2473 kb
noncomputable def tL_law_2410 (kb : Co) : List Rw := (2413, [(5, 0), (3, 11), (3, 12), (3, 60), (0, 0), (7, 0), (7, 0)], [], fun xs ys s => fL_law_2413 kb (xs.getD 0 0) (xs.getD 1 0) (xs.getD 2 0) (xs.getD 3 0) (xs.getD 4 0) s) :: tL_law_2413 kb
noncomputable def tL_law_2393 (kb : Co) : List Rw := (2410, [(5, 0), (3, 11), (3, 12), (3, 60), (0, 0), (7, 0), (7, 0)], [], fun xs ys s => fL_law_2410 kb (xs.getD 0 0) (xs.getD 1 0) (xs.getD 2 0) (xs.getD 3 0) (xs.getD 4 0) s) :: tL_law_2410 kb
noncomputable def tL_law_2345 (kb : Co) : List Rw := (2393, [(5, 0), (3, 11), (3, 12), (3, 60), (0, 0), (0, 0), (0, 0)], [], fun xs ys s => fL_law_2393 kb (xs.getD 0 0) (xs.getD 1 0) (xs.getD 2 0) (xs.getD 3 0) (xs.getD 4 0) (xs.getD 5 0) (xs.getD 6 0) s) :: tL_law_2393 kb
noncomputable def tL_law_2342 (kb : Co) : List Rw := (2345, [(5, 0), (3, 11), (3, 12), (3, 60), (0, 0), (7, 0), (7, 0)], [], fun xs ys s => fL_law_2345 kb (xs.getD 0 0) (xs.getD 1 0) (xs.getD 2 0) (xs.getD 3 0) (xs.getD 4 0) s) :: tL_law_2345 kb
noncomputable def tL_law_2325 (kb : Co) : List Rw := (2342, [(5, 0), (3, 11), (3, 12), (3, 60), (0, 0), (7, 0), (7, 0)], [], fun xs ys s => fL_law_2342 kb (xs.getD 0 0) (xs.getD 1 0) (xs.getD 2 0) (xs.getD 3 0) (xs.getD 4 0) s) :: tL_law_2342 kb
noncomputable def tL_law_2277 (kb : Co) : List Rw := (2325, [(5, 0), (3, 11), (3, 12), (3, 60), (0, 0), (0, 0), (0, 0)], [], fun xs ys s => fL_law_2325 kb (xs.getD 0 0) (xs.getD 1 0) (xs.getD 2 0) (xs.getD 3 0) (xs.getD 4 0) (xs.getD 5 0) (xs.getD 6 0) s) :: tL_law_2325 kb
noncomputable def tL_law_2274 (kb : Co) : List Rw := (2277, [(5, 0), (3, 11), (3, 12), (3, 60), (0, 0), (7, 0), (7, 0)], [], fun xs ys s => fL_law_2277 kb (xs.getD 0 0) (xs.getD 1 0) (xs.getD 2 0) (xs.getD 3 0) (xs.getD 4 0) s) :: tL_law_2277 kb
noncomputable def tL_law_2257 (kb : Co) : List Rw := (2274, [(5, 0), (3, 11), (3, 12), (3, 60), (0, 0), (7, 0), (7, 0)], [], fun xs ys s => fL_law_2274 kb (xs.getD 0 0) (xs.getD 1 0) (xs.getD 2 0) (xs.getD 3 0) (xs.getD 4 0) s) :: tL_law_2274 kb
noncomputable def tL_law_2233 (kb : Co) : List Rw := (2257, [(5, 0), (3, 11), (3, 12), (3, 60), (0, 0), (0, 0), (0, 0)], [], fun xs ys s => fL_law_2257 kb (xs.getD 0 0) (xs.getD 1 0) (xs.getD 2 0) (xs.getD 3 0) (xs.getD 4 0) (xs.getD 5 0) (xs.getD 6 0) s) :: tL_law_2257 kb
noncomputable def tL_law_2230 (kb : Co) : List Rw := (2233, [(5, 0), (3, 11), (3, 12), (3, 60), (0, 0), (7, 0), (7, 0)], [], fun xs ys s => fL_law_2233 kb (xs.getD 0 0) (xs.getD 1 0) (xs.getD 2 0) (xs.getD 3 0) (xs.getD 4 0) s) :: tL_law_2233 kb
noncomputable def tL_law_2213 (kb : Co) : List Rw := (2230, [(5, 0), (3, 11), (3, 12), (3, 60), (0, 0), (7, 0), (7, 0)], [], fun xs ys s => fL_law_2230 kb (xs.getD 0 0) (xs.getD 1 0) (xs.getD 2 0) (xs.getD 3 0) (xs.getD 4 0) s) :: tL_law_2230 kb
noncomputable def tL_law_2177 (kb : Co) : List Rw := (2213, [(5, 0), (3, 11), (3, 12), (3, 60), (0, 0), (0, 0), (0, 0)], [], fun xs ys s => fL_law_2213 kb (xs.getD 0 0) (xs.getD 1 0) (xs.getD 2 0) (xs.getD 3 0) (xs.getD 4 0) (xs.getD 5 0) (xs.getD 6 0) s) :: tL_law_2213 kb
noncomputable def tL_law_2174 (kb : Co) : List Rw := (2177, [(5, 0), (3, 11), (3, 12), (3, 60), (0, 0), (7, 0), (7, 0)], [], fun xs ys s => fL_law_2177 kb (xs.getD 0 0) (xs.getD 1 0) (xs.getD 2 0) (xs.getD 3 0) (xs.getD 4 0) s) :: tL_law_2177 kb
noncomputable def tL_law_2157 (kb : Co) : List Rw := (2174, [(5, 0), (3, 11), (3, 12), (3, 60), (0, 0), (7, 0), (7, 0)], [], fun xs ys s => fL_law_2174 kb (xs.getD 0 0) (xs.getD 1 0) (xs.getD 2 0) (xs.getD 3 0) (xs.getD 4 0) s) :: tL_law_2174 kb
noncomputable def tL_law_2109 (kb : Co) : List Rw := (2157, [(5, 0), (3, 11), (3, 12), (3, 60), (0, 0), (0, 0), (0, 0)], [], fun xs ys s => fL_law_2157 kb (xs.getD 0 0) (xs.getD 1 0) (xs.getD 2 0) (xs.getD 3 0) (xs.getD 4 0) (xs.getD 5 0) (xs.getD 6 0) s) :: tL_law_2157 kb
noncomputable def tL_law_2106 (kb : Co) : List Rw := (2109, [(5, 0), (3, 11), (3, 12), (3, 60), (0, 0), (7, 0), (7, 0)], [], fun xs ys s => fL_law_2109 kb (xs.getD 0 0) (xs.getD 1 0) (xs.getD 2 0) (xs.getD 3 0) (xs.getD 4 0) s) :: tL_law_2109 kb
noncomputable def tL_law_2089 (kb : Co) : List Rw := (2106, [(5, 0), (3, 11), (3, 12), (3, 60), (0, 0), (7, 0), (7, 0)], [], fun xs ys s => fL_law_2106 kb (xs.getD 0 0) (xs.getD 1 0) (xs.getD 2 0) (xs.getD 3 0) (xs.getD 4 0) s) :: tL_law_2106 kb
noncomputable def tL_law_2029 (kb : Co) : List Rw := (2089, [(5, 0), (3, 11), (3, 12), (3, 60), (0, 0), (0, 0), (0, 0)], [], fun xs ys s => fL_law_2089 kb (xs.getD 0 0) (xs.getD 1 0) (xs.getD 2 0) (xs.getD 3 0) (xs.getD 4 0) (xs.getD 5 0) (xs.getD 6 0) s) :: tL_law_2089 kb
noncomputable def tL_law_2026 (kb : Co) : List Rw := (2029, [(5, 0), (3, 11), (3, 12), (3, 60), (0, 0), (7, 0), (7, 0)], [], fun xs ys s => fL_law_2029 kb (xs.getD 0 0) (xs.getD 1 0) (xs.getD 2 0) (xs.getD 3 0) (xs.getD 4 0) s) :: tL_law_2029 kb
noncomputable def tL_law_2009 (kb : Co) : List Rw := (2026, [(5, 0), (3, 11), (3, 12), (3, 60), (0, 0), (7, 0), (7, 0)], [], fun xs ys s => fL_law_2026 kb (xs.getD 0 0) (xs.getD 1 0) (xs.getD 2 0) (xs.getD 3 0) (xs.getD 4 0) s) :: tL_law_2026 kb
noncomputable def tL_law_1937 (kb : Co) : List Rw := (2009, [(5, 0), (3, 11), (3, 12), (3, 60), (0, 0), (0, 0), (0, 0)], [], fun xs ys s => fL_law_2009 kb (xs.getD 0 0) (xs.getD 1 0) (xs.getD 2 0) (xs.getD 3 0) (xs.getD 4 0) (xs.getD 5 0) (xs.getD 6 0) s) :: tL_law_2009 kb
noncomputable def tL_law_1934 (kb : Co) : List Rw := (1937, [(5, 0), (3, 11), (3, 12), (3, 60), (0, 0), (7, 0), (7, 0)], [], fun xs ys s => fL_law_1937 kb (xs.getD 0 0) (xs.getD 1 0) (xs.getD 2 0) (xs.getD 3 0) (xs.getD 4 0) s) :: tL_law_1937 kb
noncomputable def tL_law_1917 (kb : Co) : List Rw := (1934, [(5, 0), (3, 11), (3, 12), (3, 60), (0, 0), (7, 0), (7, 0)], [], fun xs ys s => fL_law_1934 kb (xs.getD 0 0) (xs.getD 1 0) (xs.getD 2 0) (xs.getD 3 0) (xs.getD 4 0) s) :: tL_law_1934 kb
noncomputable def tL_law_1869 (kb : Co) : List Rw := (1917, [(5, 0), (3, 11), (3, 12), (3, 60), (0, 0), (0, 0), (0, 0)], [], fun xs ys s => fL_law_1917 kb (xs.getD 0 0) (xs.getD 1 0) (xs.getD 2 0) (xs.getD 3 0) (xs.getD 4 0) (xs.getD 5 0) (xs.getD 6 0) s) :: tL_law_1917 kb
noncomputable def tL_law_1866 (kb : Co) : List Rw := (1869, [(5, 0), (3, 11), (3, 12), (3, 60), (0, 0), (7, 0), (7, 0)], [], fun xs ys s => fL_law_1869 kb (xs.getD 0 0) (xs.getD 1 0) (xs.getD 2 0) (xs.getD 3 0) (xs.getD 4 0) s) :: tL_law_1869 kb
noncomputable def tL_law_1849 (kb : Co) : List Rw := (1866, [(5, 0), (3, 11), (3, 12), (3, 60), (0, 0), (7, 0), (7, 0)], [], fun xs ys s => fL_law_1866 kb (xs.getD 0 0) (xs.getD 1 0) (xs.getD 2 0) (xs.getD 3 0) (xs.getD 4 0) s) :: tL_law_1866 kb
noncomputable def tL_law_1789 (kb : Co) : List Rw := (1849, [(5, 0), (3, 11), (3, 12), (3, 60), (0, 0), (0, 0), (0, 0)], [], fun xs ys s => fL_law_1849 kb (xs.getD 0 0) (xs.getD 1 0) (xs.getD 2 0) (xs.getD 3 0) (xs.getD 4 0) (xs.getD 5 0) (xs.getD 6 0) s) :: tL_law_1849 kb
noncomputable def tL_law_1786 (kb : Co) : List Rw := (1789, [(5, 0), (3, 11), (3, 12), (3, 60), (0, 0), (7, 0), (7, 0)], [], fun xs ys s => fL_law_1789 kb (xs.getD 0 0) (xs.getD 1 0) (xs.getD 2 0) (xs.getD 3 0) (xs.getD 4 0) s) :: tL_law_1789 kb
noncomputable def tL_law_1769 (kb : Co) : List Rw := (1786, [(5, 0), (3, 11), (3, 12), (3, 60), (0, 0), (7, 0), (7, 0)], [], fun xs ys s => fL_law_1786 kb (xs.getD 0 0) (xs.getD 1 0) (xs.getD 2 0) (xs.getD 3 0) (xs.getD 4 0) s) :: tL_law_1786 kb
noncomputable def tL_law_1721 (kb : Co) : List Rw := (1769, [(5, 0), (3, 11), (3, 12), (3, 60), (0, 0), (0, 0), (0, 0)], [], fun xs ys s => fL_law_1769 kb (xs.getD 0 0) (xs.getD 1 0) (xs.getD 2 0) (xs.getD 3 0) (xs.getD 4 0) (xs.getD 5 0) (xs.getD 6 0) s) :: tL_law_1769 kb
noncomputable def tL_law_1718 (kb : Co) : List Rw := (1721, [(5, 0), (3, 11), (3, 12), (3, 60), (0, 0), (7, 0), (7, 0)], [], fun xs ys s => fL_law_1721 kb (xs.getD 0 0) (xs.getD 1 0) (xs.getD 2 0) (xs.getD 3 0) (xs.getD 4 0) s) :: tL_law_1721 kb
noncomputable def tL_law_1701 (kb : Co) : List Rw := (1718, [(5, 0), (3, 11), (3, 12), (3, 60), (0, 0), (7, 0), (7, 0)], [], fun xs ys s => fL_law_1718 kb (xs.getD 0 0) (xs.getD 1 0) (xs.getD 2 0) (xs.getD 3 0) (xs.getD 4 0) s) :: tL_law_1718 kb
noncomputable def tL_law_1665 (kb : Co) : List Rw := (1701, [(5, 0), (3, 11), (3, 12), (3, 60), (0, 0), (0, 0), (0, 0)], [], fun xs ys s => fL_law_1701 kb (xs.getD 0 0) (xs.getD 1 0) (xs.getD 2 0) (xs.getD 3 0) (xs.getD 4 0) (xs.getD 5 0) (xs.getD 6 0) s) :: tL_law_1701 kb
noncomputable def tL_law_1657 (kb : Co) : List Rw := (1665, [(5, 0), (3, 11), (3, 12), (3, 60), (0, 0), (7, 0), (7, 0)], [], fun xs ys s => fL_law_1665 kb (xs.getD 0 0) (xs.getD 1 0) (xs.getD 2 0) (xs.getD 3 0) (xs.getD 4 0) s) :: tL_law_1665 kb
noncomputable def tL_law_1656 (kb : Co) : List Rw := (1657, [(5, 0), (3, 11), (3, 12), (3, 60), (0, 0), (7, 0), (7, 0)], [(0, 0), (3, 12), (0, 0)], fun xs ys s => fL_law_1657 kb (xs.getD 0 0) (xs.getD 1 0) (xs.getD 2 0) (xs.getD 3 0) (xs.getD 4 0) (ys.getD 0 0) (ys.getD 1 0) (ys.getD 2 0) s) :: tL_law_1657 kb
noncomputable def tL_law_1639 (kb : Co) : List Rw := (1656, [(5, 0), (3, 11), (3, 12), (3, 60), (0, 0), (7, 0), (7, 0)], [(3, 12), (0, 0)], fun xs ys s => fL_law_1656 kb (xs.getD 0 0) (xs.getD 1 0) (xs.getD 2 0) (xs.getD 3 0) (xs.getD 4 0) (ys.getD 0 0) (ys.getD 1 0) s) :: tL_law_1656 kb
noncomputable def tL_law_1638 (kb : Co) : List Rw := (1639, [(5, 0), (3, 11), (3, 12), (3, 60), (0, 0), (7, 0), (7, 0)], [(0, 0), (3, 11)], fun xs ys s => fL_law_1639 kb (xs.getD 0 0) (xs.getD 1 0) (xs.getD 2 0) (xs.getD 3 0) (xs.getD 4 0) (ys.getD 0 0) (ys.getD 1 0) s) :: tL_law_1639 kb
noncomputable def tL_law_1624 (kb : Co) : List Rw := (1638, [(5, 0), (3, 11), (3, 12), (3, 60), (0, 0), (7, 0), (7, 0)], [(3, 11)], fun xs ys s => fL_law_1638 kb (xs.getD 0 0) (xs.getD 1 0) (xs.getD 2 0) (xs.getD 3 0) (xs.getD 4 0) (ys.getD 0 0) s) :: tL_law_1638 kb
noncomputable def tL_law_1621 (kb : Co) : List Rw := (1624, [(5, 0), (3, 11), (3, 12), (3, 60), (0, 0), (7, 0), (7, 0)], [], fun xs ys s => fL_law_1624 kb (xs.getD 0 0) (xs.getD 1 0) (xs.getD 2 0) (xs.getD 3 0) (xs.getD 4 0) s) :: tL_law_1624 kb
noncomputable def tL_law_1604 (kb : Co) : List Rw := (1621, [(5, 0), (3, 11), (3, 12), (3, 60), (0, 0), (7, 0), (7, 0)], [], fun xs ys s => fL_law_1621 kb (xs.getD 0 0) (xs.getD 1 0) (xs.getD 2 0) (xs.getD 3 0) (xs.getD 4 0) s) :: tL_law_1621 kb
noncomputable def tL_law_1544 (kb : Co) : List Rw := (1604, [(5, 0), (3, 11), (3, 12), (3, 60), (0, 0), (0, 0), (0, 0)], [], fun xs ys s => fL_law_1604 kb (xs.getD 0 0) (xs.getD 1 0) (xs.getD 2 0) (xs.getD 3 0) (xs.getD 4 0) (xs.getD 5 0) (xs.getD 6 0) s) :: tL_law_1604 kb
noncomputable def tL_law_1541 (kb : Co) : List Rw := (1544, [(5, 0), (3, 11), (3, 12), (3, 60), (0, 0), (7, 0), (7, 0)], [], fun xs ys s => fL_law_1544 kb (xs.getD 0 0) (xs.getD 1 0) (xs.getD 2 0) (xs.getD 3 0) (xs.getD 4 0) s) :: tL_law_1544 kb
noncomputable def tL_law_1524 (kb : Co) : List Rw := (1541, [(5, 0), (3, 11), (3, 12), (3, 60), (0, 0), (7, 0), (7, 0)], [], fun xs ys s => fL_law_1541 kb (xs.getD 0 0) (xs.getD 1 0) (xs.getD 2 0) (xs.getD 3 0) (xs.getD 4 0) s) :: tL_law_1541 kb
noncomputable def tL_law_1464 (kb : Co) : List Rw := (1524, [(5, 0), (3, 11), (3, 12), (3, 60), (0, 0), (0, 0), (0, 0)], [], fun xs ys s => fL_law_1524 kb (xs.getD 0 0) (xs.getD 1 0) (xs.getD 2 0) (xs.getD 3 0) (xs.getD 4 0) (xs.getD 5 0) (xs.getD 6 0) s) :: tL_law_1524 kb
noncomputable def tL_law_1461 (kb : Co) : List Rw := (1464, [(5, 0), (3, 11), (3, 12), (3, 60), (0, 0), (7, 0), (7, 0)], [], fun xs ys s => fL_law_1464 kb (xs.getD 0 0) (xs.getD 1 0) (xs.getD 2 0) (xs.getD 3 0) (xs.getD 4 0) s) :: tL_law_1464 kb
noncomputable def tL_law_1444 (kb : Co) : List Rw := (1461, [(5, 0), (3, 11), (3, 12), (3, 60), (0, 0), (7, 0), (7, 0)], [], fun xs ys s => fL_law_1461 kb (xs.getD 0 0) (xs.getD 1 0) (xs.getD 2 0) (xs.getD 3 0) (xs.getD 4 0) s) :: tL_law_1461 kb
noncomputable def tL_law_1396 (kb : Co) : List Rw := (1444, [(5, 0), (3, 11), (3, 12), (3, 60), (0, 0), (0, 0), (0, 0)], [], fun xs ys s => fL_law_1444 kb (xs.getD 0 0) (xs.getD 1 0) (xs.getD 2 0) (xs.getD 3 0) (xs.getD 4 0) (xs.getD 5 0) (xs.getD 6 0) s) :: tL_law_1444 kb
noncomputable def tL_law_1393 (kb : Co) : List Rw := (1396, [(5, 0), (3, 11), (3, 12), (3, 60), (0, 0), (7, 0), (7, 0)], [], fun xs ys s => fL_law_1396 kb (xs.getD 0 0) (xs.getD 1 0) (xs.getD 2 0) (xs.getD 3 0) (xs.getD 4 0) s) :: tL_law_1396 kb
noncomputable def tL_law_1387 (kb : Co) : List Rw := (1393, [(5, 0), (3, 11), (3, 12), (3, 60), (0, 0), (7, 0), (7, 0)], [], fun xs ys s => fL_law_1393 kb (xs.getD 0 0) (xs.getD 1 0) (xs.getD 2 0) (xs.getD 3 0) (xs.getD 4 0) s) :: tL_law_1393 kb
noncomputable def tL_law_1386 (kb : Co) : List Rw := (1387, [(5, 0), (3, 11), (3, 12), (3, 60), (0, 0), (7, 0), (7, 0)], [(1, 0), (1, 0)], fun xs ys s => fL_law_1387 kb (xs.getD 0 0) (xs.getD 1 0) (xs.getD 2 0) (xs.getD 3 0) (xs.getD 4 0) (ys.getD 0 0) (ys.getD 1 0) s) :: tL_law_1387 kb
noncomputable def tL_law_1369 (kb : Co) : List Rw := (1386, [(5, 0), (3, 11), (3, 12), (3, 60), (0, 0), (7, 0), (7, 0)], [(1, 0)], fun xs ys s => fL_law_1386 kb (xs.getD 0 0) (xs.getD 1 0) (xs.getD 2 0) (xs.getD 3 0) (xs.getD 4 0) (ys.getD 0 0) s) :: tL_law_1386 kb
noncomputable def tL_law_1321 (kb : Co) : List Rw := (1369, [(5, 0), (3, 11), (3, 12), (3, 60), (0, 0), (0, 0), (0, 0)], [], fun xs ys s => fL_law_1369 kb (xs.getD 0 0) (xs.getD 1 0) (xs.getD 2 0) (xs.getD 3 0) (xs.getD 4 0) (xs.getD 5 0) (xs.getD 6 0) s) :: tL_law_1369 kb
noncomputable def tL_law_1318 (kb : Co) : List Rw := (1321, [(5, 0), (3, 11), (3, 12), (3, 60), (0, 0), (7, 0), (7, 0)], [], fun xs ys s => fL_law_1321 kb (xs.getD 0 0) (xs.getD 1 0) (xs.getD 2 0) (xs.getD 3 0) (xs.getD 4 0) s) :: tL_law_1321 kb
noncomputable def tL_law_1301 (kb : Co) : List Rw := (1318, [(5, 0), (3, 11), (3, 12), (3, 60), (0, 0), (7, 0), (7, 0)], [], fun xs ys s => fL_law_1318 kb (xs.getD 0 0) (xs.getD 1 0) (xs.getD 2 0) (xs.getD 3 0) (xs.getD 4 0) s) :: tL_law_1318 kb
noncomputable def tL_law_1253 (kb : Co) : List Rw := (1301, [(5, 0), (3, 11), (3, 12), (3, 60), (0, 0), (0, 0), (0, 0)], [], fun xs ys s => fL_law_1301 kb (xs.getD 0 0) (xs.getD 1 0) (xs.getD 2 0) (xs.getD 3 0) (xs.getD 4 0) (xs.getD 5 0) (xs.getD 6 0) s) :: tL_law_1301 kb
noncomputable def tL_law_1250 (kb : Co) : List Rw := (1253, [(5, 0), (3, 11), (3, 12), (3, 60), (0, 0), (7, 0), (7, 0)], [], fun xs ys s => fL_law_1253 kb (xs.getD 0 0) (xs.getD 1 0) (xs.getD 2 0) (xs.getD 3 0) (xs.getD 4 0) s) :: tL_law_1253 kb
noncomputable def tL_law_1244 (kb : Co) : List Rw := (1250, [(5, 0), (3, 11), (3, 12), (3, 60), (0, 0), (7, 0), (7, 0)], [], fun xs ys s => fL_law_1250 kb (xs.getD 0 0) (xs.getD 1 0) (xs.getD 2 0) (xs.getD 3 0) (xs.getD 4 0) s) :: tL_law_1250 kb
noncomputable def tL_law_1243 (kb : Co) : List Rw := (1244, [(5, 0), (3, 11), (3, 12), (3, 60), (0, 0), (7, 0), (7, 0)], [(1, 0), (1, 0)], fun xs ys s => fL_law_1244 kb (xs.getD 0 0) (xs.getD 1 0) (xs.getD 2 0) (xs.getD 3 0) (xs.getD 4 0) (ys.getD 0 0) (ys.getD 1 0) s) :: tL_law_1244 kb
noncomputable def tL_law_1226 (kb : Co) : List Rw := (1243, [(5, 0), (3, 11), (3, 12), (3, 60), (0, 0), (7, 0), (7, 0)], [(1, 0)], fun xs ys s => fL_law_1243 kb (xs.getD 0 0) (xs.getD 1 0) (xs.getD 2 0) (xs.getD 3 0) (xs.getD 4 0) (ys.getD 0 0) s) :: tL_law_1243 kb
noncomputable def tL_law_1178 (kb : Co) : List Rw := (1226, [(5, 0), (3, 11), (3, 12), (3, 60), (0, 0), (0, 0), (0, 0)], [], fun xs ys s => fL_law_1226 kb (xs.getD 0 0) (xs.getD 1 0) (xs.getD 2 0) (xs.getD 3 0) (xs.getD 4 0) (xs.getD 5 0) (xs.getD 6 0) s) :: tL_law_1226 kb
noncomputable def tL_law_1175 (kb : Co) : List Rw := (1178, [(5, 0), (3, 11), (3, 12), (3, 60), (0, 0), (7, 0), (7, 0)], [], fun xs ys s => fL_law_1178 kb (xs.getD 0 0) (xs.getD 1 0) (xs.getD 2 0) (xs.getD 3 0) (xs.getD 4 0) s) :: tL_law_1178 kb
noncomputable def tL_law_1158 (kb : Co) : List Rw := (1175, [(5, 0), (3, 11), (3, 12), (3, 60), (0, 0), (7, 0), (7, 0)], [], fun xs ys s => fL_law_1175 kb (xs.getD 0 0) (xs.getD 1 0) (xs.getD 2 0) (xs.getD 3 0) (xs.getD 4 0) s) :: tL_law_1175 kb
noncomputable def tL_law_1060 (kb : Co) : List Rw := (1158, [(5, 0), (3, 11), (3, 12), (3, 60), (0, 0), (0, 0), (0, 0)], [], fun xs ys s => fL_law_1158 kb (xs.getD 0 0) (xs.getD 1 0) (xs.getD 2 0) (xs.getD 3 0) (xs.getD 4 0) (xs.getD 5 0) (xs.getD 6 0) s) :: tL_law_1158 kb
noncomputable def tL_law_1057 (kb : Co) : List Rw := (1060, [(5, 0), (3, 11), (3, 12), (3, 60), (0, 0), (7, 0), (7, 0)], [], fun xs ys s => fL_law_1060 kb (xs.getD 0 0) (xs.getD 1 0) (xs.getD 2 0) (xs.getD 3 0) (xs.getD 4 0) s) :: tL_law_1060 kb
noncomputable def tL_law_1040 (kb : Co) : List Rw := (1057, [(5, 0), (3, 11), (3, 12), (3, 60), (0, 0), (7, 0), (7, 0)], [], fun xs ys s => fL_law_1057 kb (xs.getD 0 0) (xs.getD 1 0) (xs.getD 2 0) (xs.getD 3 0) (xs.getD 4 0) s) :: tL_law_1057 kb
noncomputable def tL_law_956 (kb : Co) : List Rw := (1040, [(5, 0), (3, 11), (3, 12), (3, 60), (0, 0), (0, 0), (0, 0)], [], fun xs ys s => fL_law_1040 kb (xs.getD 0 0) (xs.getD 1 0) (xs.getD 2 0) (xs.getD 3 0) (xs.getD 4 0) (xs.getD 5 0) (xs.getD 6 0) s) :: tL_law_1040 kb
noncomputable def tL_law_953 (kb : Co) : List Rw := (956, [(5, 0), (3, 11), (3, 12), (3, 60), (0, 0), (7, 0), (7, 0)], [], fun xs ys s => fL_law_956 kb (xs.getD 0 0) (xs.getD 1 0) (xs.getD 2 0) (xs.getD 3 0) (xs.getD 4 0) s) :: tL_law_956 kb
noncomputable def tL_law_947 (kb : Co) : List Rw := (953, [(5, 0), (3, 11), (3, 12), (3, 60), (0, 0), (7, 0), (7, 0)], [], fun xs ys s => fL_law_953 kb (xs.getD 0 0) (xs.getD 1 0) (xs.getD 2 0) (xs.getD 3 0) (xs.getD 4 0) s) :: tL_law_953 kb
noncomputable def tL_law_946 (kb : Co) : List Rw := (947, [(5, 0), (3, 11), (3, 12), (3, 60), (0, 0), (7, 0), (7, 0)], [(1, 0), (1, 0)], fun xs ys s => fL_law_947 kb (xs.getD 0 0) (xs.getD 1 0) (xs.getD 2 0) (xs.getD 3 0) (xs.getD 4 0) (ys.getD 0 0) (ys.getD 1 0) s) :: tL_law_947 kb
noncomputable def tL_law_929 (kb : Co) : List Rw := (946, [(5, 0), (3, 11), (3, 12), (3, 60), (0, 0), (7, 0), (7, 0)], [(1, 0)], fun xs ys s => fL_law_946 kb (xs.getD 0 0) (xs.getD 1 0) (xs.getD 2 0) (xs.getD 3 0) (xs.getD 4 0) (ys.getD 0 0) s) :: tL_law_946 kb
noncomputable def tL_law_913 (kb : Co) : List Rw := (929, [(5, 0), (3, 11), (3, 12), (3, 60), (0, 0), (0, 0), (0, 0)], [], fun xs ys s => fL_law_929 kb (xs.getD 0 0) (xs.getD 1 0) (xs.getD 2 0) (xs.getD 3 0) (xs.getD 4 0) (xs.getD 5 0) (xs.getD 6 0) s) :: tL_law_929 kb
noncomputable def tL_law_912 (kb : Co) : List Rw := (913, [(5, 0), (3, 11), (3, 12), (3, 60), (0, 0), (0, 0), (7, 0)], [(0, 0), (0, 0), (3, 12)], fun xs ys s => fL_law_913 kb (xs.getD 0 0) (xs.getD 1 0) (xs.getD 2 0) (xs.getD 3 0) (xs.getD 4 0) (xs.getD 5 0) (ys.getD 0 0) (ys.getD 1 0) (ys.getD 2 0) s) :: tL_law_913 kb
noncomputable def tL_law_886 (kb : Co) : List Rw := (912, [(5, 0), (3, 11), (3, 12), (3, 60), (0, 0), (0, 0), (7, 0)], [(0, 0), (3, 12)], fun xs ys s => fL_law_912 kb (xs.getD 0 0) (xs.getD 1 0) (xs.getD 2 0) (xs.getD 3 0) (xs.getD 4 0) (xs.getD 5 0) (ys.getD 0 0) (ys.getD 1 0) s) :: tL_law_912 kb
noncomputable def tL_law_885 (kb : Co) : List Rw := (886, [(5, 0), (3, 11), (3, 12), (3, 60), (0, 0), (7, 0), (7, 0)], [(0, 0), (0, 0), (3, 11)], fun xs ys s => fL_law_886 kb (xs.getD 0 0) (xs.getD 1 0) (xs.getD 2 0) (xs.getD 3 0) (xs.getD 4 0) (ys.getD 0 0) (ys.getD 1 0) (ys.getD 2 0) s) :: tL_law_886 kb
noncomputable def tL_law_865 (kb : Co) : List Rw := (885, [(5, 0), (3, 11), (3, 12), (3, 60), (0, 0), (7, 0), (7, 0)], [(0, 0), (3, 11)], fun xs ys s => fL_law_885 kb (xs.getD 0 0) (xs.getD 1 0) (xs.getD 2 0) (xs.getD 3 0) (xs.getD 4 0) (ys.getD 0 0) (ys.getD 1 0) s) :: tL_law_885 kb
noncomputable def tL_law_862 (kb : Co) : List Rw := (865, [(5, 0), (3, 11), (3, 12), (3, 60), (0, 0), (7, 0), (7, 0)], [], fun xs ys s => fL_law_865 kb (xs.getD 0 0) (xs.getD 1 0) (xs.getD 2 0) (xs.getD 3 0) (xs.getD 4 0) s) :: tL_law_865 kb
noncomputable def tL_law_845 (kb : Co) : List Rw := (862, [(5, 0), (3, 11), (3, 12), (3, 60), (0, 0), (7, 0), (7, 0)], [], fun xs ys s => fL_law_862 kb (xs.getD 0 0) (xs.getD 1 0) (xs.getD 2 0) (xs.getD 3 0) (xs.getD 4 0) s) :: tL_law_862 kb
noncomputable def tL_law_797 (kb : Co) : List Rw := (845, [(5, 0), (3, 11), (3, 12), (3, 60), (0, 0), (0, 0), (0, 0)], [], fun xs ys s => fL_law_845 kb (xs.getD 0 0) (xs.getD 1 0) (xs.getD 2 0) (xs.getD 3 0) (xs.getD 4 0) (xs.getD 5 0) (xs.getD 6 0) s) :: tL_law_845 kb
noncomputable def tL_law_794 (kb : Co) : List Rw := (797, [(5, 0), (3, 11), (3, 12), (3, 60), (0, 0), (7, 0), (7, 0)], [], fun xs ys s => fL_law_797 kb (xs.getD 0 0) (xs.getD 1 0) (xs.getD 2 0) (xs.getD 3 0) (xs.getD 4 0) s) :: tL_law_797 kb
noncomputable def tL_law_749 (kb : Co) : List Rw := (794, [(5, 0), (3, 11), (3, 12), (3, 60), (0, 0), (7, 0), (7, 0)], [], fun xs ys s => fL_law_794 kb (xs.getD 0 0) (xs.getD 1 0) (xs.getD 2 0) (xs.getD 3 0) (xs.getD 4 0) s) :: tL_law_794 kb
noncomputable def tL_law_746 (kb : Co) : List Rw := (749, [(5, 0), (3, 11), (3, 12), (3, 60), (0, 0), (7, 0), (7, 0)], [], fun xs ys s => fL_law_749 kb (xs.getD 0 0) (xs.getD 1 0) (xs.getD 2 0) (xs.getD 3 0) (xs.getD 4 0) s) :: tL_law_749 kb
noncomputable def tL_law_729 (kb : Co) : List Rw := (746, [(5, 0), (3, 11), (3, 12), (3, 60), (0, 0), (7, 0), (7, 0)], [], fun xs ys s => fL_law_746 kb (xs.getD 0 0) (xs.getD 1 0) (xs.getD 2 0) (xs.getD 3 0) (xs.getD 4 0) s) :: tL_law_746 kb
noncomputable def tL_law_631 (kb : Co) : List Rw := (729, [(5, 0), (3, 11), (3, 12), (3, 60), (0, 0), (0, 0), (0, 0)], [], fun xs ys s => fL_law_729 kb (xs.getD 0 0) (xs.getD 1 0) (xs.getD 2 0) (xs.getD 3 0) (xs.getD 4 0) (xs.getD 5 0) (xs.getD 6 0) s) :: tL_law_729 kb
noncomputable def tL_law_628 (kb : Co) : List Rw := (631, [(5, 0), (3, 11), (3, 12), (3, 60), (0, 0), (7, 0), (7, 0)], [], fun xs ys s => fL_law_631 kb (xs.getD 0 0) (xs.getD 1 0) (xs.getD 2 0) (xs.getD 3 0) (xs.getD 4 0) s) :: tL_law_631 kb
noncomputable def tL_law_611 (kb : Co) : List Rw := (628, [(5, 0), (3, 11), (3, 12), (3, 60), (0, 0), (7, 0), (7, 0)], [], fun xs ys s => fL_law_628 kb (xs.getD 0 0) (xs.getD 1 0) (xs.getD 2 0) (xs.getD 3 0) (xs.getD 4 0) s) :: tL_law_628 kb
noncomputable def tL_law_575 (kb : Co) : List Rw := (611, [(5, 0), (3, 11), (3, 12), (3, 60), (0, 0), (0, 0), (0, 0)], [], fun xs ys s => fL_law_611 kb (xs.getD 0 0) (xs.getD 1 0) (xs.getD 2 0) (xs.getD 3 0) (xs.getD 4 0) (xs.getD 5 0) (xs.getD 6 0) s) :: tL_law_611 kb
noncomputable def tL_law_572 (kb : Co) : List Rw := (575, [(5, 0), (3, 11), (3, 12), (3, 60), (0, 0), (7, 0), (7, 0)], [], fun xs ys s => fL_law_575 kb (xs.getD 0 0) (xs.getD 1 0) (xs.getD 2 0) (xs.getD 3 0) (xs.getD 4 0) s) :: tL_law_575 kb
noncomputable def tL_law_555 (kb : Co) : List Rw := (572, [(5, 0), (3, 11), (3, 12), (3, 60), (0, 0), (7, 0), (7, 0)], [], fun xs ys s => fL_law_572 kb (xs.getD 0 0) (xs.getD 1 0) (xs.getD 2 0) (xs.getD 3 0) (xs.getD 4 0) s) :: tL_law_572 kb
noncomputable def tL_law_495 (kb : Co) : List Rw := (555, [(5, 0), (3, 11), (3, 12), (3, 60), (0, 0), (0, 0), (0, 0)], [], fun xs ys s => fL_law_555 kb (xs.getD 0 0) (xs.getD 1 0) (xs.getD 2 0) (xs.getD 3 0) (xs.getD 4 0) (xs.getD 5 0) (xs.getD 6 0) s) :: tL_law_555 kb
noncomputable def tL_law_492 (kb : Co) : List Rw := (495, [(5, 0), (3, 11), (3, 12), (3, 60), (0, 0), (7, 0), (7, 0)], [], fun xs ys s => fL_law_495 kb (xs.getD 0 0) (xs.getD 1 0) (xs.getD 2 0) (xs.getD 3 0) (xs.getD 4 0) s) :: tL_law_495 kb
noncomputable def tL_law_475 (kb : Co) : List Rw := (492, [(5, 0), (3, 11), (3, 12), (3, 60), (0, 0), (7, 0), (7, 0)], [], fun xs ys s => fL_law_492 kb (xs.getD 0 0) (xs.getD 1 0) (xs.getD 2 0) (xs.getD 3 0) (xs.getD 4 0) s) :: tL_law_492 kb
noncomputable def tL_law_439 (kb : Co) : List Rw := (475, [(5, 0), (3, 11), (3, 12), (3, 60), (0, 0), (0, 0), (0, 0)], [], fun xs ys s => fL_law_475 kb (xs.getD 0 0) (xs.getD 1 0) (xs.getD 2 0) (xs.getD 3 0) (xs.getD 4 0) (xs.getD 5 0) (xs.getD 6 0) s) :: tL_law_475 kb
noncomputable def tL_law_436 (kb : Co) : List Rw := (439, [(5, 0), (3, 11), (3, 12), (3, 60), (0, 0), (7, 0), (7, 0)], [], fun xs ys s => fL_law_439 kb (xs.getD 0 0) (xs.getD 1 0) (xs.getD 2 0) (xs.getD 3 0) (xs.getD 4 0) s) :: tL_law_439 kb
noncomputable def tL_law_419 (kb : Co) : List Rw := (436, [(5, 0), (3, 11), (3, 12), (3, 60), (0, 0), (7, 0), (7, 0)], [], fun xs ys s => fL_law_436 kb (xs.getD 0 0) (xs.getD 1 0) (xs.getD 2 0) (xs.getD 3 0) (xs.getD 4 0) s) :: tL_law_436 kb
noncomputable def tL_law_359 (kb : Co) : List Rw := (419, [(5, 0), (3, 11), (3, 12), (3, 60), (0, 0), (0, 0), (0, 0)], [], fun xs ys s => fL_law_419 kb (xs.getD 0 0) (xs.getD 1 0) (xs.getD 2 0) (xs.getD 3 0) (xs.getD 4 0) (xs.getD 5 0) (xs.getD 6 0) s) :: tL_law_419 kb
noncomputable def tL_law_356 (kb : Co) : List Rw := (359, [(5, 0), (3, 11), (3, 12), (3, 60), (0, 0), (7, 0), (7, 0)], [], fun xs ys s => fL_law_359 kb (xs.getD 0 0) (xs.getD 1 0) (xs.getD 2 0) (xs.getD 3 0) (xs.getD 4 0) s) :: tL_law_359 kb
noncomputable def tL_law_350 (kb : Co) : List Rw := (356, [(5, 0), (3, 11), (3, 12), (3, 60), (0, 0), (7, 0), (7, 0)], [], fun xs ys s => fL_law_356 kb (xs.getD 0 0) (xs.getD 1 0) (xs.getD 2 0) (xs.getD 3 0) (xs.getD 4 0) s) :: tL_law_356 kb
noncomputable def tL_law_349 (kb : Co) : List Rw := (350, [(5, 0), (3, 11), (3, 12), (3, 60), (0, 0), (7, 0), (7, 0)], [(1, 0), (1, 0)], fun xs ys s => fL_law_350 kb (xs.getD 0 0) (xs.getD 1 0) (xs.getD 2 0) (xs.getD 3 0) (xs.getD 4 0) (ys.getD 0 0) (ys.getD 1 0) s) :: tL_law_350 kb
noncomputable def tL_law_332 (kb : Co) : List Rw := (349, [(5, 0), (3, 11), (3, 12), (3, 60), (0, 0), (7, 0), (7, 0)], [(1, 0)], fun xs ys s => fL_law_349 kb (xs.getD 0 0) (xs.getD 1 0) (xs.getD 2 0) (xs.getD 3 0) (xs.getD 4 0) (ys.getD 0 0) s) :: tL_law_349 kb
noncomputable def tL_law_316 (kb : Co) : List Rw := (332, [(5, 0), (3, 11), (3, 12), (3, 60), (0, 0), (0, 0), (0, 0)], [], fun xs ys s => fL_law_332 kb (xs.getD 0 0) (xs.getD 1 0) (xs.getD 2 0) (xs.getD 3 0) (xs.getD 4 0) (xs.getD 5 0) (xs.getD 6 0) s) :: tL_law_332 kb
noncomputable def tL_law_315 (kb : Co) : List Rw := (316, [(5, 0), (3, 11), (3, 12), (3, 60), (0, 0), (0, 0), (7, 0)], [(0, 0), (0, 0), (0, 0), (3, 12)], fun xs ys s => fL_law_316 kb (xs.getD 0 0) (xs.getD 1 0) (xs.getD 2 0) (xs.getD 3 0) (xs.getD 4 0) (xs.getD 5 0) (ys.getD 0 0) (ys.getD 1 0) (ys.getD 2 0) (ys.getD 3 0) s) :: tL_law_316 kb
noncomputable def tL_law_283 (kb : Co) : List Rw := (315, [(5, 0), (3, 11), (3, 12), (3, 60), (0, 0), (0, 0), (7, 0)], [(0, 0), (0, 0), (3, 12)], fun xs ys s => fL_law_315 kb (xs.getD 0 0) (xs.getD 1 0) (xs.getD 2 0) (xs.getD 3 0) (xs.getD 4 0) (xs.getD 5 0) (ys.getD 0 0) (ys.getD 1 0) (ys.getD 2 0) s) :: tL_law_315 kb
noncomputable def tL_law_282 (kb : Co) : List Rw := (283, [(5, 0), (3, 11), (3, 12), (3, 60), (0, 0), (7, 0), (7, 0)], [(0, 0), (0, 0), (0, 0), (3, 11)], fun xs ys s => fL_law_283 kb (xs.getD 0 0) (xs.getD 1 0) (xs.getD 2 0) (xs.getD 3 0) (xs.getD 4 0) (ys.getD 0 0) (ys.getD 1 0) (ys.getD 2 0) (ys.getD 3 0) s) :: tL_law_283 kb
noncomputable def tL_law_256 (kb : Co) : List Rw := (282, [(5, 0), (3, 11), (3, 12), (3, 60), (0, 0), (7, 0), (7, 0)], [(0, 0), (0, 0), (3, 11)], fun xs ys s => fL_law_282 kb (xs.getD 0 0) (xs.getD 1 0) (xs.getD 2 0) (xs.getD 3 0) (xs.getD 4 0) (ys.getD 0 0) (ys.getD 1 0) (ys.getD 2 0) s) :: tL_law_282 kb
noncomputable def tL_law_253 (kb : Co) : List Rw := (256, [(5, 0), (3, 11), (3, 12), (3, 60), (0, 0), (7, 0), (7, 0)], [], fun xs ys s => fL_law_256 kb (xs.getD 0 0) (xs.getD 1 0) (xs.getD 2 0) (xs.getD 3 0) (xs.getD 4 0) s) :: tL_law_256 kb
noncomputable def tL_law_236 (kb : Co) : List Rw := (253, [(5, 0), (3, 11), (3, 12), (3, 60), (0, 0), (7, 0), (7, 0)], [], fun xs ys s => fL_law_253 kb (xs.getD 0 0) (xs.getD 1 0) (xs.getD 2 0) (xs.getD 3 0) (xs.getD 4 0) s) :: tL_law_253 kb
noncomputable def tL_law_188 (kb : Co) : List Rw := (236, [(5, 0), (3, 11), (3, 12), (3, 60), (0, 0), (0, 0), (0, 0)], [], fun xs ys s => fL_law_236 kb (xs.getD 0 0) (xs.getD 1 0) (xs.getD 2 0) (xs.getD 3 0) (xs.getD 4 0) (xs.getD 5 0) (xs.getD 6 0) s) :: tL_law_236 kb
noncomputable def tL_law_23 (kb : Co) : List Rw := (188, [(5, 0), (3, 11), (3, 12), (3, 60), (0, 0), (7, 0), (7, 0)], [], fun xs ys s => fL_law_188 kb (xs.getD 0 0) (xs.getD 1 0) (xs.getD 2 0) (xs.getD 3 0) (xs.getD 4 0) s) :: tL_law_188 kb
noncomputable def tL_law_20 (kb : Co) : List Rw := (23, [(5, 0), (3, 11), (3, 12), (3, 60), (0, 0), (7, 0), (7, 0)], [], fun xs ys s => fL_law_23 kb (xs.getD 0 0) (xs.getD 1 0) (xs.getD 2 0) (xs.getD 3 0) (xs.getD 4 0) s) :: tL_law_23 kb
noncomputable def rL_law (kb : Co) : List Rw := (20, [(5, 0), (3, 11), (3, 12), (3, 60), (7, 0), (7, 0), (7, 0)], [], fun xs ys s => fL_law_20 kb (xs.getD 0 0) (xs.getD 1 0) (xs.getD 2 0) (xs.getD 3 0) s) :: tL_law_20 kb
noncomputable def kL_law : Nat → Co
  | 0 => nk
  | n + 1 => fam (rL_law (kL_law n)) nk
noncomputable def FL_law (a0 a1 a2 a3 : Int) (s : St) : Res := fL_law_20 (kL_law 9999) a0 a1 a2 a3 s
noncomputable def gL_law : Fn := fun xs s => FL_law (xs.getD 0 0) (xs.getD 1 0) (xs.getD 2 0) (xs.getD 3 0) s
noncomputable def mdL_law : MD := ([(5, 0), (3, 11), (3, 12), (3, 60)], (0, 0), yL_law, cL_law, (7, (some .boolean), 8, 193, []))
