-- FloatparadeModel.swaps(III)V
theorem mkX12_swaps : MK mdX12_swaps true := MKb_ok (h1 := 1632) (h2 := 76) (h3 := 1631) (h4 := 46) (by decide +kernel)
theorem qX12_swaps_0 : blkb mdX12_swaps 0 0 bX12_swaps_0 [[], [1356], [], [], [], [], [], [], [], [], [1356], [], [], [], [], [], [], [1356], [], [], [], [], [], [], [], [], [1356], [], [], [], [], [], [], [], []] = true := by decide +kernel
theorem pX12_swaps (hA : AOK) (r : Rt) (kb : Co) : RsB mdX12_swaps r kb (rX12_swaps kb) := by
  have h0 : RsB mdX12_swaps r kb (tX12_swaps_0 kb) := row_0
  exact row_B hA h0 qX12_swaps_0 (ck_n rfl) rfl (fun xs ys s => eX12_swaps_0 kb (xs.getD 0 0) (xs.getD 1 0) (xs.getD 2 0) (xs.getD 3 0) s)
theorem iX12_swaps (hA : AOK) : Impl mdX12_swaps gX12_swaps := ent_B (kk := kX12_swaps) (rr := rX12_swaps) (f := fun kb => fun xs ys s => fX12_swaps_0 kb (xs.getD 0 0) (xs.getD 1 0) (xs.getD 2 0) (xs.getD 3 0) s) (by decide +kernel) rfl (fun _ => rfl) (fun r kb => pX12_swaps hA r kb) (fun kb => ⟨_, rfl⟩) 0 id (fun xs s => rfl) (fun xs => wkl_rf _)
-- FloatparadeModel.areFoes(II)Z
theorem mkX12_areFoes : MK mdX12_areFoes true := MKb_ok (h1 := 1628) (h2 := 76) (h3 := 1627) (h4 := 45) (by decide +kernel)
theorem qX12_areFoes_0 : blkb mdX12_areFoes 0 0 bX12_areFoes_0 [[], [1334], [], [], [1356], [], [], [], [], [], [], [], [], [1356], [], [], [], [], [], [], [], [], [], [], []] = true := by decide +kernel
theorem pX12_areFoes (hA : AOK) (r : Rt) (kb : Co) : RsB mdX12_areFoes r kb (rX12_areFoes kb) := by
  have h0 : RsB mdX12_areFoes r kb (tX12_areFoes_0 kb) := row_0
  exact row_B hA h0 qX12_areFoes_0 (ck_n rfl) rfl (fun xs ys s => eX12_areFoes_0 kb (xs.getD 0 0) (xs.getD 1 0) (xs.getD 2 0) s)
theorem iX12_areFoes (hA : AOK) : Impl mdX12_areFoes gX12_areFoes := ent_B (kk := kX12_areFoes) (rr := rX12_areFoes) (f := fun kb => fun xs ys s => fX12_areFoes_0 kb (xs.getD 0 0) (xs.getD 1 0) (xs.getD 2 0) s) (by decide +kernel) rfl (fun _ => rfl) (fun r kb => pX12_areFoes hA r kb) (fun kb => ⟨_, rfl⟩) 0 id (fun xs s => rfl) (fun xs => wkl_rf _)
-- FloatparadeModel.firstFoes(I)I
theorem mkX12_firstFoes : MK mdX12_firstFoes true := MKb_ok (h1 := 1624) (h2 := 76) (h3 := 1623) (h4 := 44) (by decide +kernel)
theorem qX12_firstFoes_0 : blkb mdX12_firstFoes 11 0 bX12_firstFoes_0 [[], [], [], [1355], [], [], [], [], []] = true := by decide +kernel
theorem qX12_firstFoes_11 : blkb mdX12_firstFoes 0 11 bX12_firstFoes_11 [[], [], [], [], [], [1625], [], [], []] = true := by decide +kernel
theorem qX12_firstFoes_28 : blkb mdX12_firstFoes 29 28 bX12_firstFoes_28 [[]] = true := by decide +kernel
theorem qX12_firstFoes_29 : blkb mdX12_firstFoes 0 29 bX12_firstFoes_29 [[], [], []] = true := by decide +kernel
theorem qX12_firstFoes_36 : blkb mdX12_firstFoes 0 36 bX12_firstFoes_36 [[], []] = true := by decide +kernel
theorem pX12_firstFoes (hA : AOK) (r : Rt) (kb : Co) : RsB mdX12_firstFoes r kb (rX12_firstFoes kb) := by
  have h36 : RsB mdX12_firstFoes r kb (tX12_firstFoes_36 kb) := row_0
  have h29 : RsB mdX12_firstFoes r kb (tX12_firstFoes_29 kb) := row_B hA h36 qX12_firstFoes_36 (ck_n rfl) rfl (fun xs ys s => eX12_firstFoes_36 kb (xs.getD 0 0) s)
  have h28 : RsB mdX12_firstFoes r kb (tX12_firstFoes_28 kb) := row_B hA h29 qX12_firstFoes_29 (ck_n rfl) rfl (fun xs ys s => eX12_firstFoes_29 kb (xs.getD 0 0) (xs.getD 1 0) (xs.getD 2 0) (ys.getD 0 0) s)
  have h11 : RsB mdX12_firstFoes r kb (tX12_firstFoes_11 kb) := row_B hA h28 qX12_firstFoes_28 (ck_n rfl) rfl (fun xs ys s => eX12_firstFoes_28 kb (xs.getD 0 0) (xs.getD 1 0) (xs.getD 2 0) (xs.getD 3 0) s)
  have h0 : RsB mdX12_firstFoes r kb (tX12_firstFoes_0 kb) := row_B hA h11 qX12_firstFoes_11 (And.intro trivial (And.intro trivial (And.intro trivial (And.intro trivial (And.intro trivial (And.intro (co_of mkX12_areFoes (iX12_areFoes hA)) (ck_n rfl))))))) rfl (fun xs ys s => eX12_firstFoes_11 kb (xs.getD 0 0) (xs.getD 1 0) (xs.getD 2 0) (xs.getD 3 0) s)
  exact row_B hA h0 qX12_firstFoes_0 (ck_n rfl) rfl (fun xs ys s => eX12_firstFoes_0 kb (xs.getD 0 0) (xs.getD 1 0) s)
theorem iX12_firstFoes (hA : AOK) : Impl mdX12_firstFoes gX12_firstFoes := ent_B (kk := kX12_firstFoes) (rr := rX12_firstFoes) (f := fun kb => fun xs ys s => fX12_firstFoes_0 kb (xs.getD 0 0) (xs.getD 1 0) s) (by decide +kernel) rfl (fun _ => rfl) (fun r kb => pX12_firstFoes hA r kb) (fun kb => ⟨_, rfl⟩) 9999 id (fun xs s => rfl) (fun xs => wkl_rf _)
-- FloatparadeModel.rankOf(I)I
theorem mkX12_rankOf : MK mdX12_rankOf true := MKb_ok (h1 := 1620) (h2 := 76) (h3 := 1619) (h4 := 43) (by decide +kernel)
theorem qX12_rankOf_0 : blkb mdX12_rankOf 0 0 bX12_rankOf_0 [[], [1331], [], [], [], [], [], [1357], [], [], []] = true := by decide +kernel
theorem qX12_rankOf_19 : blkb mdX12_rankOf 0 19 bX12_rankOf_19 [[], [], [1358], [], [], [], [], []] = true := by decide +kernel
theorem qX12_rankOf_35 : blkb mdX12_rankOf 46 35 bX12_rankOf_35 [[], [], [1354], [], [], [], [], []] = true := by decide +kernel
theorem qX12_rankOf_46 : blkb mdX12_rankOf 0 46 bX12_rankOf_46 [[]] = true := by decide +kernel
theorem pX12_rankOf (hA : AOK) (r : Rt) (kb : Co) : RsB mdX12_rankOf r kb (rX12_rankOf kb) := by
  have h46 : RsB mdX12_rankOf r kb (tX12_rankOf_46 kb) := row_0
  have h35 : RsB mdX12_rankOf r kb (tX12_rankOf_35 kb) := row_B hA h46 qX12_rankOf_46 (ck_n rfl) rfl (fun xs ys s => eX12_rankOf_46 kb (ys.getD 0 0) s)
  have h19 : RsB mdX12_rankOf r kb (tX12_rankOf_19 kb) := row_B hA h35 qX12_rankOf_35 (ck_n rfl) rfl (fun xs ys s => eX12_rankOf_35 kb (xs.getD 0 0) (xs.getD 1 0) s)
  have h0 : RsB mdX12_rankOf r kb (tX12_rankOf_0 kb) := row_B hA h19 qX12_rankOf_19 (ck_n rfl) rfl (fun xs ys s => eX12_rankOf_19 kb (xs.getD 0 0) (xs.getD 1 0) (xs.getD 2 0) s)
  exact row_B hA h0 qX12_rankOf_0 (ck_n rfl) rfl (fun xs ys s => eX12_rankOf_0 kb (xs.getD 0 0) (xs.getD 1 0) s)
theorem iX12_rankOf (hA : AOK) : Impl mdX12_rankOf gX12_rankOf := ent_B (kk := kX12_rankOf) (rr := rX12_rankOf) (f := fun kb => fun xs ys s => fX12_rankOf_0 kb (xs.getD 0 0) (xs.getD 1 0) s) (by decide +kernel) rfl (fun _ => rfl) (fun r kb => pX12_rankOf hA r kb) (fun kb => ⟨_, rfl⟩) 0 id (fun xs s => rfl) (fun xs => wkl_rf _)
-- FloatparadeModel.findsOrder(I)V
theorem mkX12_findsOrder : MK mdX12_findsOrder true := MKb_ok (h1 := 1616) (h2 := 76) (h3 := 1615) (h4 := 42) (by decide +kernel)
theorem qX12_findsOrder_0 : blkb mdX12_findsOrder 4 0 bX12_findsOrder_0 [[], [], [], []] = true := by decide +kernel
theorem qX12_findsOrder_4 : blkb mdX12_findsOrder 34 4 bX12_findsOrder_4 [[], [], [1330], [], [], [1331], [], [], [], [], [], [1353], [], [], [], [], []] = true := by decide +kernel
theorem qX12_findsOrder_34 : blkb mdX12_findsOrder 0 34 bX12_findsOrder_34 [[], [], [], [], [1356], [], [], [], [], [], [], [], [], [1617], [], [], [1617], [], [], [1356], [], [], [], [], [], [], [1356], [], [], [], [], [], [], [], [], [], [], []] = true := by decide +kernel
theorem qX12_findsOrder_97 : blkb mdX12_findsOrder 113 97 bX12_findsOrder_97 [[], [1356], [], [], [], [], [], [], [], []] = true := by decide +kernel
theorem qX12_findsOrder_113 : blkb mdX12_findsOrder 0 113 bX12_findsOrder_113 [[], []] = true := by decide +kernel
theorem qX12_findsOrder_119 : blkb mdX12_findsOrder 135 119 bX12_findsOrder_119 [[], [1355], [], [], [], [], [], [1621], [], [], []] = true := by decide +kernel
theorem qX12_findsOrder_135 : blkb mdX12_findsOrder 0 135 bX12_findsOrder_135 [[], [], [], [], [], [], [], [], [], [], [], [], [], [], [], [], [], [], [], [1629], []] = true := by decide +kernel
theorem qX12_findsOrder_168 : blkb mdX12_findsOrder 181 168 bX12_findsOrder_168 [[], [], [], [], [], [], [], [], [1629]] = true := by decide +kernel
theorem qX12_findsOrder_181 : blkb mdX12_findsOrder 0 181 bX12_findsOrder_181 [[], [], [], [], [], [], [], [], []] = true := by decide +kernel
theorem qX12_findsOrder_196 : blkb mdX12_findsOrder 201 196 bX12_findsOrder_196 [[], [], [1621]] = true := by decide +kernel
theorem qX12_findsOrder_201 : blkb mdX12_findsOrder 0 201 bX12_findsOrder_201 [[], [], []] = true := by decide +kernel
theorem qX12_findsOrder_208 : blkb mdX12_findsOrder 0 208 bX12_findsOrder_208 [[]] = true := by decide +kernel
theorem pX12_findsOrder (hA : AOK) (r : Rt) (kb : Co) : RsB mdX12_findsOrder r kb (rX12_findsOrder kb) := by
  have h208 : RsB mdX12_findsOrder r kb (tX12_findsOrder_208 kb) := row_0
  have h201 : RsB mdX12_findsOrder r kb (tX12_findsOrder_201 kb) := row_B hA h208 qX12_findsOrder_208 (ck_n rfl) rfl (fun xs ys s => eX12_findsOrder_208 kb s)
  have h196 : RsB mdX12_findsOrder r kb (tX12_findsOrder_196 kb) := row_B hA h201 qX12_findsOrder_201 (ck_n rfl) rfl (fun xs ys s => eX12_findsOrder_201 kb (xs.getD 0 0) (xs.getD 1 0) (xs.getD 2 0) (xs.getD 3 0) (ys.getD 0 0) s)
  have h181 : RsB mdX12_findsOrder r kb (tX12_findsOrder_181 kb) := row_B hA h196 qX12_findsOrder_196 (And.intro trivial (And.intro trivial (And.intro (co_of mkX12_firstFoes (iX12_firstFoes hA)) (ck_n rfl)))) rfl (fun xs ys s => eX12_findsOrder_196 kb (xs.getD 0 0) (xs.getD 1 0) (xs.getD 2 0) (xs.getD 3 0) s)
  have h168 : RsB mdX12_findsOrder r kb (tX12_findsOrder_168 kb) := row_B hA h181 qX12_findsOrder_181 (ck_n rfl) rfl (fun xs ys s => eX12_findsOrder_181 kb (xs.getD 0 0) (xs.getD 1 0) (xs.getD 2 0) (xs.getD 3 0) (xs.getD 4 0) s)
  have h135 : RsB mdX12_findsOrder r kb (tX12_findsOrder_135 kb) := row_B hA h168 qX12_findsOrder_168 (And.intro trivial (And.intro trivial (And.intro trivial (And.intro trivial (And.intro trivial (And.intro trivial (And.intro trivial (And.intro trivial (And.intro (co_of mkX12_swaps (iX12_swaps hA)) (ck_n rfl)))))))))) rfl (fun xs ys s => eX12_findsOrder_168 kb (xs.getD 0 0) (xs.getD 1 0) (xs.getD 2 0) (xs.getD 3 0) (xs.getD 4 0) s)
  have h119 : RsB mdX12_findsOrder r kb (tX12_findsOrder_119 kb) := row_B hA h135 qX12_findsOrder_135 (And.intro trivial (And.intro trivial (And.intro trivial (And.intro trivial (And.intro trivial (And.intro trivial (And.intro trivial (And.intro trivial (And.intro trivial (And.intro trivial (And.intro trivial (And.intro trivial (And.intro trivial (And.intro trivial (And.intro trivial (And.intro trivial (And.intro trivial (And.intro trivial (And.intro trivial (And.intro (co_of mkX12_swaps (iX12_swaps hA)) (ck_n rfl))))))))))))))))))))) rfl (fun xs ys s => eX12_findsOrder_135 kb (xs.getD 0 0) (xs.getD 1 0) (xs.getD 2 0) (xs.getD 3 0) (xs.getD 4 0) s)
  have h113 : RsB mdX12_findsOrder r kb (tX12_findsOrder_113 kb) := row_B hA h119 qX12_findsOrder_119 (And.intro trivial (And.intro trivial (And.intro trivial (And.intro trivial (And.intro trivial (And.intro trivial (And.intro trivial (And.intro (co_of mkX12_firstFoes (iX12_firstFoes hA)) (ck_n rfl))))))))) rfl (fun xs ys s => eX12_findsOrder_119 kb (xs.getD 0 0) (xs.getD 1 0) (xs.getD 2 0) s)
  have h97 : RsB mdX12_findsOrder r kb (tX12_findsOrder_97 kb) := row_B hA h113 qX12_findsOrder_113 (ck_n rfl) rfl (fun xs ys s => eX12_findsOrder_113 kb (xs.getD 0 0) (xs.getD 1 0) (xs.getD 2 0) (xs.getD 3 0) s)
  have h34 : RsB mdX12_findsOrder r kb (tX12_findsOrder_34 kb) := row_B hA h97 qX12_findsOrder_97 (ck_n rfl) rfl (fun xs ys s => eX12_findsOrder_97 kb (xs.getD 0 0) (xs.getD 1 0) (xs.getD 2 0) (xs.getD 3 0) (xs.getD 4 0) s)
  have h4 : RsB mdX12_findsOrder r kb (tX12_findsOrder_4 kb) := row_B hA h34 qX12_findsOrder_34 (And.intro trivial (And.intro trivial (And.intro trivial (And.intro trivial (And.intro trivial (And.intro trivial (And.intro trivial (And.intro trivial (And.intro trivial (And.intro trivial (And.intro trivial (And.intro trivial (And.intro trivial (And.intro (co_of mkX12_rankOf (iX12_rankOf hA)) (And.intro trivial (And.intro trivial (And.intro (co_of mkX12_rankOf (iX12_rankOf hA)) (ck_n rfl)))))))))))))))))) rfl (fun xs ys s => eX12_findsOrder_34 kb (xs.getD 0 0) (xs.getD 1 0) (xs.getD 2 0) (xs.getD 3 0) (xs.getD 4 0) s)
  have h0 : RsB mdX12_findsOrder r kb (tX12_findsOrder_0 kb) := row_B hA h4 qX12_findsOrder_4 (ck_n rfl) rfl (fun xs ys s => eX12_findsOrder_4 kb (xs.getD 0 0) (xs.getD 1 0) (xs.getD 2 0) (xs.getD 3 0) s)
  exact row_B hA h0 qX12_findsOrder_0 (ck_n rfl) rfl (fun xs ys s => eX12_findsOrder_0 kb (xs.getD 0 0) (xs.getD 1 0) s)
theorem iX12_findsOrder (hA : AOK) : Impl mdX12_findsOrder gX12_findsOrder := ent_B (kk := kX12_findsOrder) (rr := rX12_findsOrder) (f := fun kb => fun xs ys s => fX12_findsOrder_0 kb (xs.getD 0 0) (xs.getD 1 0) s) (by decide +kernel) rfl (fun _ => rfl) (fun r kb => pX12_findsOrder hA r kb) (fun kb => ⟨_, rfl⟩) 9999 id (fun xs s => rfl) (fun xs => wkl_rf _)
-- FloatparadeModel.canEnter(I)Z
theorem mkX12_canEnter : MK mdX12_canEnter true := MKb_ok (h1 := 1612) (h2 := 76) (h3 := 1611) (h4 := 41) (by decide +kernel)
theorem qX12_canEnter_0 : blkb mdX12_canEnter 0 0 bX12_canEnter_0 [[], [1331], [], [], [], [], [1353], [], [], [], [], [1359], [], [], [], [], [1350], [], [], [], [], [], []] = true := by decide +kernel
theorem qX12_canEnter_39 : blkb mdX12_canEnter 40 39 bX12_canEnter_39 [[]] = true := by decide +kernel
theorem qX12_canEnter_40 : blkb mdX12_canEnter 44 40 bX12_canEnter_40 [[], [], []] = true := by decide +kernel
theorem qX12_canEnter_44 : blkb mdX12_canEnter 0 44 bX12_canEnter_44 [[], [], [1341], [], [], [], [], [], [], [], [], [1601], [], [], []] = true := by decide +kernel
theorem qX12_canEnter_73 : blkb mdX12_canEnter 0 73 bX12_canEnter_73 [[], []] = true := by decide +kernel
theorem pX12_canEnter (hA : AOK) (r : Rt) (kb : Co) : RsB mdX12_canEnter r kb (rX12_canEnter kb) := by
  have h73 : RsB mdX12_canEnter r kb (tX12_canEnter_73 kb) := row_0
  have h44 : RsB mdX12_canEnter r kb (tX12_canEnter_44 kb) := row_B hA h73 qX12_canEnter_73 (ck_n rfl) rfl (fun xs ys s => eX12_canEnter_73 kb (xs.getD 0 0) s)
  have h40 : RsB mdX12_canEnter r kb (tX12_canEnter_40 kb) := row_B hA h44 qX12_canEnter_44 (And.intro trivial (And.intro trivial (And.intro trivial (And.intro trivial (And.intro trivial (And.intro trivial (And.intro trivial (And.intro trivial (And.intro trivial (And.intro trivial (And.intro trivial (And.intro (co_of mkX12_isFit (iX12_isFit hA)) (ck_n rfl))))))))))))) rfl (fun xs ys s => eX12_canEnter_44 kb (xs.getD 0 0) (xs.getD 1 0) (xs.getD 2 0) (xs.getD 3 0) s)
  have h39 : RsB mdX12_canEnter r kb (tX12_canEnter_39 kb) := row_B hA h40 qX12_canEnter_40 (ck_n rfl) rfl (fun xs ys s => eX12_canEnter_40 kb (xs.getD 0 0) (xs.getD 1 0) (ys.getD 0 0) s)
  have h0 : RsB mdX12_canEnter r kb (tX12_canEnter_0 kb) := row_B hA h39 qX12_canEnter_39 (ck_n rfl) rfl (fun xs ys s => eX12_canEnter_39 kb (xs.getD 0 0) (xs.getD 1 0) s)
  exact row_B hA h0 qX12_canEnter_0 (ck_n rfl) rfl (fun xs ys s => eX12_canEnter_0 kb (xs.getD 0 0) (xs.getD 1 0) s)
theorem iX12_canEnter (hA : AOK) : Impl mdX12_canEnter gX12_canEnter := ent_B (kk := kX12_canEnter) (rr := rX12_canEnter) (f := fun kb => fun xs ys s => fX12_canEnter_0 kb (xs.getD 0 0) (xs.getD 1 0) s) (by decide +kernel) rfl (fun _ => rfl) (fun r kb => pX12_canEnter hA r kb) (fun kb => ⟨_, rfl⟩) 9999 id (fun xs s => rfl) (fun xs => wkl_rf _)
-- FloatparadeModel.enter(II)I
theorem mkX12_enter : MK mdX12_enter true := MKb_ok (h1 := 1608) (h2 := 76) (h3 := 1606) (h4 := 1607) (by decide +kernel)
theorem qX12_enter_0 : blkb mdX12_enter 0 0 bX12_enter_0 [[], [], [1508], [], [], [], [], [], []] = true := by decide +kernel
theorem qX12_enter_15 : blkb mdX12_enter 0 15 bX12_enter_15 [[], [], [], [1497], [], [], []] = true := by decide +kernel
theorem qX12_enter_29 : blkb mdX12_enter 0 29 bX12_enter_29 [[], [], [1609], [], [], []] = true := by decide +kernel
theorem qX12_enter_41 : blkb mdX12_enter 42 41 bX12_enter_41 [[]] = true := by decide +kernel
theorem qX12_enter_42 : blkb mdX12_enter 0 42 bX12_enter_42 [[1500], [], [], []] = true := by decide +kernel
theorem qX12_enter_50 : blkb mdX12_enter 0 50 bX12_enter_50 [[], [1353], [], [], [], [], [1354], [], [], [], [], [], [1331], [], [], [1613], [], [1355], [], [1331], [], [], [], []] = true := by decide +kernel
theorem pX12_enter (hA : AOK) (r : Rt) (kb : Co) : RsB mdX12_enter r kb (rX12_enter kb) := by
  have h50 : RsB mdX12_enter r kb (tX12_enter_50 kb) := row_0
  have h42 : RsB mdX12_enter r kb (tX12_enter_42 kb) := row_B hA h50 qX12_enter_50 (And.intro trivial (And.intro trivial (And.intro trivial (And.intro trivial (And.intro trivial (And.intro trivial (And.intro trivial (And.intro trivial (And.intro trivial (And.intro trivial (And.intro trivial (And.intro trivial (And.intro trivial (And.intro trivial (And.intro trivial (And.intro (co_of mkX12_findsOrder (iX12_findsOrder hA)) (ck_n rfl))))))))))))))))) rfl (fun xs ys s => eX12_enter_50 kb (xs.getD 0 0) (xs.getD 1 0) (xs.getD 2 0) s)
  have h41 : RsB mdX12_enter r kb (tX12_enter_41 kb) := row_B hA h42 qX12_enter_42 (And.intro (co_of mkX12_holds (iX12_holds hA)) (ck_n rfl)) rfl (fun xs ys s => eX12_enter_42 kb (xs.getD 0 0) (xs.getD 1 0) (xs.getD 2 0) (ys.getD 0 0) (ys.getD 1 0) s)
  have h29 : RsB mdX12_enter r kb (tX12_enter_29 kb) := row_B hA h41 qX12_enter_41 (ck_n rfl) rfl (fun xs ys s => eX12_enter_41 kb (xs.getD 0 0) (xs.getD 1 0) (xs.getD 2 0) (ys.getD 0 0) s)
  have h15 : RsB mdX12_enter r kb (tX12_enter_15 kb) := row_B hA h29 qX12_enter_29 (And.intro trivial (And.intro trivial (And.intro (co_of mkX12_canEnter (iX12_canEnter hA)) (ck_n rfl)))) rfl (fun xs ys s => eX12_enter_29 kb (xs.getD 0 0) (xs.getD 1 0) (xs.getD 2 0) (ys.getD 0 0) s)
  have h0 : RsB mdX12_enter r kb (tX12_enter_0 kb) := row_B hA h15 qX12_enter_15 (And.intro trivial (And.intro trivial (And.intro trivial (And.intro (co_of mkX12_in (iX12_in hA)) (ck_n rfl))))) rfl (fun xs ys s => eX12_enter_15 kb (xs.getD 0 0) (xs.getD 1 0) (xs.getD 2 0) (ys.getD 0 0) s)
  exact row_B hA h0 qX12_enter_0 (And.intro trivial (And.intro trivial (And.intro (co_of mkX12_isSociety (iX12_isSociety hA)) (ck_n rfl)))) rfl (fun xs ys s => eX12_enter_0 kb (xs.getD 0 0) (xs.getD 1 0) (xs.getD 2 0) s)
theorem iX12_enter (hA : AOK) : Impl mdX12_enter gX12_enter := ent_B (kk := kX12_enter) (rr := rX12_enter) (f := fun kb => fun xs ys s => fX12_enter_0 kb (xs.getD 0 0) (xs.getD 1 0) (xs.getD 2 0) s) (by decide +kernel) rfl (fun _ => rfl) (fun r kb => pX12_enter hA r kb) (fun kb => ⟨_, rfl⟩) 0 id (fun xs s => rfl) (fun xs => wkl_rf _)
-- FloatparadeModel.placeIn(I)I
theorem mkX12_placeIn : MK mdX12_placeIn true := MKb_ok (h1 := 1640) (h2 := 76) (h3 := 1639) (h4 := 47) (by decide +kernel)
theorem qX12_placeIn_0 : blkb mdX12_placeIn 12 0 bX12_placeIn_0 [[], [1331], [], [], [], [], [], [], []] = true := by decide +kernel
theorem qX12_placeIn_12 : blkb mdX12_placeIn 0 12 bX12_placeIn_12 [[], [], [1355], [], [], [], [], [1356], [], [], [], [], [], [], [], [], [], []] = true := by decide +kernel
theorem qX12_placeIn_44 : blkb mdX12_placeIn 45 44 bX12_placeIn_44 [[]] = true := by decide +kernel
theorem qX12_placeIn_45 : blkb mdX12_placeIn 0 45 bX12_placeIn_45 [[], [], []] = true := by decide +kernel
theorem qX12_placeIn_52 : blkb mdX12_placeIn 0 52 bX12_placeIn_52 [[], []] = true := by decide +kernel
theorem pX12_placeIn (hA : AOK) (r : Rt) (kb : Co) : RsB mdX12_placeIn r kb (rX12_placeIn kb) := by
  have h52 : RsB mdX12_placeIn r kb (tX12_placeIn_52 kb) := row_0
  have h45 : RsB mdX12_placeIn r kb (tX12_placeIn_45 kb) := row_B hA h52 qX12_placeIn_52 (ck_n rfl) rfl (fun xs ys s => eX12_placeIn_52 kb (xs.getD 0 0) s)
  have h44 : RsB mdX12_placeIn r kb (tX12_placeIn_44 kb) := row_B hA h45 qX12_placeIn_45 (ck_n rfl) rfl (fun xs ys s => eX12_placeIn_45 kb (xs.getD 0 0) (xs.getD 1 0) (xs.getD 2 0) (xs.getD 3 0) (ys.getD 0 0) s)
  have h12 : RsB mdX12_placeIn r kb (tX12_placeIn_12 kb) := row_B hA h44 qX12_placeIn_44 (ck_n rfl) rfl (fun xs ys s => eX12_placeIn_44 kb (xs.getD 0 0) (xs.getD 1 0) (xs.getD 2 0) (xs.getD 3 0) (xs.getD 4 0) s)
  have h0 : RsB mdX12_placeIn r kb (tX12_placeIn_0 kb) := row_B hA h12 qX12_placeIn_12 (ck_n rfl) rfl (fun xs ys s => eX12_placeIn_12 kb (xs.getD 0 0) (xs.getD 1 0) (xs.getD 2 0) (xs.getD 3 0) (xs.getD 4 0) s)
  exact row_B hA h0 qX12_placeIn_0 (ck_n rfl) rfl (fun xs ys s => eX12_placeIn_0 kb (xs.getD 0 0) (xs.getD 1 0) s)
theorem iX12_placeIn (hA : AOK) : Impl mdX12_placeIn gX12_placeIn := ent_B (kk := kX12_placeIn) (rr := rX12_placeIn) (f := fun kb => fun xs ys s => fX12_placeIn_0 kb (xs.getD 0 0) (xs.getD 1 0) s) (by decide +kernel) rfl (fun _ => rfl) (fun r kb => pX12_placeIn hA r kb) (fun kb => ⟨_, rfl⟩) 9999 id (fun xs s => rfl) (fun xs => wkl_rf _)
-- FloatparadeModel.areNeighbours(III)Z
theorem mkX12_areNeighbours : MK mdX12_areNeighbours true := MKb_ok (h1 := 1644) (h2 := 76) (h3 := 1643) (h4 := 48) (by decide +kernel)
theorem qX12_areNeighbours_0 : blkb mdX12_areNeighbours 25 0 bX12_areNeighbours_0 [[], [], [1637], [], [], [1637], [], [], [], [], [], [], [], []] = true := by decide +kernel
theorem qX12_areNeighbours_25 : blkb mdX12_areNeighbours 0 25 bX12_areNeighbours_25 [[], []] = true := by decide +kernel
theorem qX12_areNeighbours_29 : blkb mdX12_areNeighbours 30 29 bX12_areNeighbours_29 [[]] = true := by decide +kernel
theorem qX12_areNeighbours_30 : blkb mdX12_areNeighbours 0 30 bX12_areNeighbours_30 [[]] = true := by decide +kernel
theorem pX12_areNeighbours (hA : AOK) (r : Rt) (kb : Co) : RsB mdX12_areNeighbours r kb (rX12_areNeighbours kb) := by
  have h30 : RsB mdX12_areNeighbours r kb (tX12_areNeighbours_30 kb) := row_0
  have h29 : RsB mdX12_areNeighbours r kb (tX12_areNeighbours_29 kb) := row_B hA h30 qX12_areNeighbours_30 (ck_n rfl) rfl (fun xs ys s => eX12_areNeighbours_30 kb (ys.getD 0 0) s)
  have h25 : RsB mdX12_areNeighbours r kb (tX12_areNeighbours_25 kb) := row_B hA h29 qX12_areNeighbours_29 (ck_n rfl) rfl (fun xs ys s => eX12_areNeighbours_29 kb s)
  have h0 : RsB mdX12_areNeighbours r kb (tX12_areNeighbours_0 kb) := row_B hA h25 qX12_areNeighbours_25 (ck_n rfl) rfl (fun xs ys s => eX12_areNeighbours_25 kb s)
  exact row_B hA h0 qX12_areNeighbours_0 (And.intro trivial (And.intro trivial (And.intro (co_of mkX12_placeIn (iX12_placeIn hA)) (And.intro trivial (And.intro trivial (And.intro (co_of mkX12_placeIn (iX12_placeIn hA)) (ck_n rfl))))))) rfl (fun xs ys s => eX12_areNeighbours_0 kb (xs.getD 0 0) (xs.getD 1 0) (xs.getD 2 0) s)
theorem iX12_areNeighbours (hA : AOK) : Impl mdX12_areNeighbours gX12_areNeighbours := ent_B (kk := kX12_areNeighbours) (rr := rX12_areNeighbours) (f := fun kb => fun xs ys s => fX12_areNeighbours_0 kb (xs.getD 0 0) (xs.getD 1 0) (xs.getD 2 0) s) (by decide +kernel) rfl (fun _ => rfl) (fun r kb => pX12_areNeighbours hA r kb) (fun kb => ⟨_, rfl⟩) 0 (fun xs => [xs.getD 0 0, xs.getD 2 0, xs.getD 3 0]) (fun xs s => rfl) (fun xs => (And.intro (Or.inr (Or.inl rfl)) (And.intro (Or.inl rfl) (And.intro (Or.inr (Or.inl rfl)) (And.intro (Or.inr (Or.inl rfl)) (And.intro (Or.inl rfl) trivial))))))
-- FloatparadeModel.change(II)Z
theorem mkX12_change : MK mdX12_change true := MKb_ok (h1 := 1636) (h2 := 76) (h3 := 1634) (h4 := 1635) (by decide +kernel)
theorem qX12_change_0 : blkb mdX12_change 0 0 bX12_change_0 [[], [], [1508], [], [], [], [1508], [], [], []] = true := by decide +kernel
theorem qX12_change_20 : blkb mdX12_change 21 20 bX12_change_20 [[]] = true := by decide +kernel
theorem qX12_change_21 : blkb mdX12_change 0 21 bX12_change_21 [[], [], [], [], [1353], [], [], [], [], [1353], [], [], [], [], [1331], [], [], [], [1331], [], [], [], [], [1359], [], [1331], [], [], [], [], [], []] = true := by decide +kernel
theorem qX12_change_77 : blkb mdX12_change 78 77 bX12_change_77 [[]] = true := by decide +kernel
theorem qX12_change_78 : blkb mdX12_change 0 78 bX12_change_78 [[], [], [], [], [], []] = true := by decide +kernel
theorem qX12_change_89 : blkb mdX12_change 0 89 bX12_change_89 [[], [], [], [], []] = true := by decide +kernel
theorem qX12_change_98 : blkb mdX12_change 0 98 bX12_change_98 [[], [], [], []] = true := by decide +kernel
theorem qX12_change_107 : blkb mdX12_change 108 107 bX12_change_107 [[]] = true := by decide +kernel
theorem qX12_change_108 : blkb mdX12_change 0 108 bX12_change_108 [[1500], [], [], []] = true := by decide +kernel
theorem qX12_change_116 : blkb mdX12_change 144 116 bX12_change_116 [[], [1331], [], [], [], [], [], [1637], [], [], [], [1637], [], [], [], [], []] = true := by decide +kernel
theorem qX12_change_144 : blkb mdX12_change 0 144 bX12_change_144 [[], [], [1355], [], [], [], [], [], [], [1356], [], [], [], [], [], [], [], []] = true := by decide +kernel
theorem qX12_change_179 : blkb mdX12_change 0 179 bX12_change_179 [[], [], [], [], []] = true := by decide +kernel
theorem qX12_change_191 : blkb mdX12_change 193 191 bX12_change_191 [[]] = true := by decide +kernel
theorem qX12_change_193 : blkb mdX12_change 0 193 bX12_change_193 [[], [], [], [], [1356], [], [], [], [], [], [], [], [], [], []] = true := by decide +kernel
theorem qX12_change_220 : blkb mdX12_change 0 220 bX12_change_220 [[], [], [], [], [], [], []] = true := by decide +kernel
theorem qX12_change_234 : blkb mdX12_change 238 234 bX12_change_234 [[], [], []] = true := by decide +kernel
theorem qX12_change_238 : blkb mdX12_change 276 238 bX12_change_238 [[], [], [], [], [], [], [1334], [], [], [], [], [], [], [], [], [], [], [], [1641], []] = true := by decide +kernel
theorem qX12_change_276 : blkb mdX12_change 0 276 bX12_change_276 [[], []] = true := by decide +kernel
theorem qX12_change_280 : blkb mdX12_change 281 280 bX12_change_280 [[]] = true := by decide +kernel
theorem qX12_change_281 : blkb mdX12_change 0 281 bX12_change_281 [[], [], []] = true := by decide +kernel
theorem qX12_change_289 : blkb mdX12_change 304 289 bX12_change_289 [[], [], [], [], [], [], [1629]] = true := by decide +kernel
theorem qX12_change_304 : blkb mdX12_change 0 304 bX12_change_304 [[], []] = true := by decide +kernel
theorem pX12_change (hA : AOK) (r : Rt) (kb : Co) : RsB mdX12_change r kb (rX12_change kb) := by
  have h304 : RsB mdX12_change r kb (tX12_change_304 kb) := row_0
  have h289 : RsB mdX12_change r kb (tX12_change_289 kb) := row_B hA h304 qX12_change_304 (ck_n rfl) rfl (fun xs ys s => eX12_change_304 kb (xs.getD 0 0) s)
  have h281 : RsB mdX12_change r kb (tX12_change_281 kb) := row_B hA h289 qX12_change_289 (And.intro trivial (And.intro trivial (And.intro trivial (And.intro trivial (And.intro trivial (And.intro trivial (And.intro (co_of mkX12_swaps (iX12_swaps hA)) (ck_n rfl)))))))) rfl (fun xs ys s => eX12_change_289 kb (xs.getD 0 0) (xs.getD 1 0) (xs.getD 2 0) (xs.getD 3 0) (xs.getD 4 0) s)
  have h280 : RsB mdX12_change r kb (tX12_change_280 kb) := row_B hA h281 qX12_change_281 (ck_n rfl) rfl (fun xs ys s => eX12_change_281 kb (xs.getD 0 0) (xs.getD 1 0) (xs.getD 2 0) (xs.getD 3 0) (xs.getD 4 0) (ys.getD 0 0) s)
  have h276 : RsB mdX12_change r kb (tX12_change_276 kb) := row_B hA h280 qX12_change_280 (ck_n rfl) rfl (fun xs ys s => eX12_change_280 kb (xs.getD 0 0) (xs.getD 1 0) (xs.getD 2 0) (xs.getD 3 0) (xs.getD 4 0) s)
  have h238 : RsB mdX12_change r kb (tX12_change_238 kb) := row_B hA h276 qX12_change_276 (ck_n rfl) rfl (fun xs ys s => eX12_change_276 kb (xs.getD 0 0) (xs.getD 1 0) (xs.getD 2 0) (xs.getD 3 0) (xs.getD 4 0) s)
  have h234 : RsB mdX12_change r kb (tX12_change_234 kb) := row_B hA h238 qX12_change_238 (And.intro trivial (And.intro trivial (And.intro trivial (And.intro trivial (And.intro trivial (And.intro trivial (And.intro trivial (And.intro trivial (And.intro trivial (And.intro trivial (And.intro trivial (And.intro trivial (And.intro trivial (And.intro trivial (And.intro trivial (And.intro trivial (And.intro trivial (And.intro trivial (And.intro (co_of mkX12_areNeighbours (iX12_areNeighbours hA)) (ck_n rfl)))))))))))))))))))) rfl (fun xs ys s => eX12_change_238 kb (xs.getD 0 0) (xs.getD 1 0) (xs.getD 2 0) (xs.getD 3 0) (xs.getD 4 0) (xs.getD 5 0) (xs.getD 6 0) (ys.getD 0 0) (ys.getD 1 0) (ys.getD 2 0) s)
  have h220 : RsB mdX12_change r kb (tX12_change_220 kb) := row_B hA h234 qX12_change_234 (ck_n rfl) rfl (fun xs ys s => eX12_change_234 kb (xs.getD 0 0) (xs.getD 1 0) (xs.getD 2 0) (xs.getD 3 0) (xs.getD 4 0) (xs.getD 5 0) (xs.getD 6 0) (ys.getD 0 0) (ys.getD 1 0) s)
  have h193 : RsB mdX12_change r kb (tX12_change_193 kb) := row_B hA h220 qX12_change_220 (ck_n rfl) rfl (fun xs ys s => eX12_change_220 kb (xs.getD 0 0) (xs.getD 1 0) (xs.getD 2 0) (xs.getD 3 0) (xs.getD 4 0) (xs.getD 5 0) (xs.getD 6 0) (ys.getD 0 0) (ys.getD 1 0) s)
  have h191 : RsB mdX12_change r kb (tX12_change_191 kb) := row_B hA h193 qX12_change_193 (ck_n rfl) rfl (fun xs ys s => eX12_change_193 kb (xs.getD 0 0) (xs.getD 1 0) (xs.getD 2 0) (xs.getD 3 0) (xs.getD 4 0) (xs.getD 5 0) (ys.getD 0 0) (ys.getD 1 0) (ys.getD 2 0) s)
  have h179 : RsB mdX12_change r kb (tX12_change_179 kb) := row_B hA h191 qX12_change_191 (ck_n rfl) rfl (fun xs ys s => eX12_change_191 kb (xs.getD 0 0) (xs.getD 1 0) (xs.getD 2 0) (xs.getD 3 0) (xs.getD 4 0) (xs.getD 5 0) (ys.getD 0 0) (ys.getD 1 0) s)
  have h144 : RsB mdX12_change r kb (tX12_change_144 kb) := row_B hA h179 qX12_change_179 (ck_n rfl) rfl (fun xs ys s => eX12_change_179 kb (xs.getD 0 0) (xs.getD 1 0) (xs.getD 2 0) (xs.getD 3 0) (xs.getD 4 0) (xs.getD 5 0) (ys.getD 0 0) (ys.getD 1 0) s)
  have h116 : RsB mdX12_change r kb (tX12_change_116 kb) := row_B hA h144 qX12_change_144 (ck_n rfl) rfl (fun xs ys s => eX12_change_144 kb (xs.getD 0 0) (xs.getD 1 0) (xs.getD 2 0) (xs.getD 3 0) (xs.getD 4 0) (xs.getD 5 0) s)
  have h108 : RsB mdX12_change r kb (tX12_change_108 kb) := row_B hA h116 qX12_change_116 (And.intro trivial (And.intro trivial (And.intro trivial (And.intro trivial (And.intro trivial (And.intro trivial (And.intro trivial (And.intro (co_of mkX12_placeIn (iX12_placeIn hA)) (And.intro trivial (And.intro trivial (And.intro trivial (And.intro (co_of mkX12_placeIn (iX12_placeIn hA)) (ck_n rfl))))))))))))) rfl (fun xs ys s => eX12_change_116 kb (xs.getD 0 0) (xs.getD 1 0) (xs.getD 2 0) s)
  have h107 : RsB mdX12_change r kb (tX12_change_107 kb) := row_B hA h108 qX12_change_108 (And.intro (co_of mkX12_holds (iX12_holds hA)) (ck_n rfl)) rfl (fun xs ys s => eX12_change_108 kb (xs.getD 0 0) (xs.getD 1 0) (xs.getD 2 0) (ys.getD 0 0) (ys.getD 1 0) s)
  have h98 : RsB mdX12_change r kb (tX12_change_98 kb) := row_B hA h107 qX12_change_107 (ck_n rfl) rfl (fun xs ys s => eX12_change_107 kb (xs.getD 0 0) (xs.getD 1 0) (xs.getD 2 0) (ys.getD 0 0) s)
  have h89 : RsB mdX12_change r kb (tX12_change_89 kb) := row_B hA h98 qX12_change_98 (ck_n rfl) rfl (fun xs ys s => eX12_change_98 kb (xs.getD 0 0) (xs.getD 1 0) (xs.getD 2 0) (xs.getD 3 0) (ys.getD 0 0) s)
  have h78 : RsB mdX12_change r kb (tX12_change_78 kb) := row_B hA h89 qX12_change_89 (ck_n rfl) rfl (fun xs ys s => eX12_change_89 kb (xs.getD 0 0) (xs.getD 1 0) (xs.getD 2 0) (xs.getD 3 0) (ys.getD 0 0) s)
  have h77 : RsB mdX12_change r kb (tX12_change_77 kb) := row_B hA h78 qX12_change_78 (ck_n rfl) rfl (fun xs ys s => eX12_change_78 kb (xs.getD 0 0) (xs.getD 1 0) (xs.getD 2 0) (xs.getD 3 0) (ys.getD 0 0) s)
  have h21 : RsB mdX12_change r kb (tX12_change_21 kb) := row_B hA h77 qX12_change_77 (ck_n rfl) rfl (fun xs ys s => eX12_change_77 kb (xs.getD 0 0) (xs.getD 1 0) (xs.getD 2 0) (xs.getD 3 0) s)
  have h20 : RsB mdX12_change r kb (tX12_change_20 kb) := row_B hA h21 qX12_change_21 (ck_n rfl) rfl (fun xs ys s => eX12_change_21 kb (xs.getD 0 0) (xs.getD 1 0) (xs.getD 2 0) (ys.getD 0 0) s)
  have h0 : RsB mdX12_change r kb (tX12_change_0 kb) := row_B hA h20 qX12_change_20 (ck_n rfl) rfl (fun xs ys s => eX12_change_20 kb (xs.getD 0 0) (xs.getD 1 0) (xs.getD 2 0) s)
  exact row_B hA h0 qX12_change_0 (And.intro trivial (And.intro trivial (And.intro (co_of mkX12_isSociety (iX12_isSociety hA)) (And.intro trivial (And.intro trivial (And.intro trivial (And.intro (co_of mkX12_isSociety (iX12_isSociety hA)) (ck_n rfl)))))))) rfl (fun xs ys s => eX12_change_0 kb (xs.getD 0 0) (xs.getD 1 0) (xs.getD 2 0) s)
theorem iX12_change (hA : AOK) : Impl mdX12_change gX12_change := ent_B (kk := kX12_change) (rr := rX12_change) (f := fun kb => fun xs ys s => fX12_change_0 kb (xs.getD 0 0) (xs.getD 1 0) (xs.getD 2 0) s) (by decide +kernel) rfl (fun _ => rfl) (fun r kb => pX12_change hA r kb) (fun kb => ⟨_, rfl⟩) 9999 id (fun xs s => rfl) (fun xs => wkl_rf _)
-- FloatparadeModel.order(II)I
theorem mkX12_order : MK mdX12_order true := MKb_ok (h1 := 1648) (h2 := 76) (h3 := 1646) (h4 := 1647) (by decide +kernel)
theorem qX12_order_0 : blkb mdX12_order 0 0 bX12_order_0 [[], [], [], [], []] = true := by decide +kernel
theorem qX12_order_9 : blkb mdX12_order 0 9 bX12_order_9 [[], [1494], [], [], []] = true := by decide +kernel
theorem qX12_order_20 : blkb mdX12_order 21 20 bX12_order_20 [[]] = true := by decide +kernel
theorem qX12_order_21 : blkb mdX12_order 0 21 bX12_order_21 [[1500], [], [], []] = true := by decide +kernel
theorem qX12_order_29 : blkb mdX12_order 0 29 bX12_order_29 [[], [], [1355], [], [], [], [], [1356], [], [], [], [], [], [], []] = true := by decide +kernel
theorem qX12_order_53 : blkb mdX12_order 54 53 bX12_order_53 [[]] = true := by decide +kernel
theorem qX12_order_54 : blkb mdX12_order 0 54 bX12_order_54 [[]] = true := by decide +kernel
theorem pX12_order (hA : AOK) (r : Rt) (kb : Co) : RsB mdX12_order r kb (rX12_order kb) := by
  have h54 : RsB mdX12_order r kb (tX12_order_54 kb) := row_0
  have h53 : RsB mdX12_order r kb (tX12_order_53 kb) := row_B hA h54 qX12_order_54 (ck_n rfl) rfl (fun xs ys s => eX12_order_54 kb (ys.getD 0 0) s)
  have h29 : RsB mdX12_order r kb (tX12_order_29 kb) := row_B hA h53 qX12_order_53 (ck_n rfl) rfl (fun xs ys s => eX12_order_53 kb s)
  have h21 : RsB mdX12_order r kb (tX12_order_21 kb) := row_B hA h29 qX12_order_29 (ck_n rfl) rfl (fun xs ys s => eX12_order_29 kb (xs.getD 0 0) (xs.getD 1 0) (xs.getD 2 0) s)
  have h20 : RsB mdX12_order r kb (tX12_order_20 kb) := row_B hA h21 qX12_order_21 (And.intro (co_of mkX12_holds (iX12_holds hA)) (ck_n rfl)) rfl (fun xs ys s => eX12_order_21 kb (xs.getD 0 0) (xs.getD 1 0) (xs.getD 2 0) (ys.getD 0 0) (ys.getD 1 0) s)
  have h9 : RsB mdX12_order r kb (tX12_order_9 kb) := row_B hA h20 qX12_order_20 (ck_n rfl) rfl (fun xs ys s => eX12_order_20 kb (xs.getD 0 0) (xs.getD 1 0) (xs.getD 2 0) (ys.getD 0 0) s)
  have h0 : RsB mdX12_order r kb (tX12_order_0 kb) := row_B hA h9 qX12_order_9 (And.intro trivial (And.intro (co_of mkX12_isLeague (iX12_isLeague hA)) (ck_n rfl))) rfl (fun xs ys s => eX12_order_9 kb (xs.getD 0 0) (xs.getD 1 0) (xs.getD 2 0) (ys.getD 0 0) s)
  exact row_B hA h0 qX12_order_0 (ck_n rfl) rfl (fun xs ys s => eX12_order_0 kb (xs.getD 0 0) (xs.getD 1 0) (xs.getD 2 0) s)
theorem iX12_order (hA : AOK) : Impl mdX12_order gX12_order := ent_B (kk := kX12_order) (rr := rX12_order) (f := fun kb => fun xs ys s => fX12_order_0 kb (xs.getD 0 0) (xs.getD 1 0) (xs.getD 2 0) s) (by decide +kernel) rfl (fun _ => rfl) (fun r kb => pX12_order hA r kb) (fun kb => ⟨_, rfl⟩) 0 id (fun xs s => rfl) (fun xs => wkl_rf _)
-- FloatparadeModel.adds(IIII)V
theorem mkX12_adds : MK mdX12_adds true := MKb_ok (h1 := 1656) (h2 := 76) (h3 := 1655) (h4 := 49) (by decide +kernel)
theorem qX12_adds_0 : blkb mdX12_adds 0 0 bX12_adds_0 [[], [], [], [], [1363], [], [], [], [], [], [1364], [], [], [], [], [1365], [], [], [], [], [1366], [], [], [], [], [1367], [], [], [], [], [1368], [], [], [], [], [1369], [], [], [], [], [1363], [], [], [], [], [], [], []] = true := by decide +kernel
theorem pX12_adds (hA : AOK) (r : Rt) (kb : Co) : RsB mdX12_adds r kb (rX12_adds kb) := by
  have h0 : RsB mdX12_adds r kb (tX12_adds_0 kb) := row_0
  exact row_B hA h0 qX12_adds_0 (ck_n rfl) rfl (fun xs ys s => eX12_adds_0 kb (xs.getD 0 0) (xs.getD 1 0) (xs.getD 2 0) (xs.getD 3 0) (xs.getD 4 0) s)
theorem iX12_adds (hA : AOK) : Impl mdX12_adds gX12_adds := ent_B (kk := kX12_adds) (rr := rX12_adds) (f := fun kb => fun xs ys s => fX12_adds_0 kb (xs.getD 0 0) (xs.getD 1 0) (xs.getD 2 0) (xs.getD 3 0) (xs.getD 4 0) s) (by decide +kernel) rfl (fun _ => rfl) (fun r kb => pX12_adds hA r kb) (fun kb => ⟨_, rfl⟩) 0 id (fun xs s => rfl) (fun xs => wkl_rf _)
-- FloatparadeModel.begin(III)I
theorem mkX12_begin : MK mdX12_begin true := MKb_ok (h1 := 1652) (h2 := 76) (h3 := 1650) (h4 := 1651) (by decide +kernel)
theorem qX12_begin_0 : blkb mdX12_begin 0 0 bX12_begin_0 [[], [1494], [], [], [], [], [1497], [], [], [], [], [1497], [], [], []] = true := by decide +kernel
theorem qX12_begin_33 : blkb mdX12_begin 34 33 bX12_begin_33 [[]] = true := by decide +kernel
theorem qX12_begin_34 : blkb mdX12_begin 0 34 bX12_begin_34 [[], [], [], [], [], []] = true := by decide +kernel
theorem qX12_begin_46 : blkb mdX12_begin 64 46 bX12_begin_46 [[], [1359], [], [], [], [], [1355], [], [], []] = true := by decide +kernel
theorem qX12_begin_64 : blkb mdX12_begin 0 64 bX12_begin_64 [[], []] = true := by decide +kernel
theorem qX12_begin_68 : blkb mdX12_begin 69 68 bX12_begin_68 [[]] = true := by decide +kernel
theorem qX12_begin_69 : blkb mdX12_begin 0 69 bX12_begin_69 [[1500], [], [], []] = true := by decide +kernel
theorem qX12_begin_77 : blkb mdX12_begin 115 77 bX12_begin_77 [[], [1359], [], [], [], [], [1360], [], [], [], [], [1361], [], [], [], [], [1362], [], [], [], [], [1363], [], [], [], [], []] = true := by decide +kernel
theorem qX12_begin_115 : blkb mdX12_begin 0 115 bX12_begin_115 [[], [], [], [], [1370], [], [], [], [], [], [], [], [], []] = true := by decide +kernel
theorem qX12_begin_141 : blkb mdX12_begin 144 141 bX12_begin_141 [[], []] = true := by decide +kernel
theorem qX12_begin_144 : blkb mdX12_begin 0 144 bX12_begin_144 [[], [], [1355], [], [], [], [], [1356], [], [], [], [], [], [], [], [], [1332], [], [], [], [], [], [], [], [], [], [], [], []] = true := by decide +kernel
theorem qX12_begin_195 : blkb mdX12_begin 197 195 bX12_begin_195 [[]] = true := by decide +kernel
theorem qX12_begin_197 : blkb mdX12_begin 202 197 bX12_begin_197 [[], [], []] = true := by decide +kernel
theorem qX12_begin_202 : blkb mdX12_begin 0 202 bX12_begin_202 [[], [], [1341], [], [], [], [], [], [], [], [], [1342], [], [], [1586], [], [], [], [1653], [], [], [], [], [], [1653], [], []] = true := by decide +kernel
theorem qX12_begin_253 : blkb mdX12_begin 273 253 bX12_begin_253 [[], [1341], [], [], [], [], [], [], [], [], [1653]] = true := by decide +kernel
theorem qX12_begin_273 : blkb mdX12_begin 0 273 bX12_begin_273 [[], []] = true := by decide +kernel
theorem qX12_begin_279 : blkb mdX12_begin 0 279 bX12_begin_279 [[], [1363], [], [], []] = true := by decide +kernel
theorem pX12_begin (hA : AOK) (r : Rt) (kb : Co) : RsB mdX12_begin r kb (rX12_begin kb) := by
  have h279 : RsB mdX12_begin r kb (tX12_begin_279 kb) := row_0
  have h273 : RsB mdX12_begin r kb (tX12_begin_273 kb) := row_B hA h279 qX12_begin_279 (ck_n rfl) rfl (fun xs ys s => eX12_begin_279 kb (xs.getD 0 0) (xs.getD 1 0) s)
  have h253 : RsB mdX12_begin r kb (tX12_begin_253 kb) := row_B hA h273 qX12_begin_273 (ck_n rfl) rfl (fun xs ys s => eX12_begin_273 kb (xs.getD 0 0) (xs.getD 1 0) (xs.getD 2 0) s)
  have h202 : RsB mdX12_begin r kb (tX12_begin_202 kb) := row_B hA h253 qX12_begin_253 (And.intro trivial (And.intro trivial (And.intro trivial (And.intro trivial (And.intro trivial (And.intro trivial (And.intro trivial (And.intro trivial (And.intro trivial (And.intro trivial (And.intro (co_of mkX12_adds (iX12_adds hA)) (ck_n rfl)))))))))))) rfl (fun xs ys s => eX12_begin_253 kb (xs.getD 0 0) (xs.getD 1 0) (xs.getD 2 0) (xs.getD 3 0) (xs.getD 4 0) s)
  have h197 : RsB mdX12_begin r kb (tX12_begin_197 kb) := row_B hA h202 qX12_begin_202 (And.intro trivial (And.intro trivial (And.intro trivial (And.intro trivial (And.intro trivial (And.intro trivial (And.intro trivial (And.intro trivial (And.intro trivial (And.intro trivial (And.intro trivial (And.intro trivial (And.intro trivial (And.intro trivial (And.intro (co_of mkX12_at (iX12_at hA)) (And.intro trivial (And.intro trivial (And.intro trivial (And.intro (co_of mkX12_adds (iX12_adds hA)) (And.intro trivial (And.intro trivial (And.intro trivial (And.intro trivial (And.intro trivial (And.intro (co_of mkX12_adds (iX12_adds hA)) (ck_n rfl)))))))))))))))))))))))))) rfl (fun xs ys s => eX12_begin_202 kb (xs.getD 0 0) (xs.getD 1 0) (xs.getD 2 0) (xs.getD 3 0) (xs.getD 4 0) (xs.getD 5 0) s)
  have h195 : RsB mdX12_begin r kb (tX12_begin_195 kb) := row_B hA h197 qX12_begin_197 (ck_n rfl) rfl (fun xs ys s => eX12_begin_197 kb (xs.getD 0 0) (xs.getD 1 0) (xs.getD 2 0) (xs.getD 3 0) (ys.getD 0 0) s)
  have h144 : RsB mdX12_begin r kb (tX12_begin_144 kb) := row_B hA h195 qX12_begin_195 (ck_n rfl) rfl (fun xs ys s => eX12_begin_195 kb (xs.getD 0 0) (xs.getD 1 0) (xs.getD 2 0) (xs.getD 3 0) (xs.getD 4 0) s)
  have h141 : RsB mdX12_begin r kb (tX12_begin_141 kb) := row_B hA h144 qX12_begin_144 (ck_n rfl) rfl (fun xs ys s => eX12_begin_144 kb (xs.getD 0 0) (xs.getD 1 0) (xs.getD 2 0) s)
  have h115 : RsB mdX12_begin r kb (tX12_begin_115 kb) := row_B hA h141 qX12_begin_141 (ck_n rfl) rfl (fun xs ys s => eX12_begin_141 kb (xs.getD 0 0) (xs.getD 1 0) s)
  have h77 : RsB mdX12_begin r kb (tX12_begin_77 kb) := row_B hA h115 qX12_begin_115 (ck_n rfl) rfl (fun xs ys s => eX12_begin_115 kb (xs.getD 0 0) (xs.getD 1 0) (xs.getD 2 0) s)
  have h69 : RsB mdX12_begin r kb (tX12_begin_69 kb) := row_B hA h77 qX12_begin_77 (ck_n rfl) rfl (fun xs ys s => eX12_begin_77 kb (xs.getD 0 0) (xs.getD 1 0) (xs.getD 2 0) (xs.getD 3 0) s)
  have h68 : RsB mdX12_begin r kb (tX12_begin_68 kb) := row_B hA h69 qX12_begin_69 (And.intro (co_of mkX12_holds (iX12_holds hA)) (ck_n rfl)) rfl (fun xs ys s => eX12_begin_69 kb (xs.getD 0 0) (xs.getD 1 0) (xs.getD 2 0) (xs.getD 3 0) (ys.getD 0 0) (ys.getD 1 0) s)
  have h64 : RsB mdX12_begin r kb (tX12_begin_64 kb) := row_B hA h68 qX12_begin_68 (ck_n rfl) rfl (fun xs ys s => eX12_begin_68 kb (xs.getD 0 0) (xs.getD 1 0) (xs.getD 2 0) (xs.getD 3 0) (ys.getD 0 0) s)
  have h46 : RsB mdX12_begin r kb (tX12_begin_46 kb) := row_B hA h64 qX12_begin_64 (ck_n rfl) rfl (fun xs ys s => eX12_begin_64 kb (xs.getD 0 0) (xs.getD 1 0) (xs.getD 2 0) (xs.getD 3 0) (ys.getD 0 0) s)
  have h34 : RsB mdX12_begin r kb (tX12_begin_34 kb) := row_B hA h46 qX12_begin_46 (ck_n rfl) rfl (fun xs ys s => eX12_begin_46 kb (xs.getD 0 0) (xs.getD 1 0) (xs.getD 2 0) (xs.getD 3 0) (ys.getD 0 0) s)
  have h33 : RsB mdX12_begin r kb (tX12_begin_33 kb) := row_B hA h34 qX12_begin_34 (ck_n rfl) rfl (fun xs ys s => eX12_begin_34 kb (xs.getD 0 0) (xs.getD 1 0) (xs.getD 2 0) (xs.getD 3 0) (ys.getD 0 0) s)
  have h0 : RsB mdX12_begin r kb (tX12_begin_0 kb) := row_B hA h33 qX12_begin_33 (ck_n rfl) rfl (fun xs ys s => eX12_begin_33 kb (xs.getD 0 0) (xs.getD 1 0) (xs.getD 2 0) (xs.getD 3 0) s)
  exact row_B hA h0 qX12_begin_0 (And.intro trivial (And.intro (co_of mkX12_isLeague (iX12_isLeague hA)) (And.intro trivial (And.intro trivial (And.intro trivial (And.intro trivial (And.intro (co_of mkX12_in (iX12_in hA)) (And.intro trivial (And.intro trivial (And.intro trivial (And.intro trivial (And.intro (co_of mkX12_in (iX12_in hA)) (ck_n rfl))))))))))))) rfl (fun xs ys s => eX12_begin_0 kb (xs.getD 0 0) (xs.getD 1 0) (xs.getD 2 0) (xs.getD 3 0) s)
theorem iX12_begin (hA : AOK) : Impl mdX12_begin gX12_begin := ent_B (kk := kX12_begin) (rr := rX12_begin) (f := fun kb => fun xs ys s => fX12_begin_0 kb (xs.getD 0 0) (xs.getD 1 0) (xs.getD 2 0) (xs.getD 3 0) s) (by decide +kernel) rfl (fun _ => rfl) (fun r kb => pX12_begin hA r kb) (fun kb => ⟨_, rfl⟩) 9999 id (fun xs s => rfl) (fun xs => wkl_rf _)
-- FloatparadeModel.tailOf(I)I
theorem mkX12_tailOf : MK mdX12_tailOf true := MKb_ok (h1 := 1668) (h2 := 76) (h3 := 1667) (h4 := 51) (by decide +kernel)
theorem qX12_tailOf_0 : blkb mdX12_tailOf 0 0 bX12_tailOf_0 [[], [1367], [], [], [], [1366], [], [], [], [], [], []] = true := by decide +kernel
theorem pX12_tailOf (hA : AOK) (r : Rt) (kb : Co) : RsB mdX12_tailOf r kb (rX12_tailOf kb) := by
  have h0 : RsB mdX12_tailOf r kb (tX12_tailOf_0 kb) := row_0
  exact row_B hA h0 qX12_tailOf_0 (ck_n rfl) rfl (fun xs ys s => eX12_tailOf_0 kb (xs.getD 0 0) (xs.getD 1 0) s)
theorem iX12_tailOf (hA : AOK) : Impl mdX12_tailOf gX12_tailOf := ent_B (kk := kX12_tailOf) (rr := rX12_tailOf) (f := fun kb => fun xs ys s => fX12_tailOf_0 kb (xs.getD 0 0) (xs.getD 1 0) s) (by decide +kernel) rfl (fun _ => rfl) (fun r kb => pX12_tailOf hA r kb) (fun kb => ⟨_, rfl⟩) 0 id (fun xs s => rfl) (fun xs => wkl_rf _)
-- FloatparadeModel.isOut(II)Z
theorem mkX12_isOut : MK mdX12_isOut true := MKb_ok (h1 := 1664) (h2 := 76) (h3 := 1663) (h4 := 50) (by decide +kernel)
theorem qX12_isOut_0 : blkb mdX12_isOut 0 0 bX12_isOut_0 [[], [], [], [], [], [], [1665], [], [], [1570], [], [], []] = true := by decide +kernel
theorem qX12_isOut_22 : blkb mdX12_isOut 23 22 bX12_isOut_22 [[]] = true := by decide +kernel
theorem qX12_isOut_23 : blkb mdX12_isOut 0 23 bX12_isOut_23 [[]] = true := by decide +kernel
theorem pX12_isOut (hA : AOK) (r : Rt) (kb : Co) : RsB mdX12_isOut r kb (rX12_isOut kb) := by
  have h23 : RsB mdX12_isOut r kb (tX12_isOut_23 kb) := row_0
  have h22 : RsB mdX12_isOut r kb (tX12_isOut_22 kb) := row_B hA h23 qX12_isOut_23 (ck_n rfl) rfl (fun xs ys s => eX12_isOut_23 kb (ys.getD 0 0) s)
  have h0 : RsB mdX12_isOut r kb (tX12_isOut_0 kb) := row_B hA h22 qX12_isOut_22 (ck_n rfl) rfl (fun xs ys s => eX12_isOut_22 kb s)
  exact row_B hA h0 qX12_isOut_0 (And.intro trivial (And.intro trivial (And.intro trivial (And.intro trivial (And.intro trivial (And.intro trivial (And.intro (co_of mkX12_tailOf (iX12_tailOf hA)) (And.intro trivial (And.intro trivial (And.intro (co_of mkX12_cells (iX12_cells hA)) (ck_n rfl))))))))))) rfl (fun xs ys s => eX12_isOut_0 kb (xs.getD 0 0) (xs.getD 1 0) (xs.getD 2 0) s)
theorem iX12_isOut (hA : AOK) : Impl mdX12_isOut gX12_isOut := ent_B (kk := kX12_isOut) (rr := rX12_isOut) (f := fun kb => fun xs ys s => fX12_isOut_0 kb (xs.getD 0 0) (xs.getD 1 0) (xs.getD 2 0) s) (by decide +kernel) rfl (fun _ => rfl) (fun r kb => pX12_isOut hA r kb) (fun kb => ⟨_, rfl⟩) 0 id (fun xs s => rfl) (fun xs => wkl_rf _)
-- FloatparadeModel.stop(III)I
theorem mkX12_stop : MK mdX12_stop true := MKb_ok (h1 := 1660) (h2 := 76) (h3 := 1658) (h4 := 1659) (by decide +kernel)
theorem qX12_stop_0 : blkb mdX12_stop 0 0 bX12_stop_0 [[], [1494], [], [], [], [], [1497], [], [], []] = true := by decide +kernel
theorem qX12_stop_21 : blkb mdX12_stop 22 21 bX12_stop_21 [[]] = true := by decide +kernel
theorem qX12_stop_22 : blkb mdX12_stop 0 22 bX12_stop_22 [[], [], [], [], [1359], [], [], [], [], [], []] = true := by decide +kernel
theorem qX12_stop_43 : blkb mdX12_stop 44 43 bX12_stop_43 [[]] = true := by decide +kernel
theorem qX12_stop_44 : blkb mdX12_stop 0 44 bX12_stop_44 [[], [], [], [], [], [], [1363], [], [], [], [], [1497], [], [], [], [], [1661], [], [], []] = true := by decide +kernel
theorem qX12_stop_80 : blkb mdX12_stop 81 80 bX12_stop_80 [[]] = true := by decide +kernel
theorem qX12_stop_81 : blkb mdX12_stop 0 81 bX12_stop_81 [[], [], [], [], [], []] = true := by decide +kernel
theorem qX12_stop_93 : blkb mdX12_stop 0 93 bX12_stop_93 [[], [], [], []] = true := by decide +kernel
theorem qX12_stop_102 : blkb mdX12_stop 0 102 bX12_stop_102 [[], [], [], []] = true := by decide +kernel
theorem qX12_stop_111 : blkb mdX12_stop 112 111 bX12_stop_111 [[]] = true := by decide +kernel
theorem qX12_stop_112 : blkb mdX12_stop 0 112 bX12_stop_112 [[1500], [], [], []] = true := by decide +kernel
theorem qX12_stop_120 : blkb mdX12_stop 0 120 bX12_stop_120 [[], [1368], [], [], [], [], [], [], [], [], [], [], [], [1368], [], [], [], [], [], [], []] = true := by decide +kernel
theorem pX12_stop (hA : AOK) (r : Rt) (kb : Co) : RsB mdX12_stop r kb (rX12_stop kb) := by
  have h120 : RsB mdX12_stop r kb (tX12_stop_120 kb) := row_0
  have h112 : RsB mdX12_stop r kb (tX12_stop_112 kb) := row_B hA h120 qX12_stop_120 (ck_n rfl) rfl (fun xs ys s => eX12_stop_120 kb (xs.getD 0 0) (xs.getD 1 0) (xs.getD 2 0) (xs.getD 3 0) s)
  have h111 : RsB mdX12_stop r kb (tX12_stop_111 kb) := row_B hA h112 qX12_stop_112 (And.intro (co_of mkX12_holds (iX12_holds hA)) (ck_n rfl)) rfl (fun xs ys s => eX12_stop_112 kb (xs.getD 0 0) (xs.getD 1 0) (xs.getD 2 0) (xs.getD 3 0) (ys.getD 0 0) (ys.getD 1 0) s)
  have h102 : RsB mdX12_stop r kb (tX12_stop_102 kb) := row_B hA h111 qX12_stop_111 (ck_n rfl) rfl (fun xs ys s => eX12_stop_111 kb (xs.getD 0 0) (xs.getD 1 0) (xs.getD 2 0) (xs.getD 3 0) (ys.getD 0 0) s)
  have h93 : RsB mdX12_stop r kb (tX12_stop_93 kb) := row_B hA h102 qX12_stop_102 (ck_n rfl) rfl (fun xs ys s => eX12_stop_102 kb (xs.getD 0 0) (xs.getD 1 0) (xs.getD 2 0) (xs.getD 3 0) (xs.getD 4 0) (ys.getD 0 0) s)
  have h81 : RsB mdX12_stop r kb (tX12_stop_81 kb) := row_B hA h93 qX12_stop_93 (ck_n rfl) rfl (fun xs ys s => eX12_stop_93 kb (xs.getD 0 0) (xs.getD 1 0) (xs.getD 2 0) (xs.getD 3 0) (xs.getD 4 0) (xs.getD 5 0) (ys.getD 0 0) s)
  have h80 : RsB mdX12_stop r kb (tX12_stop_80 kb) := row_B hA h81 qX12_stop_81 (ck_n rfl) rfl (fun xs ys s => eX12_stop_81 kb (xs.getD 0 0) (xs.getD 1 0) (xs.getD 2 0) (xs.getD 3 0) (xs.getD 4 0) (xs.getD 5 0) (ys.getD 0 0) s)
  have h44 : RsB mdX12_stop r kb (tX12_stop_44 kb) := row_B hA h80 qX12_stop_80 (ck_n rfl) rfl (fun xs ys s => eX12_stop_80 kb (xs.getD 0 0) (xs.getD 1 0) (xs.getD 2 0) (xs.getD 3 0) (xs.getD 4 0) (xs.getD 5 0) s)
  have h43 : RsB mdX12_stop r kb (tX12_stop_43 kb) := row_B hA h44 qX12_stop_44 (And.intro trivial (And.intro trivial (And.intro trivial (And.intro trivial (And.intro trivial (And.intro trivial (And.intro trivial (And.intro trivial (And.intro trivial (And.intro trivial (And.intro trivial (And.intro (co_of mkX12_in (iX12_in hA)) (And.intro trivial (And.intro trivial (And.intro trivial (And.intro trivial (And.intro (co_of mkX12_isOut (iX12_isOut hA)) (ck_n rfl)))))))))))))))))) rfl (fun xs ys s => eX12_stop_44 kb (xs.getD 0 0) (xs.getD 1 0) (xs.getD 2 0) (xs.getD 3 0) (xs.getD 4 0) (ys.getD 0 0) s)
  have h22 : RsB mdX12_stop r kb (tX12_stop_22 kb) := row_B hA h43 qX12_stop_43 (ck_n rfl) rfl (fun xs ys s => eX12_stop_43 kb (xs.getD 0 0) (xs.getD 1 0) (xs.getD 2 0) (xs.getD 3 0) (xs.getD 4 0) s)
  have h21 : RsB mdX12_stop r kb (tX12_stop_21 kb) := row_B hA h22 qX12_stop_22 (ck_n rfl) rfl (fun xs ys s => eX12_stop_22 kb (xs.getD 0 0) (xs.getD 1 0) (xs.getD 2 0) (xs.getD 3 0) (ys.getD 0 0) s)
  have h0 : RsB mdX12_stop r kb (tX12_stop_0 kb) := row_B hA h21 qX12_stop_21 (ck_n rfl) rfl (fun xs ys s => eX12_stop_21 kb (xs.getD 0 0) (xs.getD 1 0) (xs.getD 2 0) (xs.getD 3 0) s)
  exact row_B hA h0 qX12_stop_0 (And.intro trivial (And.intro (co_of mkX12_isLeague (iX12_isLeague hA)) (And.intro trivial (And.intro trivial (And.intro trivial (And.intro trivial (And.intro (co_of mkX12_in (iX12_in hA)) (ck_n rfl)))))))) rfl (fun xs ys s => eX12_stop_0 kb (xs.getD 0 0) (xs.getD 1 0) (xs.getD 2 0) (xs.getD 3 0) s)
theorem iX12_stop (hA : AOK) : Impl mdX12_stop gX12_stop := ent_B (kk := kX12_stop) (rr := rX12_stop) (f := fun kb => fun xs ys s => fX12_stop_0 kb (xs.getD 0 0) (xs.getD 1 0) (xs.getD 2 0) (xs.getD 3 0) s) (by decide +kernel) rfl (fun _ => rfl) (fun r kb => pX12_stop hA r kb) (fun kb => ⟨_, rfl⟩) 0 id (fun xs s => rfl) (fun xs => wkl_rf _)
-- FloatparadeModel.rain(Z)Z
theorem mkX12_rain : MK mdX12_rain true := MKb_ok (h1 := 1672) (h2 := 76) (h3 := 1670) (h4 := 1671) (by decide +kernel)
theorem qX12_rain_0 : blkb mdX12_rain 0 0 bX12_rain_0 [[], [], [1329], [], [1371], [], [], [], [1371], [], []] = true := by decide +kernel
theorem pX12_rain (hA : AOK) (r : Rt) (kb : Co) : RsB mdX12_rain r kb (rX12_rain kb) := by
  have h0 : RsB mdX12_rain r kb (tX12_rain_0 kb) := row_0
  exact row_B hA h0 qX12_rain_0 (ck_n rfl) rfl (fun xs ys s => eX12_rain_0 kb (xs.getD 0 0) (xs.getD 1 0) s)
theorem iX12_rain (hA : AOK) : Impl mdX12_rain gX12_rain := ent_B (kk := kX12_rain) (rr := rX12_rain) (f := fun kb => fun xs ys s => fX12_rain_0 kb (xs.getD 0 0) (xs.getD 1 0) s) (by decide +kernel) rfl (fun _ => rfl) (fun r kb => pX12_rain hA r kb) (fun kb => ⟨_, rfl⟩) 0 id (fun xs s => rfl) (fun xs => wkl_rf _)
-- FloatparadeModel.ambulance(I)I
theorem mkX12_ambulance : MK mdX12_ambulance true := MKb_ok (h1 := 1676) (h2 := 76) (h3 := 1674) (h4 := 1675) (by decide +kernel)
theorem qX12_ambulance_0 : blkb mdX12_ambulance 0 0 bX12_ambulance_0 [[], [], [1543], [], [], []] = true := by decide +kernel
theorem qX12_ambulance_12 : blkb mdX12_ambulance 13 12 bX12_ambulance_12 [[]] = true := by decide +kernel
theorem qX12_ambulance_13 : blkb mdX12_ambulance 0 13 bX12_ambulance_13 [[1500], [], [], []] = true := by decide +kernel
theorem qX12_ambulance_21 : blkb mdX12_ambulance 25 21 bX12_ambulance_21 [[], [], [], []] = true := by decide +kernel
theorem qX12_ambulance_25 : blkb mdX12_ambulance 81 25 bX12_ambulance_25 [[], [], [], [], [], [], [1566], [], [], [1359], [], [], [], [], [], [], [], [], [], [], [1677], [], [], [1370], [], [], [], [], [], [], [], [], [], [], []] = true := by decide +kernel
theorem qX12_ambulance_81 : blkb mdX12_ambulance 0 81 bX12_ambulance_81 [[], [], [], [], [], [1363], [], [], [], [], [], [], [], [], [1665], [], [1367], [], [], [1497], [], [], []] = true := by decide +kernel
theorem qX12_ambulance_123 : blkb mdX12_ambulance 124 123 bX12_ambulance_123 [[]] = true := by decide +kernel
theorem qX12_ambulance_124 : blkb mdX12_ambulance 0 124 bX12_ambulance_124 [[], [], [], []] = true := by decide +kernel
theorem qX12_ambulance_132 : blkb mdX12_ambulance 0 132 bX12_ambulance_132 [[], []] = true := by decide +kernel
theorem qX12_ambulance_138 : blkb mdX12_ambulance 0 138 bX12_ambulance_138 [[], []] = true := by decide +kernel
theorem pX12_ambulance (hA : AOK) (r : Rt) (kb : Co) : RsB mdX12_ambulance r kb (rX12_ambulance kb) := by
  have h138 : RsB mdX12_ambulance r kb (tX12_ambulance_138 kb) := row_0
  have h132 : RsB mdX12_ambulance r kb (tX12_ambulance_132 kb) := row_B hA h138 qX12_ambulance_138 (ck_n rfl) rfl (fun xs ys s => eX12_ambulance_138 kb (xs.getD 0 0) s)
  have h124 : RsB mdX12_ambulance r kb (tX12_ambulance_124 kb) := row_B hA h132 qX12_ambulance_132 (ck_n rfl) rfl (fun xs ys s => eX12_ambulance_132 kb (xs.getD 0 0) (xs.getD 1 0) (xs.getD 2 0) (xs.getD 3 0) s)
  have h123 : RsB mdX12_ambulance r kb (tX12_ambulance_123 kb) := row_B hA h124 qX12_ambulance_124 (ck_n rfl) rfl (fun xs ys s => eX12_ambulance_124 kb (xs.getD 0 0) (xs.getD 1 0) (xs.getD 2 0) (xs.getD 3 0) (xs.getD 4 0) (ys.getD 0 0) (ys.getD 1 0) s)
  have h81 : RsB mdX12_ambulance r kb (tX12_ambulance_81 kb) := row_B hA h123 qX12_ambulance_123 (ck_n rfl) rfl (fun xs ys s => eX12_ambulance_123 kb (xs.getD 0 0) (xs.getD 1 0) (xs.getD 2 0) (xs.getD 3 0) (xs.getD 4 0) (ys.getD 0 0) s)
  have h25 : RsB mdX12_ambulance r kb (tX12_ambulance_25 kb) := row_B hA h81 qX12_ambulance_81 (And.intro trivial (And.intro trivial (And.intro trivial (And.intro trivial (And.intro trivial (And.intro trivial (And.intro trivial (And.intro trivial (And.intro trivial (And.intro trivial (And.intro trivial (And.intro trivial (And.intro trivial (And.intro trivial (And.intro (co_of mkX12_tailOf (iX12_tailOf hA)) (And.intro trivial (And.intro trivial (And.intro trivial (And.intro trivial (And.intro (co_of mkX12_in (iX12_in hA)) (ck_n rfl))))))))))))))))))))) rfl (fun xs ys s => eX12_ambulance_81 kb (xs.getD 0 0) (xs.getD 1 0) (xs.getD 2 0) (xs.getD 3 0) (xs.getD 4 0) (xs.getD 5 0) s)
  have h21 : RsB mdX12_ambulance r kb (tX12_ambulance_21 kb) := row_B hA h25 qX12_ambulance_25 (And.intro trivial (And.intro trivial (And.intro trivial (And.intro trivial (And.intro trivial (And.intro trivial (And.intro (co_of mkX12_placeOf (iX12_placeOf hA)) (And.intro trivial (And.intro trivial (And.intro trivial (And.intro trivial (And.intro trivial (And.intro trivial (And.intro trivial (And.intro trivial (And.intro trivial (And.intro trivial (And.intro trivial (And.intro trivial (And.intro trivial (And.intro (co_of mkX12_cellOf (iX12_cellOf hA)) (ck_n rfl)))))))))))))))))))))) rfl (fun xs ys s => eX12_ambulance_25 kb (xs.getD 0 0) (xs.getD 1 0) (xs.getD 2 0) (xs.getD 3 0) s)
  have h13 : RsB mdX12_ambulance r kb (tX12_ambulance_13 kb) := row_B hA h21 qX12_ambulance_21 (ck_n rfl) rfl (fun xs ys s => eX12_ambulance_21 kb (xs.getD 0 0) (xs.getD 1 0) s)
  have h12 : RsB mdX12_ambulance r kb (tX12_ambulance_12 kb) := row_B hA h13 qX12_ambulance_13 (And.intro (co_of mkX12_holds (iX12_holds hA)) (ck_n rfl)) rfl (fun xs ys s => eX12_ambulance_13 kb (xs.getD 0 0) (xs.getD 1 0) (ys.getD 0 0) (ys.getD 1 0) s)
  have h0 : RsB mdX12_ambulance r kb (tX12_ambulance_0 kb) := row_B hA h12 qX12_ambulance_12 (ck_n rfl) rfl (fun xs ys s => eX12_ambulance_12 kb (xs.getD 0 0) (xs.getD 1 0) (ys.getD 0 0) s)
  exact row_B hA h0 qX12_ambulance_0 (And.intro trivial (And.intro trivial (And.intro (co_of mkX12_isCorner (iX12_isCorner hA)) (ck_n rfl)))) rfl (fun xs ys s => eX12_ambulance_0 kb (xs.getD 0 0) (xs.getD 1 0) s)
theorem iX12_ambulance (hA : AOK) : Impl mdX12_ambulance gX12_ambulance := ent_B (kk := kX12_ambulance) (rr := rX12_ambulance) (f := fun kb => fun xs ys s => fX12_ambulance_0 kb (xs.getD 0 0) (xs.getD 1 0) s) (by decide +kernel) rfl (fun _ => rfl) (fun r kb => pX12_ambulance hA r kb) (fun kb => ⟨_, rfl⟩) 9999 id (fun xs s => rfl) (fun xs => wkl_rf _)
-- FloatparadeModel.moves(II)V
theorem mkX12_moves : MK mdX12_moves true := MKb_ok (h1 := 1692) (h2 := 76) (h3 := 1691) (h4 := 54) (by decide +kernel)
theorem qX12_moves_0 : blkb mdX12_moves 25 0 bX12_moves_0 [[], [], [], [], [], [], [], [1368], [], [], [], [], [1369], [], [], []] = true := by decide +kernel
theorem qX12_moves_25 : blkb mdX12_moves 0 25 bX12_moves_25 [[], []] = true := by decide +kernel
theorem qX12_moves_29 : blkb mdX12_moves 30 29 bX12_moves_29 [[]] = true := by decide +kernel
theorem qX12_moves_30 : blkb mdX12_moves 0 30 bX12_moves_30 [[], [], [1369], [], [], [], [], [1367], [], [], [], [1365], [], [], [], [], [], [1371], [], [], []] = true := by decide +kernel
theorem qX12_moves_66 : blkb mdX12_moves 67 66 bX12_moves_66 [[]] = true := by decide +kernel
theorem qX12_moves_67 : blkb mdX12_moves 0 67 bX12_moves_67 [[], [], [], [], []] = true := by decide +kernel
theorem qX12_moves_76 : blkb mdX12_moves 0 76 bX12_moves_76 [[], [], [], [], [], [], [], [1661], [], [], [], [], [], [], [1665], [], [], [], [], [], [], [], [1665], [], [], []] = true := by decide +kernel
theorem qX12_moves_117 : blkb mdX12_moves 119 117 bX12_moves_117 [[]] = true := by decide +kernel
theorem qX12_moves_119 : blkb mdX12_moves 121 119 bX12_moves_119 [[]] = true := by decide +kernel
theorem qX12_moves_121 : blkb mdX12_moves 124 121 bX12_moves_121 [[], []] = true := by decide +kernel
theorem qX12_moves_124 : blkb mdX12_moves 0 124 bX12_moves_124 [[], [], [1350], [], [], [], [], [], [], [1677], [], [], [1370], [], [], [], [], [1351], [], [], [], [], [], [], [], [], [], [], []] = true := by decide +kernel
theorem qX12_moves_173 : blkb mdX12_moves 174 173 bX12_moves_173 [[]] = true := by decide +kernel
theorem qX12_moves_174 : blkb mdX12_moves 0 174 bX12_moves_174 [[], [], [], [], [], [1367], [], [], [], [], [], [], [], [], [], []] = true := by decide +kernel
theorem qX12_moves_206 : blkb mdX12_moves 208 206 bX12_moves_206 [[]] = true := by decide +kernel
theorem qX12_moves_208 : blkb mdX12_moves 0 208 bX12_moves_208 [[], [], []] = true := by decide +kernel
theorem qX12_moves_216 : blkb mdX12_moves 219 216 bX12_moves_216 [[], []] = true := by decide +kernel
theorem qX12_moves_219 : blkb mdX12_moves 288 219 bX12_moves_219 [[], [], [1350], [], [], [], [], [], [], [1677], [], [], [1352], [], [1351], [], [], [], [], [], [], [], [], [], [], [1367], [], [], [], [], [], [], [], [], [], [1369], [], [], []] = true := by decide +kernel
theorem qX12_moves_288 : blkb mdX12_moves 0 288 bX12_moves_288 [[], []] = true := by decide +kernel
theorem qX12_moves_294 : blkb mdX12_moves 0 294 bX12_moves_294 [[], [1367], [], [], [], [1367], [], [], [], [], []] = true := by decide +kernel
theorem qX12_moves_315 : blkb mdX12_moves 321 315 bX12_moves_315 [[], [1367], [], []] = true := by decide +kernel
theorem qX12_moves_321 : blkb mdX12_moves 0 321 bX12_moves_321 [[], []] = true := by decide +kernel
theorem pX12_moves (hA : AOK) (r : Rt) (kb : Co) : RsB mdX12_moves r kb (rX12_moves kb) := by
  have h321 : RsB mdX12_moves r kb (tX12_moves_321 kb) := row_0
  have h315 : RsB mdX12_moves r kb (tX12_moves_315 kb) := row_B hA h321 qX12_moves_321 (ck_n rfl) rfl (fun xs ys s => eX12_moves_321 kb (ys.getD 0 0) (ys.getD 1 0) (ys.getD 2 0) s)
  have h294 : RsB mdX12_moves r kb (tX12_moves_294 kb) := row_B hA h315 qX12_moves_315 (ck_n rfl) rfl (fun xs ys s => eX12_moves_315 kb (xs.getD 0 0) (xs.getD 1 0) (ys.getD 0 0) (ys.getD 1 0) s)
  have h288 : RsB mdX12_moves r kb (tX12_moves_288 kb) := row_B hA h294 qX12_moves_294 (ck_n rfl) rfl (fun xs ys s => eX12_moves_294 kb (xs.getD 0 0) (xs.getD 1 0) (xs.getD 2 0) s)
  have h219 : RsB mdX12_moves r kb (tX12_moves_219 kb) := row_B hA h288 qX12_moves_288 (ck_n rfl) rfl (fun xs ys s => eX12_moves_288 kb (xs.getD 0 0) (xs.getD 1 0) (xs.getD 2 0) (xs.getD 3 0) (xs.getD 4 0) s)
  have h216 : RsB mdX12_moves r kb (tX12_moves_216 kb) := row_B hA h219 qX12_moves_219 (And.intro trivial (And.intro trivial (And.intro trivial (And.intro trivial (And.intro trivial (And.intro trivial (And.intro trivial (And.intro trivial (And.intro trivial (And.intro (co_of mkX12_cellOf (iX12_cellOf hA)) (ck_n rfl))))))))))) rfl (fun xs ys s => eX12_moves_219 kb (xs.getD 0 0) (xs.getD 1 0) (xs.getD 2 0) (xs.getD 3 0) (xs.getD 4 0) s)
  have h208 : RsB mdX12_moves r kb (tX12_moves_208 kb) := row_B hA h216 qX12_moves_216 (ck_n rfl) rfl (fun xs ys s => eX12_moves_216 kb (xs.getD 0 0) (xs.getD 1 0) (xs.getD 2 0) (xs.getD 3 0) s)
  have h206 : RsB mdX12_moves r kb (tX12_moves_206 kb) := row_B hA h208 qX12_moves_208 (ck_n rfl) rfl (fun xs ys s => eX12_moves_208 kb (xs.getD 0 0) (xs.getD 1 0) (xs.getD 2 0) (xs.getD 3 0) (ys.getD 0 0) s)
  have h174 : RsB mdX12_moves r kb (tX12_moves_174 kb) := row_B hA h206 qX12_moves_206 (ck_n rfl) rfl (fun xs ys s => eX12_moves_206 kb (xs.getD 0 0) (xs.getD 1 0) (xs.getD 2 0) (xs.getD 3 0) (xs.getD 4 0) s)
  have h173 : RsB mdX12_moves r kb (tX12_moves_173 kb) := row_B hA h174 qX12_moves_174 (ck_n rfl) rfl (fun xs ys s => eX12_moves_174 kb (xs.getD 0 0) (xs.getD 1 0) (xs.getD 2 0) (xs.getD 3 0) (xs.getD 4 0) (xs.getD 5 0) (ys.getD 0 0) s)
  have h124 : RsB mdX12_moves r kb (tX12_moves_124 kb) := row_B hA h173 qX12_moves_173 (ck_n rfl) rfl (fun xs ys s => eX12_moves_173 kb (xs.getD 0 0) (xs.getD 1 0) (xs.getD 2 0) (xs.getD 3 0) (xs.getD 4 0) (xs.getD 5 0) s)
  have h121 : RsB mdX12_moves r kb (tX12_moves_121 kb) := row_B hA h124 qX12_moves_124 (And.intro trivial (And.intro trivial (And.intro trivial (And.intro trivial (And.intro trivial (And.intro trivial (And.intro trivial (And.intro trivial (And.intro trivial (And.intro (co_of mkX12_cellOf (iX12_cellOf hA)) (ck_n rfl))))))))))) rfl (fun xs ys s => eX12_moves_124 kb (xs.getD 0 0) (xs.getD 1 0) (xs.getD 2 0) (xs.getD 3 0) (xs.getD 4 0) s)
  have h119 : RsB mdX12_moves r kb (tX12_moves_119 kb) := row_B hA h121 qX12_moves_121 (ck_n rfl) rfl (fun xs ys s => eX12_moves_121 kb (xs.getD 0 0) (xs.getD 1 0) (xs.getD 2 0) (xs.getD 3 0) s)
  have h117 : RsB mdX12_moves r kb (tX12_moves_117 kb) := row_B hA h119 qX12_moves_119 (ck_n rfl) rfl (fun xs ys s => eX12_moves_119 kb (xs.getD 0 0) (xs.getD 1 0) (xs.getD 2 0) (ys.getD 0 0) s)
  have h76 : RsB mdX12_moves r kb (tX12_moves_76 kb) := row_B hA h117 qX12_moves_117 (ck_n rfl) rfl (fun xs ys s => eX12_moves_117 kb (xs.getD 0 0) (xs.getD 1 0) (xs.getD 2 0) (xs.getD 3 0) s)
  have h67 : RsB mdX12_moves r kb (tX12_moves_67 kb) := row_B hA h76 qX12_moves_76 (And.intro trivial (And.intro trivial (And.intro trivial (And.intro trivial (And.intro trivial (And.intro trivial (And.intro trivial (And.intro (co_of mkX12_isOut (iX12_isOut hA)) (And.intro trivial (And.intro trivial (And.intro trivial (And.intro trivial (And.intro trivial (And.intro trivial (And.intro (co_of mkX12_tailOf (iX12_tailOf hA)) (And.intro trivial (And.intro trivial (And.intro trivial (And.intro trivial (And.intro trivial (And.intro trivial (And.intro trivial (And.intro (co_of mkX12_tailOf (iX12_tailOf hA)) (ck_n rfl)))))))))))))))))))))))) rfl (fun xs ys s => eX12_moves_76 kb (xs.getD 0 0) (xs.getD 1 0) (xs.getD 2 0) (xs.getD 3 0) (xs.getD 4 0) s)
  have h66 : RsB mdX12_moves r kb (tX12_moves_66 kb) := row_B hA h67 qX12_moves_67 (ck_n rfl) rfl (fun xs ys s => eX12_moves_67 kb (xs.getD 0 0) (xs.getD 1 0) (xs.getD 2 0) (xs.getD 3 0) (xs.getD 4 0) (ys.getD 0 0) (ys.getD 1 0) s)
  have h30 : RsB mdX12_moves r kb (tX12_moves_30 kb) := row_B hA h66 qX12_moves_66 (ck_n rfl) rfl (fun xs ys s => eX12_moves_66 kb (xs.getD 0 0) (xs.getD 1 0) (xs.getD 2 0) (xs.getD 3 0) (xs.getD 4 0) (ys.getD 0 0) s)
  have h29 : RsB mdX12_moves r kb (tX12_moves_29 kb) := row_B hA h30 qX12_moves_30 (ck_n rfl) rfl (fun xs ys s => eX12_moves_30 kb (xs.getD 0 0) (xs.getD 1 0) (xs.getD 2 0) (xs.getD 3 0) (ys.getD 0 0) s)
  have h25 : RsB mdX12_moves r kb (tX12_moves_25 kb) := row_B hA h29 qX12_moves_29 (ck_n rfl) rfl (fun xs ys s => eX12_moves_29 kb (xs.getD 0 0) (xs.getD 1 0) (xs.getD 2 0) (xs.getD 3 0) s)
  have h0 : RsB mdX12_moves r kb (tX12_moves_0 kb) := row_B hA h25 qX12_moves_25 (ck_n rfl) rfl (fun xs ys s => eX12_moves_25 kb (xs.getD 0 0) (xs.getD 1 0) (xs.getD 2 0) (xs.getD 3 0) s)
  exact row_B hA h0 qX12_moves_0 (ck_n rfl) rfl (fun xs ys s => eX12_moves_0 kb (xs.getD 0 0) (xs.getD 1 0) (xs.getD 2 0) s)
theorem iX12_moves (hA : AOK) : Impl mdX12_moves gX12_moves := ent_B (kk := kX12_moves) (rr := rX12_moves) (f := fun kb => fun xs ys s => fX12_moves_0 kb (xs.getD 0 0) (xs.getD 1 0) (xs.getD 2 0) s) (by decide +kernel) rfl (fun _ => rfl) (fun r kb => pX12_moves hA r kb) (fun kb => ⟨_, rfl⟩) 9999 id (fun xs s => rfl) (fun xs => wkl_rf _)
-- FloatparadeModel.penalizes(III)V
theorem mkX12_penalizes : MK mdX12_penalizes true := MKb_ok (h1 := 1708) (h2 := 76) (h3 := 1707) (h4 := 58) (by decide +kernel)
theorem qX12_penalizes_0 : blkb mdX12_penalizes 51 0 bX12_penalizes_0 [[], [], [], [], [], [], [1376], [], [], [], [], [], [1377], [], [], [], [], [1378], [], [], [], [], [1379], [], [], [], [], [1376], [], [], [], [], [], []] = true := by decide +kernel
theorem qX12_penalizes_51 : blkb mdX12_penalizes 0 51 bX12_penalizes_51 [[]] = true := by decide +kernel
theorem pX12_penalizes (hA : AOK) (r : Rt) (kb : Co) : RsB mdX12_penalizes r kb (rX12_penalizes kb) := by
  have h51 : RsB mdX12_penalizes r kb (tX12_penalizes_51 kb) := row_0
  have h0 : RsB mdX12_penalizes r kb (tX12_penalizes_0 kb) := row_B hA h51 qX12_penalizes_51 (ck_n rfl) rfl (fun xs ys s => eX12_penalizes_51 kb s)
  exact row_B hA h0 qX12_penalizes_0 (ck_n rfl) rfl (fun xs ys s => eX12_penalizes_0 kb (xs.getD 0 0) (xs.getD 1 0) (xs.getD 2 0) (xs.getD 3 0) s)
theorem iX12_penalizes (hA : AOK) : Impl mdX12_penalizes gX12_penalizes := ent_B (kk := kX12_penalizes) (rr := rX12_penalizes) (f := fun kb => fun xs ys s => fX12_penalizes_0 kb (xs.getD 0 0) (xs.getD 1 0) (xs.getD 2 0) (xs.getD 3 0) s) (by decide +kernel) rfl (fun _ => rfl) (fun r kb => pX12_penalizes hA r kb) (fun kb => ⟨_, rfl⟩) 0 id (fun xs s => rfl) (fun xs => wkl_rf _)
-- FloatparadeModel.timeOf(I)I
theorem mkX12_timeOf : MK mdX12_timeOf true := MKb_ok (h1 := 1704) (h2 := 76) (h3 := 1703) (h4 := 57) (by decide +kernel)
theorem qX12_timeOf_0 : blkb mdX12_timeOf 0 0 bX12_timeOf_0 [[], [1373], [], [], [], [], [], []] = true := by decide +kernel
theorem qX12_timeOf_14 : blkb mdX12_timeOf 29 14 bX12_timeOf_14 [[], [1373], [], [], [], [1372], [], [], [], [], []] = true := by decide +kernel
theorem qX12_timeOf_29 : blkb mdX12_timeOf 0 29 bX12_timeOf_29 [[]] = true := by decide +kernel
theorem pX12_timeOf (hA : AOK) (r : Rt) (kb : Co) : RsB mdX12_timeOf r kb (rX12_timeOf kb) := by
  have h29 : RsB mdX12_timeOf r kb (tX12_timeOf_29 kb) := row_0
  have h14 : RsB mdX12_timeOf r kb (tX12_timeOf_14 kb) := row_B hA h29 qX12_timeOf_29 (ck_n rfl) rfl (fun xs ys s => eX12_timeOf_29 kb (ys.getD 0 0) s)
  have h0 : RsB mdX12_timeOf r kb (tX12_timeOf_0 kb) := row_B hA h14 qX12_timeOf_14 (ck_n rfl) rfl (fun xs ys s => eX12_timeOf_14 kb (xs.getD 0 0) (xs.getD 1 0) s)
  exact row_B hA h0 qX12_timeOf_0 (ck_n rfl) rfl (fun xs ys s => eX12_timeOf_0 kb (xs.getD 0 0) (xs.getD 1 0) s)
theorem iX12_timeOf (hA : AOK) : Impl mdX12_timeOf gX12_timeOf := ent_B (kk := kX12_timeOf) (rr := rX12_timeOf) (f := fun kb => fun xs ys s => fX12_timeOf_0 kb (xs.getD 0 0) (xs.getD 1 0) s) (by decide +kernel) rfl (fun _ => rfl) (fun r kb => pX12_timeOf hA r kb) (fun kb => ⟨_, rfl⟩) 0 id (fun xs s => rfl) (fun xs => wkl_rf _)
-- FloatparadeModel.looksAtClocks(I)V
theorem mkX12_looksAtClocks : MK mdX12_looksAtClocks true := MKb_ok (h1 := 1696) (h2 := 76) (h3 := 1695) (h4 := 55) (by decide +kernel)
theorem qX12_looksAtClocks_0 : blkb mdX12_looksAtClocks 10 0 bX12_looksAtClocks_0 [[], [], [1570], [], [], [], [], []] = true := by decide +kernel
theorem qX12_looksAtClocks_10 : blkb mdX12_looksAtClocks 0 10 bX12_looksAtClocks_10 [[], [], [1363], [], [], [], [], [], [], [], [], [], [], [1364], [], [], [], [], [1372], [], [], [1372], [], [], [], [], [], [1367], [], [], [], [], [1360], [], [], []] = true := by decide +kernel
theorem qX12_looksAtClocks_73 : blkb mdX12_looksAtClocks 80 73 bX12_looksAtClocks_73 [[], [1372], [], []] = true := by decide +kernel
theorem qX12_looksAtClocks_80 : blkb mdX12_looksAtClocks 107 80 bX12_looksAtClocks_80 [[], [], [], [1363], [], [], [], [], [], [], [1364], [], [], [], [], [], []] = true := by decide +kernel
theorem qX12_looksAtClocks_107 : blkb mdX12_looksAtClocks 0 107 bX12_looksAtClocks_107 [[], []] = true := by decide +kernel
theorem qX12_looksAtClocks_111 : blkb mdX12_looksAtClocks 112 111 bX12_looksAtClocks_111 [[]] = true := by decide +kernel
theorem qX12_looksAtClocks_112 : blkb mdX12_looksAtClocks 0 112 bX12_looksAtClocks_112 [[], [], [1373], [], [], [], [], [1373], [], [], [], [], [], [], [], [1661], [], [], [1360], [], [], []] = true := by decide +kernel
theorem qX12_looksAtClocks_154 : blkb mdX12_looksAtClocks 161 154 bX12_looksAtClocks_154 [[], [1373], [], []] = true := by decide +kernel
theorem qX12_looksAtClocks_161 : blkb mdX12_looksAtClocks 0 161 bX12_looksAtClocks_161 [[], [], [], [], [1364], [], [], [], [], [], [], [], [1367], [], [], [], [], [1497], [], [], [1367], [], [], [], [], [], []] = true := by decide +kernel
theorem qX12_looksAtClocks_210 : blkb mdX12_looksAtClocks 212 210 bX12_looksAtClocks_210 [[]] = true := by decide +kernel
theorem qX12_looksAtClocks_212 : blkb mdX12_looksAtClocks 0 212 bX12_looksAtClocks_212 [[], [], [], [1497], [], [], []] = true := by decide +kernel
theorem qX12_looksAtClocks_225 : blkb mdX12_looksAtClocks 226 225 bX12_looksAtClocks_225 [[]] = true := by decide +kernel
theorem qX12_looksAtClocks_226 : blkb mdX12_looksAtClocks 0 226 bX12_looksAtClocks_226 [[], [], [1374], [], [], [], [], [], [], [], [], [], [1665], [], [1367], [], [], [], [], [], [], [], [], []] = true := by decide +kernel
theorem qX12_looksAtClocks_268 : blkb mdX12_looksAtClocks 269 268 bX12_looksAtClocks_268 [[]] = true := by decide +kernel
theorem qX12_looksAtClocks_269 : blkb mdX12_looksAtClocks 0 269 bX12_looksAtClocks_269 [[], [], [], []] = true := by decide +kernel
theorem qX12_looksAtClocks_277 : blkb mdX12_looksAtClocks 0 277 bX12_looksAtClocks_277 [[]] = true := by decide +kernel
theorem pX12_looksAtClocks (hA : AOK) (r : Rt) (kb : Co) : RsB mdX12_looksAtClocks r kb (rX12_looksAtClocks kb) := by
  have h277 : RsB mdX12_looksAtClocks r kb (tX12_looksAtClocks_277 kb) := row_0
  have h269 : RsB mdX12_looksAtClocks r kb (tX12_looksAtClocks_269 kb) := row_B hA h277 qX12_looksAtClocks_277 (ck_n rfl) rfl (fun xs ys s => eX12_looksAtClocks_277 kb s)
  have h268 : RsB mdX12_looksAtClocks r kb (tX12_looksAtClocks_268 kb) := row_B hA h269 qX12_looksAtClocks_269 (ck_n rfl) rfl (fun xs ys s => eX12_looksAtClocks_269 kb (xs.getD 0 0) (xs.getD 1 0) (xs.getD 2 0) (xs.getD 3 0) (ys.getD 0 0) (ys.getD 1 0) (ys.getD 2 0) (ys.getD 3 0) s)
  have h226 : RsB mdX12_looksAtClocks r kb (tX12_looksAtClocks_226 kb) := row_B hA h268 qX12_looksAtClocks_268 (ck_n rfl) rfl (fun xs ys s => eX12_looksAtClocks_268 kb (xs.getD 0 0) (xs.getD 1 0) (xs.getD 2 0) (xs.getD 3 0) (ys.getD 0 0) (ys.getD 1 0) (ys.getD 2 0) s)
  have h225 : RsB mdX12_looksAtClocks r kb (tX12_looksAtClocks_225 kb) := row_B hA h226 qX12_looksAtClocks_226 (And.intro trivial (And.intro trivial (And.intro trivial (And.intro trivial (And.intro trivial (And.intro trivial (And.intro trivial (And.intro trivial (And.intro trivial (And.intro trivial (And.intro trivial (And.intro trivial (And.intro (co_of mkX12_tailOf (iX12_tailOf hA)) (ck_n rfl)))))))))))))) rfl (fun xs ys s => eX12_looksAtClocks_226 kb (xs.getD 0 0) (xs.getD 1 0) (xs.getD 2 0) (xs.getD 3 0) (xs.getD 4 0) (xs.getD 5 0) (ys.getD 0 0) s)
  have h212 : RsB mdX12_looksAtClocks r kb (tX12_looksAtClocks_212 kb) := row_B hA h225 qX12_looksAtClocks_225 (ck_n rfl) rfl (fun xs ys s => eX12_looksAtClocks_225 kb (xs.getD 0 0) (xs.getD 1 0) (xs.getD 2 0) (xs.getD 3 0) (xs.getD 4 0) (xs.getD 5 0) s)
  have h210 : RsB mdX12_looksAtClocks r kb (tX12_looksAtClocks_210 kb) := row_B hA h212 qX12_looksAtClocks_212 (And.intro trivial (And.intro trivial (And.intro trivial (And.intro (co_of mkX12_in (iX12_in hA)) (ck_n rfl))))) rfl (fun xs ys s => eX12_looksAtClocks_212 kb (xs.getD 0 0) (xs.getD 1 0) (xs.getD 2 0) (xs.getD 3 0) (xs.getD 4 0) (xs.getD 5 0) (ys.getD 0 0) (ys.getD 1 0) s)
  have h161 : RsB mdX12_looksAtClocks r kb (tX12_looksAtClocks_161 kb) := row_B hA h210 qX12_looksAtClocks_210 (ck_n rfl) rfl (fun xs ys s => eX12_looksAtClocks_210 kb (xs.getD 0 0) (xs.getD 1 0) (xs.getD 2 0) (xs.getD 3 0) (xs.getD 4 0) (xs.getD 5 0) (ys.getD 0 0) s)
  have h154 : RsB mdX12_looksAtClocks r kb (tX12_looksAtClocks_154 kb) := row_B hA h161 qX12_looksAtClocks_161 (And.intro trivial (And.intro trivial (And.intro trivial (And.intro trivial (And.intro trivial (And.intro trivial (And.intro trivial (And.intro trivial (And.intro trivial (And.intro trivial (And.intro trivial (And.intro trivial (And.intro trivial (And.intro trivial (And.intro trivial (And.intro trivial (And.intro trivial (And.intro (co_of mkX12_in (iX12_in hA)) (ck_n rfl))))))))))))))))))) rfl (fun xs ys s => eX12_looksAtClocks_161 kb (xs.getD 0 0) (xs.getD 1 0) (xs.getD 2 0) (xs.getD 3 0) (xs.getD 4 0) (xs.getD 5 0) (ys.getD 0 0) (ys.getD 1 0) (ys.getD 2 0) s)
  have h112 : RsB mdX12_looksAtClocks r kb (tX12_looksAtClocks_112 kb) := row_B hA h154 qX12_looksAtClocks_154 (ck_n rfl) rfl (fun xs ys s => eX12_looksAtClocks_154 kb (xs.getD 0 0) (xs.getD 1 0) (xs.getD 2 0) (xs.getD 3 0) (xs.getD 4 0) (xs.getD 5 0) (ys.getD 0 0) (ys.getD 1 0) s)
  have h111 : RsB mdX12_looksAtClocks r kb (tX12_looksAtClocks_111 kb) := row_B hA h112 qX12_looksAtClocks_112 (And.intro trivial (And.intro trivial (And.intro trivial (And.intro trivial (And.intro trivial (And.intro trivial (And.intro trivial (And.intro trivial (And.intro trivial (And.intro trivial (And.intro trivial (And.intro trivial (And.intro trivial (And.intro trivial (And.intro trivial (And.intro (co_of mkX12_isOut (iX12_isOut hA)) (ck_n rfl))))))))))))))))) rfl (fun xs ys s => eX12_looksAtClocks_112 kb (xs.getD 0 0) (xs.getD 1 0) (xs.getD 2 0) (xs.getD 3 0) (xs.getD 4 0) (xs.getD 5 0) (ys.getD 0 0) s)
  have h107 : RsB mdX12_looksAtClocks r kb (tX12_looksAtClocks_107 kb) := row_B hA h111 qX12_looksAtClocks_111 (ck_n rfl) rfl (fun xs ys s => eX12_looksAtClocks_111 kb (xs.getD 0 0) (xs.getD 1 0) (xs.getD 2 0) (xs.getD 3 0) (xs.getD 4 0) (xs.getD 5 0) s)
  have h80 : RsB mdX12_looksAtClocks r kb (tX12_looksAtClocks_80 kb) := row_B hA h107 qX12_looksAtClocks_107 (ck_n rfl) rfl (fun xs ys s => eX12_looksAtClocks_107 kb (xs.getD 0 0) (xs.getD 1 0) (xs.getD 2 0) (xs.getD 3 0) (xs.getD 4 0) (xs.getD 5 0) s)
  have h73 : RsB mdX12_looksAtClocks r kb (tX12_looksAtClocks_73 kb) := row_B hA h80 qX12_looksAtClocks_80 (ck_n rfl) rfl (fun xs ys s => eX12_looksAtClocks_80 kb (xs.getD 0 0) (xs.getD 1 0) (xs.getD 2 0) (xs.getD 3 0) (xs.getD 4 0) (xs.getD 5 0) (ys.getD 0 0) (ys.getD 1 0) (ys.getD 2 0) s)
  have h10 : RsB mdX12_looksAtClocks r kb (tX12_looksAtClocks_10 kb) := row_B hA h73 qX12_looksAtClocks_73 (ck_n rfl) rfl (fun xs ys s => eX12_looksAtClocks_73 kb (xs.getD 0 0) (xs.getD 1 0) (xs.getD 2 0) (xs.getD 3 0) (xs.getD 4 0) (xs.getD 5 0) (ys.getD 0 0) (ys.getD 1 0) s)
  have h0 : RsB mdX12_looksAtClocks r kb (tX12_looksAtClocks_0 kb) := row_B hA h10 qX12_looksAtClocks_10 (ck_n rfl) rfl (fun xs ys s => eX12_looksAtClocks_10 kb (xs.getD 0 0) (xs.getD 1 0) (xs.getD 2 0) (xs.getD 3 0) s)
  exact row_B hA h0 qX12_looksAtClocks_0 (And.intro trivial (And.intro trivial (And.intro (co_of mkX12_cells (iX12_cells hA)) (ck_n rfl)))) rfl (fun xs ys s => eX12_looksAtClocks_0 kb (xs.getD 0 0) (xs.getD 1 0) s)
theorem iX12_looksAtClocks (hA : AOK) : Impl mdX12_looksAtClocks gX12_looksAtClocks := ent_B (kk := kX12_looksAtClocks) (rr := rX12_looksAtClocks) (f := fun kb => fun xs ys s => fX12_looksAtClocks_0 kb (xs.getD 0 0) (xs.getD 1 0) s) (by decide +kernel) rfl (fun _ => rfl) (fun r kb => pX12_looksAtClocks hA r kb) (fun kb => ⟨_, rfl⟩) 9999 id (fun xs s => rfl) (fun xs => wkl_rf _)
-- FloatparadeModel.goes(I)Z
theorem mkX12_goes : MK mdX12_goes true := MKb_ok (h1 := 1688) (h2 := 76) (h3 := 1687) (h4 := 53) (by decide +kernel)
theorem qX12_goes_0 : blkb mdX12_goes 12 0 bX12_goes_0 [[], [1360], [], [], [], [], [], [], [], []] = true := by decide +kernel
theorem qX12_goes_12 : blkb mdX12_goes 37 12 bX12_goes_12 [[], [], [1363], [], [], [], [], [], [], [1661], [], [], [], [], [1689]] = true := by decide +kernel
theorem qX12_goes_37 : blkb mdX12_goes 0 37 bX12_goes_37 [[], []] = true := by decide +kernel
theorem qX12_goes_43 : blkb mdX12_goes 53 43 bX12_goes_43 [[], [], [1693], [], [], [], []] = true := by decide +kernel
theorem qX12_goes_53 : blkb mdX12_goes 0 53 bX12_goes_53 [[], [], [], [], [], [1363], [], [], [], [], [], [1368], [], [], [], [], [1368], [], [], [], [], []] = true := by decide +kernel
theorem qX12_goes_88 : blkb mdX12_goes 89 88 bX12_goes_88 [[]] = true := by decide +kernel
theorem qX12_goes_89 : blkb mdX12_goes 0 89 bX12_goes_89 [[], [], [], []] = true := by decide +kernel
theorem qX12_goes_97 : blkb mdX12_goes 102 97 bX12_goes_97 [[], [], [], []] = true := by decide +kernel
theorem qX12_goes_102 : blkb mdX12_goes 0 102 bX12_goes_102 [[], [], [], [], [], [], [], [], [1370], [], [], [], [], [1370], [], [], [], [], []] = true := by decide +kernel
theorem qX12_goes_133 : blkb mdX12_goes 134 133 bX12_goes_133 [[]] = true := by decide +kernel
theorem qX12_goes_134 : blkb mdX12_goes 0 134 bX12_goes_134 [[], [], [], []] = true := by decide +kernel
theorem qX12_goes_142 : blkb mdX12_goes 0 142 bX12_goes_142 [[], [], [], [1363], [], [], [], [], [1661], [], [], []] = true := by decide +kernel
theorem qX12_goes_162 : blkb mdX12_goes 163 162 bX12_goes_162 [[]] = true := by decide +kernel
theorem qX12_goes_163 : blkb mdX12_goes 0 163 bX12_goes_163 [[]] = true := by decide +kernel
theorem pX12_goes (hA : AOK) (r : Rt) (kb : Co) : RsB mdX12_goes r kb (rX12_goes kb) := by
  have h163 : RsB mdX12_goes r kb (tX12_goes_163 kb) := row_0
  have h162 : RsB mdX12_goes r kb (tX12_goes_162 kb) := row_B hA h163 qX12_goes_163 (ck_n rfl) rfl (fun xs ys s => eX12_goes_163 kb (ys.getD 0 0) s)
  have h142 : RsB mdX12_goes r kb (tX12_goes_142 kb) := row_B hA h162 qX12_goes_162 (ck_n rfl) rfl (fun xs ys s => eX12_goes_162 kb s)
  have h134 : RsB mdX12_goes r kb (tX12_goes_134 kb) := row_B hA h142 qX12_goes_142 (And.intro trivial (And.intro trivial (And.intro trivial (And.intro trivial (And.intro trivial (And.intro trivial (And.intro trivial (And.intro trivial (And.intro (co_of mkX12_isOut (iX12_isOut hA)) (ck_n rfl)))))))))) rfl (fun xs ys s => eX12_goes_142 kb (xs.getD 0 0) (xs.getD 1 0) s)
  have h133 : RsB mdX12_goes r kb (tX12_goes_133 kb) := row_B hA h134 qX12_goes_134 (ck_n rfl) rfl (fun xs ys s => eX12_goes_134 kb (xs.getD 0 0) (xs.getD 1 0) (xs.getD 2 0) (ys.getD 0 0) (ys.getD 1 0) (ys.getD 2 0) (ys.getD 3 0) s)
  have h102 : RsB mdX12_goes r kb (tX12_goes_102 kb) := row_B hA h133 qX12_goes_133 (ck_n rfl) rfl (fun xs ys s => eX12_goes_133 kb (xs.getD 0 0) (xs.getD 1 0) (xs.getD 2 0) (ys.getD 0 0) (ys.getD 1 0) (ys.getD 2 0) s)
  have h97 : RsB mdX12_goes r kb (tX12_goes_97 kb) := row_B hA h102 qX12_goes_102 (ck_n rfl) rfl (fun xs ys s => eX12_goes_102 kb (xs.getD 0 0) (xs.getD 1 0) (xs.getD 2 0) s)
  have h89 : RsB mdX12_goes r kb (tX12_goes_89 kb) := row_B hA h97 qX12_goes_97 (ck_n rfl) rfl (fun xs ys s => eX12_goes_97 kb (xs.getD 0 0) (xs.getD 1 0) s)
  have h88 : RsB mdX12_goes r kb (tX12_goes_88 kb) := row_B hA h89 qX12_goes_89 (ck_n rfl) rfl (fun xs ys s => eX12_goes_89 kb (xs.getD 0 0) (xs.getD 1 0) (xs.getD 2 0) (ys.getD 0 0) (ys.getD 1 0) (ys.getD 2 0) (ys.getD 3 0) s)
  have h53 : RsB mdX12_goes r kb (tX12_goes_53 kb) := row_B hA h88 qX12_goes_88 (ck_n rfl) rfl (fun xs ys s => eX12_goes_88 kb (xs.getD 0 0) (xs.getD 1 0) (xs.getD 2 0) (ys.getD 0 0) (ys.getD 1 0) (ys.getD 2 0) s)
  have h43 : RsB mdX12_goes r kb (tX12_goes_43 kb) := row_B hA h53 qX12_goes_53 (ck_n rfl) rfl (fun xs ys s => eX12_goes_53 kb (xs.getD 0 0) (xs.getD 1 0) (xs.getD 2 0) s)
  have h37 : RsB mdX12_goes r kb (tX12_goes_37 kb) := row_B hA h43 qX12_goes_43 (And.intro trivial (And.intro trivial (And.intro (co_of mkX12_looksAtClocks (iX12_looksAtClocks hA)) (ck_n rfl)))) rfl (fun xs ys s => eX12_goes_43 kb (xs.getD 0 0) (xs.getD 1 0) s)
  have h12 : RsB mdX12_goes r kb (tX12_goes_12 kb) := row_B hA h37 qX12_goes_37 (ck_n rfl) rfl (fun xs ys s => eX12_goes_37 kb (xs.getD 0 0) (xs.getD 1 0) (xs.getD 2 0) s)
  have h0 : RsB mdX12_goes r kb (tX12_goes_0 kb) := row_B hA h12 qX12_goes_12 (And.intro trivial (And.intro trivial (And.intro trivial (And.intro trivial (And.intro trivial (And.intro trivial (And.intro trivial (And.intro trivial (And.intro trivial (And.intro (co_of mkX12_isOut (iX12_isOut hA)) (And.intro trivial (And.intro trivial (And.intro trivial (And.intro trivial (And.intro (co_of mkX12_moves (iX12_moves hA)) (ck_n rfl)))))))))))))))) rfl (fun xs ys s => eX12_goes_12 kb (xs.getD 0 0) (xs.getD 1 0) (xs.getD 2 0) s)
  exact row_B hA h0 qX12_goes_0 (ck_n rfl) rfl (fun xs ys s => eX12_goes_0 kb (xs.getD 0 0) (xs.getD 1 0) s)
theorem iX12_goes (hA : AOK) : Impl mdX12_goes gX12_goes := ent_B (kk := kX12_goes) (rr := rX12_goes) (f := fun kb => fun xs ys s => fX12_goes_0 kb (xs.getD 0 0) (xs.getD 1 0) s) (by decide +kernel) rfl (fun _ => rfl) (fun r kb => pX12_goes hA r kb) (fun kb => ⟨_, rfl⟩) 9999 id (fun xs s => rfl) (fun xs => wkl_rf _)
-- FloatparadeModel.ends(I)V
theorem mkX12_ends : MK mdX12_ends true := MKb_ok (h1 := 1700) (h2 := 76) (h3 := 1699) (h4 := 56) (by decide +kernel)
theorem qX12_ends_0 : blkb mdX12_ends 9 0 bX12_ends_0 [[], [1359], [], [], [], [], []] = true := by decide +kernel
theorem qX12_ends_9 : blkb mdX12_ends 88 9 bX12_ends_9 [[], [], [1330], [], [], [1331], [], [], [], [], [], [1353], [], [], [], [], [], [], [], [], [1361], [], [], [], [], [1701], [], [], [1705], [], [], [], [], [], [], [1701], [], [1362], [], [], [], [], [1705], [], [], [], [], [1374], [], [], [1705]] = true := by decide +kernel
theorem qX12_ends_88 : blkb mdX12_ends 0 88 bX12_ends_88 [[], []] = true := by decide +kernel
theorem qX12_ends_94 : blkb mdX12_ends 0 94 bX12_ends_94 [[]] = true := by decide +kernel
theorem pX12_ends (hA : AOK) (r : Rt) (kb : Co) : RsB mdX12_ends r kb (rX12_ends kb) := by
  have h94 : RsB mdX12_ends r kb (tX12_ends_94 kb) := row_0
  have h88 : RsB mdX12_ends r kb (tX12_ends_88 kb) := row_B hA h94 qX12_ends_94 (ck_n rfl) rfl (fun xs ys s => eX12_ends_94 kb s)
  have h9 : RsB mdX12_ends r kb (tX12_ends_9 kb) := row_B hA h88 qX12_ends_88 (ck_n rfl) rfl (fun xs ys s => eX12_ends_88 kb (xs.getD 0 0) (xs.getD 1 0) (xs.getD 2 0) s)
  have h0 : RsB mdX12_ends r kb (tX12_ends_0 kb) := row_B hA h9 qX12_ends_9 (And.intro trivial (And.intro trivial (And.intro trivial (And.intro trivial (And.intro trivial (And.intro trivial (And.intro trivial (And.intro trivial (And.intro trivial (And.intro trivial (And.intro trivial (And.intro trivial (And.intro trivial (And.intro trivial (And.intro trivial (And.intro trivial (And.intro trivial (And.intro trivial (And.intro trivial (And.intro trivial (And.intro trivial (And.intro trivial (And.intro trivial (And.intro trivial (And.intro trivial (And.intro (co_of mkX12_timeOf (iX12_timeOf hA)) (And.intro trivial (And.intro trivial (And.intro (co_of mkX12_penalizes (iX12_penalizes hA)) (And.intro trivial (And.intro trivial (And.intro trivial (And.intro trivial (And.intro trivial (And.intro trivial (And.intro (co_of mkX12_timeOf (iX12_timeOf hA)) (And.intro trivial (And.intro trivial (And.intro trivial (And.intro trivial (And.intro trivial (And.intro trivial (And.intro (co_of mkX12_penalizes (iX12_penalizes hA)) (And.intro trivial (And.intro trivial (And.intro trivial (And.intro trivial (And.intro trivial (And.intro trivial (And.intro trivial (And.intro (co_of mkX12_penalizes (iX12_penalizes hA)) (ck_n rfl)))))))))))))))))))))))))))))))))))))))))))))))))))) rfl (fun xs ys s => eX12_ends_9 kb (xs.getD 0 0) (xs.getD 1 0) (xs.getD 2 0) s)
  exact row_B hA h0 qX12_ends_0 (ck_n rfl) rfl (fun xs ys s => eX12_ends_0 kb (xs.getD 0 0) (xs.getD 1 0) s)
theorem iX12_ends (hA : AOK) : Impl mdX12_ends gX12_ends := ent_B (kk := kX12_ends) (rr := rX12_ends) (f := fun kb => fun xs ys s => fX12_ends_0 kb (xs.getD 0 0) (xs.getD 1 0) s) (by decide +kernel) rfl (fun _ => rfl) (fun r kb => pX12_ends hA r kb) (fun kb => ⟨_, rfl⟩) 9999 id (fun xs s => rfl) (fun xs => wkl_rf _)
-- FloatparadeModel.march(II)I
theorem mkX12_march : MK mdX12_march true := MKb_ok (h1 := 1684) (h2 := 76) (h3 := 1682) (h4 := 1683) (by decide +kernel)
theorem qX12_march_0 : blkb mdX12_march 0 0 bX12_march_0 [[], [1494], [], [], [], [], [1497], [], [], []] = true := by decide +kernel
theorem qX12_march_21 : blkb mdX12_march 22 21 bX12_march_21 [[]] = true := by decide +kernel
theorem qX12_march_22 : blkb mdX12_march 0 22 bX12_march_22 [[], [], [], [], [], []] = true := by decide +kernel
theorem qX12_march_32 : blkb mdX12_march 0 32 bX12_march_32 [[], [1359], [], [], [], [], [], []] = true := by decide +kernel
theorem qX12_march_46 : blkb mdX12_march 47 46 bX12_march_46 [[]] = true := by decide +kernel
theorem qX12_march_47 : blkb mdX12_march 0 47 bX12_march_47 [[1500], [], [], []] = true := by decide +kernel
theorem qX12_march_55 : blkb mdX12_march 58 55 bX12_march_55 [[], []] = true := by decide +kernel
theorem qX12_march_58 : blkb mdX12_march 87 58 bX12_march_58 [[], [], [], [], [1359], [], [], [], [], [], [], [1685], [], [], [], [1697]] = true := by decide +kernel
theorem qX12_march_87 : blkb mdX12_march 0 87 bX12_march_87 [[], []] = true := by decide +kernel
theorem qX12_march_93 : blkb mdX12_march 0 93 bX12_march_93 [[], [1360], [], [], []] = true := by decide +kernel
theorem pX12_march (hA : AOK) (r : Rt) (kb : Co) : RsB mdX12_march r kb (rX12_march kb) := by
  have h93 : RsB mdX12_march r kb (tX12_march_93 kb) := row_0
  have h87 : RsB mdX12_march r kb (tX12_march_87 kb) := row_B hA h93 qX12_march_93 (ck_n rfl) rfl (fun xs ys s => eX12_march_93 kb (xs.getD 0 0) (xs.getD 1 0) s)
  have h58 : RsB mdX12_march r kb (tX12_march_58 kb) := row_B hA h87 qX12_march_87 (ck_n rfl) rfl (fun xs ys s => eX12_march_87 kb (xs.getD 0 0) (xs.getD 1 0) (xs.getD 2 0) (xs.getD 3 0) s)
  have h55 : RsB mdX12_march r kb (tX12_march_55 kb) := row_B hA h58 qX12_march_58 (And.intro trivial (And.intro trivial (And.intro trivial (And.intro trivial (And.intro trivial (And.intro trivial (And.intro trivial (And.intro trivial (And.intro trivial (And.intro trivial (And.intro trivial (And.intro (co_of mkX12_goes (iX12_goes hA)) (And.intro trivial (And.intro trivial (And.intro trivial (And.intro (co_of mkX12_ends (iX12_ends hA)) (ck_n rfl))))))))))))))))) rfl (fun xs ys s => eX12_march_58 kb (xs.getD 0 0) (xs.getD 1 0) (xs.getD 2 0) (xs.getD 3 0) s)
  have h47 : RsB mdX12_march r kb (tX12_march_47 kb) := row_B hA h55 qX12_march_55 (ck_n rfl) rfl (fun xs ys s => eX12_march_55 kb (xs.getD 0 0) (xs.getD 1 0) (xs.getD 2 0) s)
  have h46 : RsB mdX12_march r kb (tX12_march_46 kb) := row_B hA h47 qX12_march_47 (And.intro (co_of mkX12_holds (iX12_holds hA)) (ck_n rfl)) rfl (fun xs ys s => eX12_march_47 kb (xs.getD 0 0) (xs.getD 1 0) (xs.getD 2 0) (ys.getD 0 0) (ys.getD 1 0) s)
  have h32 : RsB mdX12_march r kb (tX12_march_32 kb) := row_B hA h46 qX12_march_46 (ck_n rfl) rfl (fun xs ys s => eX12_march_46 kb (xs.getD 0 0) (xs.getD 1 0) (xs.getD 2 0) (ys.getD 0 0) s)
  have h22 : RsB mdX12_march r kb (tX12_march_22 kb) := row_B hA h32 qX12_march_32 (ck_n rfl) rfl (fun xs ys s => eX12_march_32 kb (xs.getD 0 0) (xs.getD 1 0) (xs.getD 2 0) (ys.getD 0 0) s)
  have h21 : RsB mdX12_march r kb (tX12_march_21 kb) := row_B hA h22 qX12_march_22 (ck_n rfl) rfl (fun xs ys s => eX12_march_22 kb (xs.getD 0 0) (xs.getD 1 0) (xs.getD 2 0) (ys.getD 0 0) s)
  have h0 : RsB mdX12_march r kb (tX12_march_0 kb) := row_B hA h21 qX12_march_21 (ck_n rfl) rfl (fun xs ys s => eX12_march_21 kb (xs.getD 0 0) (xs.getD 1 0) (xs.getD 2 0) s)
  exact row_B hA h0 qX12_march_0 (And.intro trivial (And.intro (co_of mkX12_isLeague (iX12_isLeague hA)) (And.intro trivial (And.intro trivial (And.intro trivial (And.intro trivial (And.intro (co_of mkX12_in (iX12_in hA)) (ck_n rfl)))))))) rfl (fun xs ys s => eX12_march_0 kb (xs.getD 0 0) (xs.getD 1 0) (xs.getD 2 0) s)
theorem iX12_march (hA : AOK) : Impl mdX12_march gX12_march := ent_B (kk := kX12_march) (rr := rX12_march) (f := fun kb => fun xs ys s => fX12_march_0 kb (xs.getD 0 0) (xs.getD 1 0) (xs.getD 2 0) s) (by decide +kernel) rfl (fun _ => rfl) (fun r kb => pX12_march hA r kb) (fun kb => ⟨_, rfl⟩) 9999 id (fun xs s => rfl) (fun xs => wkl_rf _)
