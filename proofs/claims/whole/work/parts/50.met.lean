-- Floatparade$League.isRouteFixed()Z
theorem mkX0_isRouteFixed : MK mdX0_isRouteFixed true := MKb_ok (h1 := 672) (h2 := 72) (h3 := 670) (h4 := 671) (by decide +kernel)
theorem qX0_isRouteFixed_0 : blkb mdX0_isRouteFixed 20 0 bX0_isRouteFixed_0 [[], [211], [182], [], [], [207], [158], []] = true := by decide +kernel
theorem qX0_isRouteFixed_20 : blkb mdX0_isRouteFixed 0 20 bX0_isRouteFixed_20 [[], []] = true := by decide +kernel
theorem qX0_isRouteFixed_24 : blkb mdX0_isRouteFixed 25 24 bX0_isRouteFixed_24 [[]] = true := by decide +kernel
theorem qX0_isRouteFixed_25 : blkb mdX0_isRouteFixed 0 25 bX0_isRouteFixed_25 [[]] = true := by decide +kernel
theorem pX0_isRouteFixed (hA : AOK) (r : Rt) (kb : Co) : RsB mdX0_isRouteFixed r kb (rX0_isRouteFixed kb) := by
  have h25 : RsB mdX0_isRouteFixed r kb (tX0_isRouteFixed_25 kb) := row_0
  have h24 : RsB mdX0_isRouteFixed r kb (tX0_isRouteFixed_24 kb) := row_B hA h25 qX0_isRouteFixed_25 (ck_n rfl) rfl (fun xs ys s => eX0_isRouteFixed_25 kb (ys.getD 0 0) s)
  have h20 : RsB mdX0_isRouteFixed r kb (tX0_isRouteFixed_20 kb) := row_B hA h24 qX0_isRouteFixed_24 (ck_n rfl) rfl (fun xs ys s => eX0_isRouteFixed_24 kb s)
  have h0 : RsB mdX0_isRouteFixed r kb (tX0_isRouteFixed_0 kb) := row_B hA h20 qX0_isRouteFixed_20 (ck_n rfl) rfl (fun xs ys s => eX0_isRouteFixed_20 kb s)
  exact row_B hA h0 qX0_isRouteFixed_0 (ck_n rfl) rfl (fun xs ys s => eX0_isRouteFixed_0 kb (xs.getD 0 0) s)
theorem iX0_isRouteFixed (hA : AOK) : Impl mdX0_isRouteFixed gX0_isRouteFixed := ent_B (kk := kX0_isRouteFixed) (rr := rX0_isRouteFixed) (f := fun kb => fun xs ys s => fX0_isRouteFixed_0 kb (xs.getD 0 0) s) (by decide +kernel) rfl (fun _ => rfl) (fun r kb => pX0_isRouteFixed hA r kb) (fun kb => ⟨_, rfl⟩) 0 id (fun xs s => rfl) (fun xs => wkl_rf _)
-- Floatparade$League.hasEntrant(LFloatparade$Society;)Z
theorem mkX0_hasEntrant : MK mdX0_hasEntrant true := MKb_ok (h1 := 838) (h2 := 72) (h3 := 837) (h4 := 7) (by decide +kernel)
theorem qX0_hasEntrant_0 : blkb mdX0_hasEntrant 0 0 bX0_hasEntrant_0 [[], [], [], [414], [], [203], [], [], [439], [], [], []] = true := by decide +kernel
theorem qX0_hasEntrant_26 : blkb mdX0_hasEntrant 27 26 bX0_hasEntrant_26 [[]] = true := by decide +kernel
theorem qX0_hasEntrant_27 : blkb mdX0_hasEntrant 0 27 bX0_hasEntrant_27 [[]] = true := by decide +kernel
theorem pX0_hasEntrant (hA : AOK) (r : Rt) (kb : Co) : RsB mdX0_hasEntrant r kb (rX0_hasEntrant kb) := by
  have h27 : RsB mdX0_hasEntrant r kb (tX0_hasEntrant_27 kb) := row_0
  have h26 : RsB mdX0_hasEntrant r kb (tX0_hasEntrant_26 kb) := row_B hA h27 qX0_hasEntrant_27 (ck_n rfl) rfl (fun xs ys s => eX0_hasEntrant_27 kb (ys.getD 0 0) s)
  have h0 : RsB mdX0_hasEntrant r kb (tX0_hasEntrant_0 kb) := row_B hA h26 qX0_hasEntrant_26 (ck_n rfl) rfl (fun xs ys s => eX0_hasEntrant_26 kb s)
  exact row_B hA h0 qX0_hasEntrant_0 (ck_n rfl) rfl (fun xs ys s => eX0_hasEntrant_0 kb (xs.getD 0 0) (xs.getD 1 0) s)
theorem iX0_hasEntrant (hA : AOK) : Impl mdX0_hasEntrant gX0_hasEntrant := ent_B (kk := kX0_hasEntrant) (rr := rX0_hasEntrant) (f := fun kb => fun xs ys s => fX0_hasEntrant_0 kb (xs.getD 0 0) (xs.getD 1 0) s) (by decide +kernel) rfl (fun _ => rfl) (fun r kb => pX0_hasEntrant hA r kb) (fun kb => ⟨_, rfl⟩) 0 id (fun xs s => rfl) (fun xs => wkl_rf _)
-- Floatparade$Row.clear()V
theorem mkX4_clear : MK mdX4_clear true := MKb_ok (h1 := 834) (h2 := 74) (h3 := 832) (h4 := 833) (by decide +kernel)
theorem qX4_clear_0 : blkb mdX4_clear 0 0 bX4_clear_0 [[], [], [157], []] = true := by decide +kernel
theorem pX4_clear (hA : AOK) (r : Rt) (kb : Co) : RsB mdX4_clear r kb (rX4_clear kb) := by
  have h0 : RsB mdX4_clear r kb (tX4_clear_0 kb) := row_0
  exact row_B hA h0 qX4_clear_0 (ck_n rfl) rfl (fun xs ys s => eX4_clear_0 kb (xs.getD 0 0) s)
theorem iX4_clear (hA : AOK) : Impl mdX4_clear gX4_clear := ent_B (kk := kX4_clear) (rr := rX4_clear) (f := fun kb => fun xs ys s => fX4_clear_0 kb (xs.getD 0 0) s) (by decide +kernel) rfl (fun _ => rfl) (fun r kb => pX4_clear hA r kb) (fun kb => ⟨_, rfl⟩) 0 id (fun xs s => rfl) (fun xs => wkl_rf _)
-- Floatparade.isWithin(III)Z
theorem mkX11_isWithin : MK mdX11_isWithin false := MKb_ok (h1 := 267) (h2 := 70) (h3 := 266) (h4 := 0) (by decide +kernel)
theorem qX11_isWithin_0 : blkb mdX11_isWithin 0 0 bX11_isWithin_0 [[], [], [], [], [], [], [], []] = true := by decide +kernel
theorem qX11_isWithin_14 : blkb mdX11_isWithin 15 14 bX11_isWithin_14 [[]] = true := by decide +kernel
theorem qX11_isWithin_15 : blkb mdX11_isWithin 0 15 bX11_isWithin_15 [[]] = true := by decide +kernel
theorem pX11_isWithin (hA : AOK) (r : Rt) (kb : Co) : RsB mdX11_isWithin r kb (rX11_isWithin kb) := by
  have h15 : RsB mdX11_isWithin r kb (tX11_isWithin_15 kb) := row_0
  have h14 : RsB mdX11_isWithin r kb (tX11_isWithin_14 kb) := row_B hA h15 qX11_isWithin_15 (ck_n rfl) rfl (fun xs ys s => eX11_isWithin_15 kb (ys.getD 0 0) s)
  have h0 : RsB mdX11_isWithin r kb (tX11_isWithin_0 kb) := row_B hA h14 qX11_isWithin_14 (ck_n rfl) rfl (fun xs ys s => eX11_isWithin_14 kb s)
  exact row_B hA h0 qX11_isWithin_0 (ck_n rfl) rfl (fun xs ys s => eX11_isWithin_0 kb (xs.getD 0 0) (xs.getD 1 0) (xs.getD 2 0) s)
theorem iX11_isWithin (hA : AOK) : Impl mdX11_isWithin gX11_isWithin := ent_B (kk := kX11_isWithin) (rr := rX11_isWithin) (f := fun kb => fun xs ys s => fX11_isWithin_0 kb (xs.getD 0 0) (xs.getD 1 0) (xs.getD 2 0) s) (by decide +kernel) rfl (fun _ => rfl) (fun r kb => pX11_isWithin hA r kb) (fun kb => ⟨_, rfl⟩) 0 id (fun xs s => rfl) (fun xs => wkl_rf _)
-- Floatparade$Row.at(I)LFloatparade$Society;
theorem mkX4_at : MK mdX4_at true := MKb_ok (h1 := 846) (h2 := 74) (h3 := 844) (h4 := 845) (by decide +kernel)
theorem qX4_at_0 : blkb mdX4_at 0 0 bX4_at_0 [[], [], [], [157], [], [], [847], [], [], [], [156], [], [], [], [156], [], [], []] = true := by decide +kernel
theorem qX4_at_32 : blkb mdX4_at 33 32 bX4_at_32 [[]] = true := by decide +kernel
theorem qX4_at_33 : blkb mdX4_at 0 33 bX4_at_33 [[]] = true := by decide +kernel
theorem pX4_at (hA : AOK) (r : Rt) (kb : Co) : RsB mdX4_at r kb (rX4_at kb) := by
  have h33 : RsB mdX4_at r kb (tX4_at_33 kb) := row_0
  have h32 : RsB mdX4_at r kb (tX4_at_32 kb) := row_B hA h33 qX4_at_33 (ck_n rfl) rfl (fun xs ys s => eX4_at_33 kb (ys.getD 0 0) s)
  have h0 : RsB mdX4_at r kb (tX4_at_0 kb) := row_B hA h32 qX4_at_32 (ck_n rfl) rfl (fun xs ys s => eX4_at_32 kb s)
  exact row_B hA h0 qX4_at_0 (And.intro trivial (And.intro trivial (And.intro trivial (And.intro trivial (And.intro trivial (And.intro trivial (And.intro (co_of mkX11_isWithin (iX11_isWithin hA)) (ck_n rfl)))))))) rfl (fun xs ys s => eX4_at_0 kb (xs.getD 0 0) (xs.getD 1 0) s)
theorem iX4_at (hA : AOK) : Impl mdX4_at gX4_at := ent_B (kk := kX4_at) (rr := rX4_at) (f := fun kb => fun xs ys s => fX4_at_0 kb (xs.getD 0 0) (xs.getD 1 0) s) (by decide +kernel) rfl (fun _ => rfl) (fun r kb => pX4_at hA r kb) (fun kb => ⟨_, rfl⟩) 0 id (fun xs s => rfl) (fun xs => wkl_rf _)
-- Floatparade$League.orderKey(LFloatparade$Society;I)I
theorem mkX0_orderKey : MK mdX0_orderKey true := MKb_ok (h1 := 851) (h2 := 72) (h3 := 850) (h4 := 9) (by decide +kernel)
theorem qX0_orderKey_0 : blkb mdX0_orderKey 0 0 bX0_orderKey_0 [[], [404], [], [], [], []] = true := by decide +kernel
theorem qX0_orderKey_10 : blkb mdX0_orderKey 0 10 bX0_orderKey_10 [[], [404], [], [213], [], [], []] = true := by decide +kernel
theorem qX0_orderKey_26 : blkb mdX0_orderKey 30 26 bX0_orderKey_26 [[], [427]] = true := by decide +kernel
theorem qX0_orderKey_30 : blkb mdX0_orderKey 0 30 bX0_orderKey_30 [[]] = true := by decide +kernel
theorem pX0_orderKey (hA : AOK) (r : Rt) (kb : Co) : RsB mdX0_orderKey r kb (rX0_orderKey kb) := by
  have h30 : RsB mdX0_orderKey r kb (tX0_orderKey_30 kb) := row_0
  have h26 : RsB mdX0_orderKey r kb (tX0_orderKey_26 kb) := row_B hA h30 qX0_orderKey_30 (ck_n rfl) rfl (fun xs ys s => eX0_orderKey_30 kb (ys.getD 0 0) s)
  have h10 : RsB mdX0_orderKey r kb (tX0_orderKey_10 kb) := row_B hA h26 qX0_orderKey_26 (ck_n rfl) rfl (fun xs ys s => eX0_orderKey_26 kb (xs.getD 0 0) s)
  have h0 : RsB mdX0_orderKey r kb (tX0_orderKey_0 kb) := row_B hA h10 qX0_orderKey_10 (ck_n rfl) rfl (fun xs ys s => eX0_orderKey_10 kb (xs.getD 0 0) (xs.getD 1 0) s)
  exact row_B hA h0 qX0_orderKey_0 (ck_n rfl) rfl (fun xs ys s => eX0_orderKey_0 kb (xs.getD 0 0) (xs.getD 1 0) (xs.getD 2 0) s)
theorem iX0_orderKey (hA : AOK) : Impl mdX0_orderKey gX0_orderKey := ent_B (kk := kX0_orderKey) (rr := rX0_orderKey) (f := fun kb => fun xs ys s => fX0_orderKey_0 kb (xs.getD 0 0) (xs.getD 1 0) (xs.getD 2 0) s) (by decide +kernel) rfl (fun _ => rfl) (fun r kb => pX0_orderKey hA r kb) (fun kb => ⟨_, rfl⟩) 0 id (fun xs s => rfl) (fun xs => wkl_rf _)
-- Floatparade$League.orderPlace(LFloatparade$Society;I)I
theorem mkX0_orderPlace : MK mdX0_orderPlace true := MKb_ok (h1 := 842) (h2 := 72) (h3 := 841) (h4 := 8) (by decide +kernel)
theorem qX0_orderPlace_0 : blkb mdX0_orderPlace 19 0 bX0_orderPlace_0 [[], [207], [158], [], [], [207], [158], [], [], []] = true := by decide +kernel
theorem qX0_orderPlace_19 : blkb mdX0_orderPlace 59 19 bX0_orderPlace_19 [[], [], [], [207], [], [843], [], [], [], [], [], [], [848], [], [], [], [848], [], [], []] = true := by decide +kernel
theorem qX0_orderPlace_59 : blkb mdX0_orderPlace 0 59 bX0_orderPlace_59 [[], []] = true := by decide +kernel
theorem qX0_orderPlace_65 : blkb mdX0_orderPlace 0 65 bX0_orderPlace_65 [[], []] = true := by decide +kernel
theorem pX0_orderPlace (hA : AOK) (r : Rt) (kb : Co) : RsB mdX0_orderPlace r kb (rX0_orderPlace kb) := by
  have h65 : RsB mdX0_orderPlace r kb (tX0_orderPlace_65 kb) := row_0
  have h59 : RsB mdX0_orderPlace r kb (tX0_orderPlace_59 kb) := row_B hA h65 qX0_orderPlace_65 (ck_n rfl) rfl (fun xs ys s => eX0_orderPlace_65 kb (xs.getD 0 0) s)
  have h19 : RsB mdX0_orderPlace r kb (tX0_orderPlace_19 kb) := row_B hA h59 qX0_orderPlace_59 (ck_n rfl) rfl (fun xs ys s => eX0_orderPlace_59 kb (xs.getD 0 0) (xs.getD 1 0) (xs.getD 2 0) (xs.getD 3 0) (xs.getD 4 0) s)
  have h0 : RsB mdX0_orderPlace r kb (tX0_orderPlace_0 kb) := row_B hA h19 qX0_orderPlace_19 (And.intro trivial (And.intro trivial (And.intro trivial (And.intro trivial (And.intro trivial (And.intro (co_of mkX4_at (iX4_at hA)) (And.intro trivial (And.intro trivial (And.intro trivial (And.intro trivial (And.intro trivial (And.intro trivial (And.intro (co_of mkX0_orderKey (iX0_orderKey hA)) (And.intro trivial (And.intro trivial (And.intro trivial (And.intro (co_of mkX0_orderKey (iX0_orderKey hA)) (ck_n rfl)))))))))))))))))) rfl (fun xs ys s => eX0_orderPlace_19 kb (xs.getD 0 0) (xs.getD 1 0) (xs.getD 2 0) (xs.getD 3 0) (xs.getD 4 0) s)
  exact row_B hA h0 qX0_orderPlace_0 (ck_n rfl) rfl (fun xs ys s => eX0_orderPlace_0 kb (xs.getD 0 0) (xs.getD 1 0) (xs.getD 2 0) s)
theorem iX0_orderPlace (hA : AOK) : Impl mdX0_orderPlace gX0_orderPlace := ent_B (kk := kX0_orderPlace) (rr := rX0_orderPlace) (f := fun kb => fun xs ys s => fX0_orderPlace_0 kb (xs.getD 0 0) (xs.getD 1 0) (xs.getD 2 0) s) (by decide +kernel) rfl (fun _ => rfl) (fun r kb => pX0_orderPlace hA r kb) (fun kb => ⟨_, rfl⟩) 9999 id (fun xs s => rfl) (fun xs => wkl_rf _)
-- Floatparade$Row.insert(ILFloatparade$Society;)V
theorem mkX4_insert : MK mdX4_insert true := MKb_ok (h1 := 855) (h2 := 74) (h3 := 853) (h4 := 854) (by decide +kernel)
theorem qX4_insert_0 : blkb mdX4_insert 30 0 bX4_insert_0 [[], [157], [], [], [156], [], [], [], [847], [], [], [], [], [157], [847], []] = true := by decide +kernel
theorem qX4_insert_30 : blkb mdX4_insert 0 30 bX4_insert_30 [[]] = true := by decide +kernel
theorem qX4_insert_31 : blkb mdX4_insert 36 31 bX4_insert_31 [[], [157], []] = true := by decide +kernel
theorem qX4_insert_36 : blkb mdX4_insert 0 36 bX4_insert_36 [[], [], [], [], [156], [], [], [156], [], [], [], [], [], [], []] = true := by decide +kernel
theorem qX4_insert_61 : blkb mdX4_insert 0 61 bX4_insert_61 [[], [156], [], [], [], [], [], [157], [], [], [157], []] = true := by decide +kernel
theorem pX4_insert (hA : AOK) (r : Rt) (kb : Co) : RsB mdX4_insert r kb (rX4_insert kb) := by
  have h61 : RsB mdX4_insert r kb (tX4_insert_61 kb) := row_0
  have h36 : RsB mdX4_insert r kb (tX4_insert_36 kb) := row_B hA h61 qX4_insert_61 (ck_n rfl) rfl (fun xs ys s => eX4_insert_61 kb (xs.getD 0 0) (xs.getD 1 0) (xs.getD 2 0) s)
  have h31 : RsB mdX4_insert r kb (tX4_insert_31 kb) := row_B hA h36 qX4_insert_36 (ck_n rfl) rfl (fun xs ys s => eX4_insert_36 kb (xs.getD 0 0) (xs.getD 1 0) (xs.getD 2 0) (xs.getD 3 0) s)
  have h30 : RsB mdX4_insert r kb (tX4_insert_30 kb) := row_B hA h31 qX4_insert_31 (ck_n rfl) rfl (fun xs ys s => eX4_insert_31 kb (xs.getD 0 0) (xs.getD 1 0) (xs.getD 2 0) s)
  have h0 : RsB mdX4_insert r kb (tX4_insert_0 kb) := row_B hA h30 qX4_insert_30 (ck_n rfl) rfl (fun xs ys s => eX4_insert_30 kb s)
  exact row_B hA h0 qX4_insert_0 (And.intro trivial (And.intro trivial (And.intro trivial (And.intro trivial (And.intro trivial (And.intro trivial (And.intro trivial (And.intro trivial (And.intro (co_of mkX11_isWithin (iX11_isWithin hA)) (And.intro trivial (And.intro trivial (And.intro trivial (And.intro trivial (And.intro trivial (And.intro (co_of mkX11_isWithin (iX11_isWithin hA)) (ck_n rfl)))))))))))))))) rfl (fun xs ys s => eX4_insert_0 kb (xs.getD 0 0) (xs.getD 1 0) (xs.getD 2 0) s)
theorem iX4_insert (hA : AOK) : Impl mdX4_insert gX4_insert := ent_B (kk := kX4_insert) (rr := rX4_insert) (f := fun kb => fun xs ys s => fX4_insert_0 kb (xs.getD 0 0) (xs.getD 1 0) (xs.getD 2 0) s) (by decide +kernel) rfl (fun _ => rfl) (fun r kb => pX4_insert hA r kb) (fun kb => ⟨_, rfl⟩) 9999 id (fun xs s => rfl) (fun xs => wkl_rf _)
-- Floatparade$Society.hasFeudWith(LFloatparade$Society;)Z
theorem mkX6_hasFeudWith : MK mdX6_hasFeudWith true := MKb_ok (h1 := 507) (h2 := 82) (h3 := 505) (h4 := 506) (by decide +kernel)
theorem qX6_hasFeudWith_0 : blkb mdX6_hasFeudWith 0 0 bX6_hasFeudWith_0 [[], [418], [], [402], [], [], [], [], [], [], []] = true := by decide +kernel
theorem qX6_hasFeudWith_19 : blkb mdX6_hasFeudWith 20 19 bX6_hasFeudWith_19 [[]] = true := by decide +kernel
theorem qX6_hasFeudWith_20 : blkb mdX6_hasFeudWith 0 20 bX6_hasFeudWith_20 [[]] = true := by decide +kernel
theorem pX6_hasFeudWith (hA : AOK) (r : Rt) (kb : Co) : RsB mdX6_hasFeudWith r kb (rX6_hasFeudWith kb) := by
  have h20 : RsB mdX6_hasFeudWith r kb (tX6_hasFeudWith_20 kb) := row_0
  have h19 : RsB mdX6_hasFeudWith r kb (tX6_hasFeudWith_19 kb) := row_B hA h20 qX6_hasFeudWith_20 (ck_n rfl) rfl (fun xs ys s => eX6_hasFeudWith_20 kb (ys.getD 0 0) s)
  have h0 : RsB mdX6_hasFeudWith r kb (tX6_hasFeudWith_0 kb) := row_B hA h19 qX6_hasFeudWith_19 (ck_n rfl) rfl (fun xs ys s => eX6_hasFeudWith_19 kb s)
  exact row_B hA h0 qX6_hasFeudWith_0 (ck_n rfl) rfl (fun xs ys s => eX6_hasFeudWith_0 kb (xs.getD 0 0) (xs.getD 1 0) s)
theorem iX6_hasFeudWith (hA : AOK) : Impl mdX6_hasFeudWith gX6_hasFeudWith := ent_B (kk := kX6_hasFeudWith) (rr := rX6_hasFeudWith) (f := fun kb => fun xs ys s => fX6_hasFeudWith_0 kb (xs.getD 0 0) (xs.getD 1 0) s) (by decide +kernel) rfl (fun _ => rfl) (fun r kb => pX6_hasFeudWith hA r kb) (fun kb => ⟨_, rfl⟩) 0 id (fun xs s => rfl) (fun xs => wkl_rf _)
-- Floatparade$Row.isFeudAt(I)Z
theorem mkX4_isFeudAt : MK mdX4_isFeudAt true := MKb_ok (h1 := 867) (h2 := 74) (h3 := 866) (h4 := 11) (by decide +kernel)
theorem qX4_isFeudAt_0 : blkb mdX4_isFeudAt 0 0 bX4_isFeudAt_0 [[], [], [868], [], [], [], [], [], [868], [], [], [], [], [], [], [], [869], [], [], []] = true := by decide +kernel
theorem qX4_isFeudAt_34 : blkb mdX4_isFeudAt 35 34 bX4_isFeudAt_34 [[]] = true := by decide +kernel
theorem qX4_isFeudAt_35 : blkb mdX4_isFeudAt 0 35 bX4_isFeudAt_35 [[]] = true := by decide +kernel
theorem pX4_isFeudAt (hA : AOK) (r : Rt) (kb : Co) : RsB mdX4_isFeudAt r kb (rX4_isFeudAt kb) := by
  have h35 : RsB mdX4_isFeudAt r kb (tX4_isFeudAt_35 kb) := row_0
  have h34 : RsB mdX4_isFeudAt r kb (tX4_isFeudAt_34 kb) := row_B hA h35 qX4_isFeudAt_35 (ck_n rfl) rfl (fun xs ys s => eX4_isFeudAt_35 kb (ys.getD 0 0) s)
  have h0 : RsB mdX4_isFeudAt r kb (tX4_isFeudAt_0 kb) := row_B hA h34 qX4_isFeudAt_34 (ck_n rfl) rfl (fun xs ys s => eX4_isFeudAt_34 kb s)
  exact row_B hA h0 qX4_isFeudAt_0 (And.intro trivial (And.intro trivial (And.intro (co_of mkX4_at (iX4_at hA)) (And.intro trivial (And.intro trivial (And.intro trivial (And.intro trivial (And.intro trivial (And.intro (co_of mkX4_at (iX4_at hA)) (And.intro trivial (And.intro trivial (And.intro trivial (And.intro trivial (And.intro trivial (And.intro trivial (And.intro trivial (And.intro (co_of mkX6_hasFeudWith (iX6_hasFeudWith hA)) (ck_n rfl)))))))))))))))))) rfl (fun xs ys s => eX4_isFeudAt_0 kb (xs.getD 0 0) (xs.getD 1 0) s)
theorem iX4_isFeudAt (hA : AOK) : Impl mdX4_isFeudAt gX4_isFeudAt := ent_B (kk := kX4_isFeudAt) (rr := rX4_isFeudAt) (f := fun kb => fun xs ys s => fX4_isFeudAt_0 kb (xs.getD 0 0) (xs.getD 1 0) s) (by decide +kernel) rfl (fun _ => rfl) (fun r kb => pX4_isFeudAt hA r kb) (fun kb => ⟨_, rfl⟩) 0 id (fun xs s => rfl) (fun xs => wkl_rf _)
-- Floatparade$Row.firstFeud()I
theorem mkX4_firstFeud : MK mdX4_firstFeud true := MKb_ok (h1 := 863) (h2 := 74) (h3 := 862) (h4 := 10) (by decide +kernel)
theorem qX4_firstFeud_0 : blkb mdX4_firstFeud 2 0 bX4_firstFeud_0 [[], []] = true := by decide +kernel
theorem qX4_firstFeud_2 : blkb mdX4_firstFeud 0 2 bX4_firstFeud_2 [[], [], [], [], [157], [], [], [], [864], [], [], []] = true := by decide +kernel
theorem qX4_firstFeud_22 : blkb mdX4_firstFeud 0 22 bX4_firstFeud_22 [[], []] = true := by decide +kernel
theorem qX4_firstFeud_28 : blkb mdX4_firstFeud 0 28 bX4_firstFeud_28 [[], []] = true := by decide +kernel
theorem pX4_firstFeud (hA : AOK) (r : Rt) (kb : Co) : RsB mdX4_firstFeud r kb (rX4_firstFeud kb) := by
  have h28 : RsB mdX4_firstFeud r kb (tX4_firstFeud_28 kb) := row_0
  have h22 : RsB mdX4_firstFeud r kb (tX4_firstFeud_22 kb) := row_B hA h28 qX4_firstFeud_28 (ck_n rfl) rfl (fun xs ys s => eX4_firstFeud_28 kb s)
  have h2 : RsB mdX4_firstFeud r kb (tX4_firstFeud_2 kb) := row_B hA h22 qX4_firstFeud_22 (ck_n rfl) rfl (fun xs ys s => eX4_firstFeud_22 kb (xs.getD 0 0) (xs.getD 1 0) s)
  have h0 : RsB mdX4_firstFeud r kb (tX4_firstFeud_0 kb) := row_B hA h2 qX4_firstFeud_2 (And.intro trivial (And.intro trivial (And.intro trivial (And.intro trivial (And.intro trivial (And.intro trivial (And.intro trivial (And.intro trivial (And.intro (co_of mkX4_isFeudAt (iX4_isFeudAt hA)) (ck_n rfl)))))))))) rfl (fun xs ys s => eX4_firstFeud_2 kb (xs.getD 0 0) (xs.getD 1 0) s)
  exact row_B hA h0 qX4_firstFeud_0 (ck_n rfl) rfl (fun xs ys s => eX4_firstFeud_0 kb (xs.getD 0 0) s)
theorem iX4_firstFeud (hA : AOK) : Impl mdX4_firstFeud gX4_firstFeud := ent_B (kk := kX4_firstFeud) (rr := rX4_firstFeud) (f := fun kb => fun xs ys s => fX4_firstFeud_0 kb (xs.getD 0 0) s) (by decide +kernel) rfl (fun _ => rfl) (fun r kb => pX4_firstFeud hA r kb) (fun kb => ⟨_, rfl⟩) 9999 id (fun xs s => rfl) (fun xs => wkl_rf _)
-- Floatparade$Row.swap(II)V
theorem mkX4_swap : MK mdX4_swap true := MKb_ok (h1 := 873) (h2 := 74) (h3 := 872) (h4 := 12) (by decide +kernel)
theorem qX4_swap_0 : blkb mdX4_swap 37 0 bX4_swap_0 [[], [], [868], [], [], [], [868], [], [], [], [], [], [], [156], [], [], [], [], [156], [], [], []] = true := by decide +kernel
theorem qX4_swap_37 : blkb mdX4_swap 0 37 bX4_swap_37 [[]] = true := by decide +kernel
theorem pX4_swap (hA : AOK) (r : Rt) (kb : Co) : RsB mdX4_swap r kb (rX4_swap kb) := by
  have h37 : RsB mdX4_swap r kb (tX4_swap_37 kb) := row_0
  have h0 : RsB mdX4_swap r kb (tX4_swap_0 kb) := row_B hA h37 qX4_swap_37 (ck_n rfl) rfl (fun xs ys s => eX4_swap_37 kb s)
  exact row_B hA h0 qX4_swap_0 (And.intro trivial (And.intro trivial (And.intro (co_of mkX4_at (iX4_at hA)) (And.intro trivial (And.intro trivial (And.intro trivial (And.intro (co_of mkX4_at (iX4_at hA)) (ck_n rfl)))))))) rfl (fun xs ys s => eX4_swap_0 kb (xs.getD 0 0) (xs.getD 1 0) (xs.getD 2 0) s)
theorem iX4_swap (hA : AOK) : Impl mdX4_swap gX4_swap := ent_B (kk := kX4_swap) (rr := rX4_swap) (f := fun kb => fun xs ys s => fX4_swap_0 kb (xs.getD 0 0) (xs.getD 1 0) (xs.getD 2 0) s) (by decide +kernel) rfl (fun _ => rfl) (fun r kb => pX4_swap hA r kb) (fun kb => ⟨_, rfl⟩) 0 id (fun xs s => rfl) (fun xs => wkl_rf _)
-- Floatparade$Row.partFeuds()V
theorem mkX4_partFeuds : MK mdX4_partFeuds true := MKb_ok (h1 := 859) (h2 := 74) (h3 := 857) (h4 := 858) (by decide +kernel)
theorem qX4_partFeuds_0 : blkb mdX4_partFeuds 2 0 bX4_partFeuds_0 [[], []] = true := by decide +kernel
theorem qX4_partFeuds_2 : blkb mdX4_partFeuds 0 2 bX4_partFeuds_2 [[], [], [], [], [860], [], [], [], [], []] = true := by decide +kernel
theorem qX4_partFeuds_19 : blkb mdX4_partFeuds 0 19 bX4_partFeuds_19 [[], [], [], [], [157], [], [], [], [], [], [], [], [], [870], []] = true := by decide +kernel
theorem qX4_partFeuds_42 : blkb mdX4_partFeuds 50 42 bX4_partFeuds_42 [[], [], [], [], [], [870]] = true := by decide +kernel
theorem qX4_partFeuds_50 : blkb mdX4_partFeuds 0 50 bX4_partFeuds_50 [[], []] = true := by decide +kernel
theorem qX4_partFeuds_56 : blkb mdX4_partFeuds 0 56 bX4_partFeuds_56 [[]] = true := by decide +kernel
theorem pX4_partFeuds (hA : AOK) (r : Rt) (kb : Co) : RsB mdX4_partFeuds r kb (rX4_partFeuds kb) := by
  have h56 : RsB mdX4_partFeuds r kb (tX4_partFeuds_56 kb) := row_0
  have h50 : RsB mdX4_partFeuds r kb (tX4_partFeuds_50 kb) := row_B hA h56 qX4_partFeuds_56 (ck_n rfl) rfl (fun xs ys s => eX4_partFeuds_56 kb s)
  have h42 : RsB mdX4_partFeuds r kb (tX4_partFeuds_42 kb) := row_B hA h50 qX4_partFeuds_50 (ck_n rfl) rfl (fun xs ys s => eX4_partFeuds_50 kb (xs.getD 0 0) (xs.getD 1 0) s)
  have h19 : RsB mdX4_partFeuds r kb (tX4_partFeuds_19 kb) := row_B hA h42 qX4_partFeuds_42 (And.intro trivial (And.intro trivial (And.intro trivial (And.intro trivial (And.intro trivial (And.intro (co_of mkX4_swap (iX4_swap hA)) (ck_n rfl))))))) rfl (fun xs ys s => eX4_partFeuds_42 kb (xs.getD 0 0) (xs.getD 1 0) (xs.getD 2 0) s)
  have h2 : RsB mdX4_partFeuds r kb (tX4_partFeuds_2 kb) := row_B hA h19 qX4_partFeuds_19 (And.intro trivial (And.intro trivial (And.intro trivial (And.intro trivial (And.intro trivial (And.intro trivial (And.intro trivial (And.intro trivial (And.intro trivial (And.intro trivial (And.intro trivial (And.intro trivial (And.intro trivial (And.intro (co_of mkX4_swap (iX4_swap hA)) (ck_n rfl))))))))))))))) rfl (fun xs ys s => eX4_partFeuds_19 kb (xs.getD 0 0) (xs.getD 1 0) (xs.getD 2 0) s)
  have h0 : RsB mdX4_partFeuds r kb (tX4_partFeuds_0 kb) := row_B hA h2 qX4_partFeuds_2 (And.intro trivial (And.intro trivial (And.intro trivial (And.intro trivial (And.intro (co_of mkX4_firstFeud (iX4_firstFeud hA)) (ck_n rfl)))))) rfl (fun xs ys s => eX4_partFeuds_2 kb (xs.getD 0 0) (xs.getD 1 0) s)
  exact row_B hA h0 qX4_partFeuds_0 (ck_n rfl) rfl (fun xs ys s => eX4_partFeuds_0 kb (xs.getD 0 0) s)
theorem iX4_partFeuds (hA : AOK) : Impl mdX4_partFeuds gX4_partFeuds := ent_B (kk := kX4_partFeuds) (rr := rX4_partFeuds) (f := fun kb => fun xs ys s => fX4_partFeuds_0 kb (xs.getD 0 0) s) (by decide +kernel) rfl (fun _ => rfl) (fun r kb => pX4_partFeuds hA r kb) (fun kb => ⟨_, rfl⟩) 9999 id (fun xs s => rfl) (fun xs => wkl_rf _)
-- Floatparade$League.findOrder([LFloatparade$Society;I)V
theorem mkX0_findOrder : MK mdX0_findOrder true := MKb_ok (h1 := 830) (h2 := 72) (h3 := 828) (h4 := 829) (by decide +kernel)
theorem qX0_findOrder_0 : blkb mdX0_findOrder 9 0 bX0_findOrder_0 [[], [207], [831], [], []] = true := by decide +kernel
theorem qX0_findOrder_9 : blkb mdX0_findOrder 45 9 bX0_findOrder_9 [[], [], [], [], [], [], [], [], [], [], [835], [], [], [207], [], [], [], [839], [], [852]] = true := by decide +kernel
theorem qX0_findOrder_45 : blkb mdX0_findOrder 0 45 bX0_findOrder_45 [[], []] = true := by decide +kernel
theorem qX0_findOrder_51 : blkb mdX0_findOrder 0 51 bX0_findOrder_51 [[], [207], [856], []] = true := by decide +kernel
theorem pX0_findOrder (hA : AOK) (r : Rt) (kb : Co) : RsB mdX0_findOrder r kb (rX0_findOrder kb) := by
  have h51 : RsB mdX0_findOrder r kb (tX0_findOrder_51 kb) := row_0
  have h45 : RsB mdX0_findOrder r kb (tX0_findOrder_45 kb) := row_B hA h51 qX0_findOrder_51 (And.intro trivial (And.intro trivial (And.intro (co_of mkX4_partFeuds (iX4_partFeuds hA)) (ck_n rfl)))) rfl (fun xs ys s => eX0_findOrder_51 kb (xs.getD 0 0) s)
  have h9 : RsB mdX0_findOrder r kb (tX0_findOrder_9 kb) := row_B hA h45 qX0_findOrder_45 (ck_n rfl) rfl (fun xs ys s => eX0_findOrder_45 kb (xs.getD 0 0) (xs.getD 1 0) (xs.getD 2 0) (xs.getD 3 0) s)
  have h0 : RsB mdX0_findOrder r kb (tX0_findOrder_0 kb) := row_B hA h9 qX0_findOrder_9 (And.intro trivial (And.intro trivial (And.intro trivial (And.intro trivial (And.intro trivial (And.intro trivial (And.intro trivial (And.intro trivial (And.intro trivial (And.intro trivial (And.intro (co_of mkX0_hasEntrant (iX0_hasEntrant hA)) (And.intro trivial (And.intro trivial (And.intro trivial (And.intro trivial (And.intro trivial (And.intro trivial (And.intro (co_of mkX0_orderPlace (iX0_orderPlace hA)) (And.intro trivial (And.intro (co_of mkX4_insert (iX4_insert hA)) (ck_n rfl))))))))))))))))))))) rfl (fun xs ys s => eX0_findOrder_9 kb (xs.getD 0 0) (xs.getD 1 0) (xs.getD 2 0) (xs.getD 3 0) s)
  exact row_B hA h0 qX0_findOrder_0 (And.intro trivial (And.intro trivial (And.intro (co_of mkX4_clear (iX4_clear hA)) (ck_n rfl)))) rfl (fun xs ys s => eX0_findOrder_0 kb (xs.getD 0 0) (xs.getD 1 0) (xs.getD 2 0) s)
theorem iX0_findOrder (hA : AOK) : Impl mdX0_findOrder gX0_findOrder := ent_B (kk := kX0_findOrder) (rr := rX0_findOrder) (f := fun kb => fun xs ys s => fX0_findOrder_0 kb (xs.getD 0 0) (xs.getD 1 0) (xs.getD 2 0) s) (by decide +kernel) rfl (fun _ => rfl) (fun r kb => pX0_findOrder hA r kb) (fun kb => ⟨_, rfl⟩) 9999 id (fun xs s => rfl) (fun xs => wkl_rf _)
-- Floatparade$Score.noteBy(II)I
theorem mkX5_noteBy : MK mdX5_noteBy true := MKb_ok (h1 := 1155) (h2 := 84) (h3 := 1153) (h4 := 1154) (by decide +kernel)
theorem qX5_noteBy_0 : blkb mdX5_noteBy 0 0 bX5_noteBy_0 [[], [], [], [], [], [], [], [], [], [], [382], [], [], [], [382], [], [], []] = true := by decide +kernel
theorem qX5_noteBy_28 : blkb mdX5_noteBy 29 28 bX5_noteBy_28 [[]] = true := by decide +kernel
theorem qX5_noteBy_29 : blkb mdX5_noteBy 0 29 bX5_noteBy_29 [[]] = true := by decide +kernel
theorem pX5_noteBy (hA : AOK) (r : Rt) (kb : Co) : RsB mdX5_noteBy r kb (rX5_noteBy kb) := by
  have h29 : RsB mdX5_noteBy r kb (tX5_noteBy_29 kb) := row_0
  have h28 : RsB mdX5_noteBy r kb (tX5_noteBy_28 kb) := row_B hA h29 qX5_noteBy_29 (ck_n rfl) rfl (fun xs ys s => eX5_noteBy_29 kb (ys.getD 0 0) s)
  have h0 : RsB mdX5_noteBy r kb (tX5_noteBy_0 kb) := row_B hA h28 qX5_noteBy_28 (ck_n rfl) rfl (fun xs ys s => eX5_noteBy_28 kb s)
  exact row_B hA h0 qX5_noteBy_0 (ck_n rfl) rfl (fun xs ys s => eX5_noteBy_0 kb (xs.getD 0 0) (xs.getD 1 0) (xs.getD 2 0) s)
theorem iX5_noteBy (hA : AOK) : Impl mdX5_noteBy gX5_noteBy := ent_B (kk := kX5_noteBy) (rr := rX5_noteBy) (f := fun kb => fun xs ys s => fX5_noteBy_0 kb (xs.getD 0 0) (xs.getD 1 0) (xs.getD 2 0) s) (by decide +kernel) rfl (fun _ => rfl) (fun r kb => pX5_noteBy hA r kb) (fun kb => ⟨_, rfl⟩) 0 id (fun xs s => rfl) (fun xs => wkl_rf _)
-- Floatparade$Score.together(I)I
theorem mkX5_together : MK mdX5_together true := MKb_ok (h1 := 1203) (h2 := 84) (h3 := 1201) (h4 := 1202) (by decide +kernel)
theorem qX5_together_0 : blkb mdX5_together 13 0 bX5_together_0 [[], [], [], [], [], [], [], [], [], []] = true := by decide +kernel
theorem qX5_together_13 : blkb mdX5_together 0 13 bX5_together_13 [[], [], [], [], [], [], [1204], [], [], [], [], [], [], []] = true := by decide +kernel
theorem qX5_together_42 : blkb mdX5_together 49 42 bX5_together_42 [[], [], [1205]] = true := by decide +kernel
theorem qX5_together_49 : blkb mdX5_together 68 49 bX5_together_49 [[], [], [], [1206], [], [], [], [], [], []] = true := by decide +kernel
theorem qX5_together_68 : blkb mdX5_together 0 68 bX5_together_68 [[], []] = true := by decide +kernel
theorem qX5_together_74 : blkb mdX5_together 84 74 bX5_together_74 [[], [], [], [], [], [], []] = true := by decide +kernel
theorem qX5_together_84 : blkb mdX5_together 94 84 bX5_together_84 [[], [], [], [], [], [], []] = true := by decide +kernel
theorem qX5_together_94 : blkb mdX5_together 0 94 bX5_together_94 [[], []] = true := by decide +kernel
theorem pX5_together (hA : AOK) (r : Rt) (kb : Co) : RsB mdX5_together r kb (rX5_together kb) := by
  have h94 : RsB mdX5_together r kb (tX5_together_94 kb) := row_0
  have h84 : RsB mdX5_together r kb (tX5_together_84 kb) := row_B hA h94 qX5_together_94 (ck_n rfl) rfl (fun xs ys s => eX5_together_94 kb (xs.getD 0 0) s)
  have h74 : RsB mdX5_together r kb (tX5_together_74 kb) := row_B hA h84 qX5_together_84 (ck_n rfl) rfl (fun xs ys s => eX5_together_84 kb (xs.getD 0 0) (xs.getD 1 0) (xs.getD 2 0) s)
  have h68 : RsB mdX5_together r kb (tX5_together_68 kb) := row_B hA h74 qX5_together_74 (ck_n rfl) rfl (fun xs ys s => eX5_together_74 kb (xs.getD 0 0) (xs.getD 1 0) (xs.getD 2 0) (xs.getD 3 0) s)
  have h49 : RsB mdX5_together r kb (tX5_together_49 kb) := row_B hA h68 qX5_together_68 (ck_n rfl) rfl (fun xs ys s => eX5_together_68 kb (xs.getD 0 0) (xs.getD 1 0) (xs.getD 2 0) (xs.getD 3 0) (xs.getD 4 0) (xs.getD 5 0) (xs.getD 6 0) s)
  have h42 : RsB mdX5_together r kb (tX5_together_42 kb) := row_B hA h49 qX5_together_49 (And.intro trivial (And.intro trivial (And.intro trivial (And.intro coJ9_max_7cf53 (ck_n rfl))))) rfl (fun xs ys s => eX5_together_49 kb (xs.getD 0 0) (xs.getD 1 0) (xs.getD 2 0) (xs.getD 3 0) (xs.getD 4 0) (xs.getD 5 0) (xs.getD 6 0) (ys.getD 0 0) s)
  have h13 : RsB mdX5_together r kb (tX5_together_13 kb) := row_B hA h42 qX5_together_42 (And.intro trivial (And.intro trivial (And.intro coJ9_min_7cf53 (ck_n rfl)))) rfl (fun xs ys s => eX5_together_42 kb (xs.getD 0 0) (xs.getD 1 0) (xs.getD 2 0) (xs.getD 3 0) (xs.getD 4 0) (xs.getD 5 0) (xs.getD 6 0) (xs.getD 7 0) s)
  have h0 : RsB mdX5_together r kb (tX5_together_0 kb) := row_B hA h13 qX5_together_13 (And.intro trivial (And.intro trivial (And.intro trivial (And.intro trivial (And.intro trivial (And.intro trivial (And.intro (co_of mkX5_noteBy (iX5_noteBy hA)) (ck_n rfl)))))))) rfl (fun xs ys s => eX5_together_13 kb (xs.getD 0 0) (xs.getD 1 0) (xs.getD 2 0) (xs.getD 3 0) (xs.getD 4 0) (xs.getD 5 0) (xs.getD 6 0) s)
  exact row_B hA h0 qX5_together_0 (ck_n rfl) rfl (fun xs ys s => eX5_together_0 kb (xs.getD 0 0) (xs.getD 1 0) s)
theorem iX5_together (hA : AOK) : Impl mdX5_together gX5_together := ent_B (kk := kX5_together) (rr := rX5_together) (f := fun kb => fun xs ys s => fX5_together_0 kb (xs.getD 0 0) (xs.getD 1 0) s) (by decide +kernel) rfl (fun _ => rfl) (fun r kb => pX5_together hA r kb) (fun kb => ⟨_, rfl⟩) 9999 id (fun xs s => rfl) (fun xs => wkl_rf _)
-- Floatparade$Score.hasPenalty(I)Z
theorem mkX5_hasPenalty : MK mdX5_hasPenalty true := MKb_ok (h1 := 1184) (h2 := 84) (h3 := 1182) (h4 := 1183) (by decide +kernel)
theorem qX5_hasPenalty_0 : blkb mdX5_hasPenalty 0 0 bX5_hasPenalty_0 [[], [], [], [386], [], [], [1108], [], [], [], [], [], []] = true := by decide +kernel
theorem qX5_hasPenalty_24 : blkb mdX5_hasPenalty 25 24 bX5_hasPenalty_24 [[]] = true := by decide +kernel
theorem qX5_hasPenalty_25 : blkb mdX5_hasPenalty 0 25 bX5_hasPenalty_25 [[]] = true := by decide +kernel
theorem pX5_hasPenalty (hA : AOK) (r : Rt) (kb : Co) : RsB mdX5_hasPenalty r kb (rX5_hasPenalty kb) := by
  have h25 : RsB mdX5_hasPenalty r kb (tX5_hasPenalty_25 kb) := row_0
  have h24 : RsB mdX5_hasPenalty r kb (tX5_hasPenalty_24 kb) := row_B hA h25 qX5_hasPenalty_25 (ck_n rfl) rfl (fun xs ys s => eX5_hasPenalty_25 kb (ys.getD 0 0) s)
  have h0 : RsB mdX5_hasPenalty r kb (tX5_hasPenalty_0 kb) := row_B hA h24 qX5_hasPenalty_24 (ck_n rfl) rfl (fun xs ys s => eX5_hasPenalty_24 kb s)
  exact row_B hA h0 qX5_hasPenalty_0 (And.intro trivial (And.intro trivial (And.intro trivial (And.intro trivial (And.intro trivial (And.intro trivial (And.intro (co_of mkX11_isWithin (iX11_isWithin hA)) (ck_n rfl)))))))) rfl (fun xs ys s => eX5_hasPenalty_0 kb (xs.getD 0 0) (xs.getD 1 0) s)
theorem iX5_hasPenalty (hA : AOK) : Impl mdX5_hasPenalty gX5_hasPenalty := ent_B (kk := kX5_hasPenalty) (rr := rX5_hasPenalty) (f := fun kb => fun xs ys s => fX5_hasPenalty_0 kb (xs.getD 0 0) (xs.getD 1 0) s) (by decide +kernel) rfl (fun _ => rfl) (fun r kb => pX5_hasPenalty hA r kb) (fun kb => ⟨_, rfl⟩) 0 id (fun xs s => rfl) (fun xs => wkl_rf _)
-- Floatparade$Score.points()I
theorem mkX5_points : MK mdX5_points true := MKb_ok (h1 := 1199) (h2 := 84) (h3 := 1197) (h4 := 1198) (by decide +kernel)
theorem qX5_points_0 : blkb mdX5_points 4 0 bX5_points_0 [[], [], [], []] = true := by decide +kernel
theorem qX5_points_4 : blkb mdX5_points 0 4 bX5_points_4 [[], [], [], [], [], [], [1200], [], [], [], []] = true := by decide +kernel
theorem qX5_points_23 : blkb mdX5_points 25 23 bX5_points_23 [[], []] = true := by decide +kernel
theorem qX5_points_25 : blkb mdX5_points 0 25 bX5_points_25 [[], [], [386], [], [], [], [], [1190], [], [], [385], [], [], [], [], [384], [], [], []] = true := by decide +kernel
theorem qX5_points_60 : blkb mdX5_points 61 60 bX5_points_60 [[]] = true := by decide +kernel
theorem qX5_points_61 : blkb mdX5_points 0 61 bX5_points_61 [[], [], [], []] = true := by decide +kernel
theorem qX5_points_69 : blkb mdX5_points 0 69 bX5_points_69 [[], []] = true := by decide +kernel
theorem pX5_points (hA : AOK) (r : Rt) (kb : Co) : RsB mdX5_points r kb (rX5_points kb) := by
  have h69 : RsB mdX5_points r kb (tX5_points_69 kb) := row_0
  have h61 : RsB mdX5_points r kb (tX5_points_61 kb) := row_B hA h69 qX5_points_69 (ck_n rfl) rfl (fun xs ys s => eX5_points_69 kb (xs.getD 0 0) s)
  have h60 : RsB mdX5_points r kb (tX5_points_60 kb) := row_B hA h61 qX5_points_61 (ck_n rfl) rfl (fun xs ys s => eX5_points_61 kb (xs.getD 0 0) (xs.getD 1 0) (ys.getD 0 0) (ys.getD 1 0) s)
  have h25 : RsB mdX5_points r kb (tX5_points_25 kb) := row_B hA h60 qX5_points_60 (ck_n rfl) rfl (fun xs ys s => eX5_points_60 kb (xs.getD 0 0) (xs.getD 1 0) (ys.getD 0 0) s)
  have h23 : RsB mdX5_points r kb (tX5_points_23 kb) := row_B hA h25 qX5_points_25 (And.intro trivial (And.intro trivial (And.intro trivial (And.intro trivial (And.intro trivial (And.intro trivial (And.intro trivial (And.intro (co_of mkX5_hasPenalty (iX5_hasPenalty hA)) (ck_n rfl))))))))) rfl (fun xs ys s => eX5_points_25 kb (xs.getD 0 0) (xs.getD 1 0) (xs.getD 2 0) s)
  have h4 : RsB mdX5_points r kb (tX5_points_4 kb) := row_B hA h23 qX5_points_23 (ck_n rfl) rfl (fun xs ys s => eX5_points_23 kb (xs.getD 0 0) (xs.getD 1 0) s)
  have h0 : RsB mdX5_points r kb (tX5_points_0 kb) := row_B hA h4 qX5_points_4 (And.intro trivial (And.intro trivial (And.intro trivial (And.intro trivial (And.intro trivial (And.intro trivial (And.intro (co_of mkX5_together (iX5_together hA)) (ck_n rfl)))))))) rfl (fun xs ys s => eX5_points_4 kb (xs.getD 0 0) (xs.getD 1 0) (xs.getD 2 0) s)
  exact row_B hA h0 qX5_points_0 (ck_n rfl) rfl (fun xs ys s => eX5_points_0 kb (xs.getD 0 0) s)
theorem iX5_points (hA : AOK) : Impl mdX5_points gX5_points := ent_B (kk := kX5_points) (rr := rX5_points) (f := fun kb => fun xs ys s => fX5_points_0 kb (xs.getD 0 0) s) (by decide +kernel) rfl (fun _ => rfl) (fun r kb => pX5_points hA r kb) (fun kb => ⟨_, rfl⟩) 9999 id (fun xs s => rfl) (fun xs => wkl_rf _)
-- Floatparade$Society.isBetterThan(LFloatparade$Society;I)Z
theorem mkX6_isBetterThan : MK mdX6_isBetterThan true := MKb_ok (h1 := 1238) (h2 := 82) (h3 := 1236) (h4 := 1237) (by decide +kernel)
theorem qX6_isBetterThan_0 : blkb mdX6_isBetterThan 20 0 bX6_isBetterThan_0 [[], [410], [1239], [], [], [410], [1239], [], [], []] = true := by decide +kernel
theorem qX6_isBetterThan_20 : blkb mdX6_isBetterThan 0 20 bX6_isBetterThan_20 [[], [], [], [], [], [], [], [], [], [], [], [], [], [410], [], [1240], [], [], [410], [], [1240], [], [], []] = true := by decide +kernel
theorem qX6_isBetterThan_67 : blkb mdX6_isBetterThan 0 67 bX6_isBetterThan_67 [[], [], [], [], []] = true := by decide +kernel
theorem qX6_isBetterThan_77 : blkb mdX6_isBetterThan 78 77 bX6_isBetterThan_77 [[]] = true := by decide +kernel
theorem qX6_isBetterThan_78 : blkb mdX6_isBetterThan 0 78 bX6_isBetterThan_78 [[]] = true := by decide +kernel
theorem pX6_isBetterThan (hA : AOK) (r : Rt) (kb : Co) : RsB mdX6_isBetterThan r kb (rX6_isBetterThan kb) := by
  have h78 : RsB mdX6_isBetterThan r kb (tX6_isBetterThan_78 kb) := row_0
  have h77 : RsB mdX6_isBetterThan r kb (tX6_isBetterThan_77 kb) := row_B hA h78 qX6_isBetterThan_78 (ck_n rfl) rfl (fun xs ys s => eX6_isBetterThan_78 kb (ys.getD 0 0) s)
  have h67 : RsB mdX6_isBetterThan r kb (tX6_isBetterThan_67 kb) := row_B hA h77 qX6_isBetterThan_77 (ck_n rfl) rfl (fun xs ys s => eX6_isBetterThan_77 kb s)
  have h20 : RsB mdX6_isBetterThan r kb (tX6_isBetterThan_20 kb) := row_B hA h67 qX6_isBetterThan_67 (ck_n rfl) rfl (fun xs ys s => eX6_isBetterThan_67 kb (xs.getD 0 0) (xs.getD 1 0) s)
  have h0 : RsB mdX6_isBetterThan r kb (tX6_isBetterThan_0 kb) := row_B hA h20 qX6_isBetterThan_20 (And.intro trivial (And.intro trivial (And.intro trivial (And.intro trivial (And.intro trivial (And.intro trivial (And.intro trivial (And.intro trivial (And.intro trivial (And.intro trivial (And.intro trivial (And.intro trivial (And.intro trivial (And.intro trivial (And.intro trivial (And.intro (co_of mkX5_together (iX5_together hA)) (And.intro trivial (And.intro trivial (And.intro trivial (And.intro trivial (And.intro (co_of mkX5_together (iX5_together hA)) (ck_n rfl)))))))))))))))))))))) rfl (fun xs ys s => eX6_isBetterThan_20 kb (xs.getD 0 0) (xs.getD 1 0) (xs.getD 2 0) (xs.getD 3 0) (xs.getD 4 0) (xs.getD 5 0) s)
  exact row_B hA h0 qX6_isBetterThan_0 (And.intro trivial (And.intro trivial (And.intro (co_of mkX5_points (iX5_points hA)) (And.intro trivial (And.intro trivial (And.intro trivial (And.intro (co_of mkX5_points (iX5_points hA)) (ck_n rfl)))))))) rfl (fun xs ys s => eX6_isBetterThan_0 kb (xs.getD 0 0) (xs.getD 1 0) (xs.getD 2 0) s)
theorem iX6_isBetterThan (hA : AOK) : Impl mdX6_isBetterThan gX6_isBetterThan := ent_B (kk := kX6_isBetterThan) (rr := rX6_isBetterThan) (f := fun kb => fun xs ys s => fX6_isBetterThan_0 kb (xs.getD 0 0) (xs.getD 1 0) (xs.getD 2 0) s) (by decide +kernel) rfl (fun _ => rfl) (fun r kb => pX6_isBetterThan hA r kb) (fun kb => ⟨_, rfl⟩) 9999 id (fun xs s => rfl) (fun xs => wkl_rf _)
-- Floatparade$League.rankPlace(LFloatparade$Society;I)I
theorem mkX0_rankPlace : MK mdX0_rankPlace true := MKb_ok (h1 := 1234) (h2 := 72) (h3 := 1233) (h4 := 26) (by decide +kernel)
theorem qX0_rankPlace_0 : blkb mdX0_rankPlace 2 0 bX0_rankPlace_0 [[], []] = true := by decide +kernel
theorem qX0_rankPlace_2 : blkb mdX0_rankPlace 0 2 bX0_rankPlace_2 [[], [], [209], [158], [], [], [209], [], [843], [], [], [], [], [], [], [1235], [], [], []] = true := by decide +kernel
theorem qX0_rankPlace_40 : blkb mdX0_rankPlace 0 40 bX0_rankPlace_40 [[], []] = true := by decide +kernel
theorem qX0_rankPlace_46 : blkb mdX0_rankPlace 0 46 bX0_rankPlace_46 [[], [209], [158], []] = true := by decide +kernel
theorem pX0_rankPlace (hA : AOK) (r : Rt) (kb : Co) : RsB mdX0_rankPlace r kb (rX0_rankPlace kb) := by
  have h46 : RsB mdX0_rankPlace r kb (tX0_rankPlace_46 kb) := row_0
  have h40 : RsB mdX0_rankPlace r kb (tX0_rankPlace_40 kb) := row_B hA h46 qX0_rankPlace_46 (ck_n rfl) rfl (fun xs ys s => eX0_rankPlace_46 kb (xs.getD 0 0) s)
  have h2 : RsB mdX0_rankPlace r kb (tX0_rankPlace_2 kb) := row_B hA h40 qX0_rankPlace_40 (ck_n rfl) rfl (fun xs ys s => eX0_rankPlace_40 kb (xs.getD 0 0) (xs.getD 1 0) (xs.getD 2 0) (xs.getD 3 0) s)
  have h0 : RsB mdX0_rankPlace r kb (tX0_rankPlace_0 kb) := row_B hA h2 qX0_rankPlace_2 (And.intro trivial (And.intro trivial (And.intro trivial (And.intro trivial (And.intro trivial (And.intro trivial (And.intro trivial (And.intro trivial (And.intro (co_of mkX4_at (iX4_at hA)) (And.intro trivial (And.intro trivial (And.intro trivial (And.intro trivial (And.intro trivial (And.intro trivial (And.intro (co_of mkX6_isBetterThan (iX6_isBetterThan hA)) (ck_n rfl))))))))))))))))) rfl (fun xs ys s => eX0_rankPlace_2 kb (xs.getD 0 0) (xs.getD 1 0) (xs.getD 2 0) (xs.getD 3 0) s)
  exact row_B hA h0 qX0_rankPlace_0 (ck_n rfl) rfl (fun xs ys s => eX0_rankPlace_0 kb (xs.getD 0 0) (xs.getD 1 0) (xs.getD 2 0) s)
theorem iX0_rankPlace (hA : AOK) : Impl mdX0_rankPlace gX0_rankPlace := ent_B (kk := kX0_rankPlace) (rr := rX0_rankPlace) (f := fun kb => fun xs ys s => fX0_rankPlace_0 kb (xs.getD 0 0) (xs.getD 1 0) (xs.getD 2 0) s) (by decide +kernel) rfl (fun _ => rfl) (fun r kb => pX0_rankPlace hA r kb) (fun kb => ⟨_, rfl⟩) 9999 id (fun xs s => rfl) (fun xs => wkl_rf _)
-- Floatparade$League.rank([LFloatparade$Society;I)V
theorem mkX0_rank : MK mdX0_rank true := MKb_ok (h1 := 1230) (h2 := 72) (h3 := 1228) (h4 := 1229) (by decide +kernel)
theorem qX0_rank_0 : blkb mdX0_rank 9 0 bX0_rank_0 [[], [209], [831], [], []] = true := by decide +kernel
theorem qX0_rank_9 : blkb mdX0_rank 45 9 bX0_rank_9 [[], [], [], [], [], [], [], [], [], [], [835], [], [], [209], [], [], [], [1231], [], [852]] = true := by decide +kernel
theorem qX0_rank_45 : blkb mdX0_rank 0 45 bX0_rank_45 [[], []] = true := by decide +kernel
theorem qX0_rank_51 : blkb mdX0_rank 0 51 bX0_rank_51 [[]] = true := by decide +kernel
theorem pX0_rank (hA : AOK) (r : Rt) (kb : Co) : RsB mdX0_rank r kb (rX0_rank kb) := by
  have h51 : RsB mdX0_rank r kb (tX0_rank_51 kb) := row_0
  have h45 : RsB mdX0_rank r kb (tX0_rank_45 kb) := row_B hA h51 qX0_rank_51 (ck_n rfl) rfl (fun xs ys s => eX0_rank_51 kb s)
  have h9 : RsB mdX0_rank r kb (tX0_rank_9 kb) := row_B hA h45 qX0_rank_45 (ck_n rfl) rfl (fun xs ys s => eX0_rank_45 kb (xs.getD 0 0) (xs.getD 1 0) (xs.getD 2 0) (xs.getD 3 0) s)
  have h0 : RsB mdX0_rank r kb (tX0_rank_0 kb) := row_B hA h9 qX0_rank_9 (And.intro trivial (And.intro trivial (And.intro trivial (And.intro trivial (And.intro trivial (And.intro trivial (And.intro trivial (And.intro trivial (And.intro trivial (And.intro trivial (And.intro (co_of mkX0_hasEntrant (iX0_hasEntrant hA)) (And.intro trivial (And.intro trivial (And.intro trivial (And.intro trivial (And.intro trivial (And.intro trivial (And.intro (co_of mkX0_rankPlace (iX0_rankPlace hA)) (And.intro trivial (And.intro (co_of mkX4_insert (iX4_insert hA)) (ck_n rfl))))))))))))))))))))) rfl (fun xs ys s => eX0_rank_9 kb (xs.getD 0 0) (xs.getD 1 0) (xs.getD 2 0) (xs.getD 3 0) s)
  exact row_B hA h0 qX0_rank_0 (And.intro trivial (And.intro trivial (And.intro (co_of mkX4_clear (iX4_clear hA)) (ck_n rfl)))) rfl (fun xs ys s => eX0_rank_0 kb (xs.getD 0 0) (xs.getD 1 0) (xs.getD 2 0) s)
theorem iX0_rank (hA : AOK) : Impl mdX0_rank gX0_rank := ent_B (kk := kX0_rank) (rr := rX0_rank) (f := fun kb => fun xs ys s => fX0_rank_0 kb (xs.getD 0 0) (xs.getD 1 0) (xs.getD 2 0) s) (by decide +kernel) rfl (fun _ => rfl) (fun r kb => pX0_rank hA r kb) (fun kb => ⟨_, rfl⟩) 9999 id (fun xs s => rfl) (fun xs => wkl_rf _)
-- Floatparade$Row.numberAt(I)I
theorem mkX4_numberAt : MK mdX4_numberAt true := MKb_ok (h1 := 907) (h2 := 74) (h3 := 905) (h4 := 906) (by decide +kernel)
theorem qX4_numberAt_0 : blkb mdX4_numberAt 0 0 bX4_numberAt_0 [[], [], [868], [], [], [], [], []] = true := by decide +kernel
theorem qX4_numberAt_14 : blkb mdX4_numberAt 18 14 bX4_numberAt_14 [[], [403]] = true := by decide +kernel
theorem qX4_numberAt_18 : blkb mdX4_numberAt 0 18 bX4_numberAt_18 [[]] = true := by decide +kernel
theorem pX4_numberAt (hA : AOK) (r : Rt) (kb : Co) : RsB mdX4_numberAt r kb (rX4_numberAt kb) := by
  have h18 : RsB mdX4_numberAt r kb (tX4_numberAt_18 kb) := row_0
  have h14 : RsB mdX4_numberAt r kb (tX4_numberAt_14 kb) := row_B hA h18 qX4_numberAt_18 (ck_n rfl) rfl (fun xs ys s => eX4_numberAt_18 kb (ys.getD 0 0) s)
  have h0 : RsB mdX4_numberAt r kb (tX4_numberAt_0 kb) := row_B hA h14 qX4_numberAt_14 (ck_n rfl) rfl (fun xs ys s => eX4_numberAt_14 kb (xs.getD 0 0) s)
  exact row_B hA h0 qX4_numberAt_0 (And.intro trivial (And.intro trivial (And.intro (co_of mkX4_at (iX4_at hA)) (ck_n rfl)))) rfl (fun xs ys s => eX4_numberAt_0 kb (xs.getD 0 0) (xs.getD 1 0) s)
theorem iX4_numberAt (hA : AOK) : Impl mdX4_numberAt gX4_numberAt := ent_B (kk := kX4_numberAt) (rr := rX4_numberAt) (f := fun kb => fun xs ys s => fX4_numberAt_0 kb (xs.getD 0 0) (xs.getD 1 0) s) (by decide +kernel) rfl (fun _ => rfl) (fun r kb => pX4_numberAt hA r kb) (fun kb => ⟨_, rfl⟩) 0 id (fun xs s => rfl) (fun xs => wkl_rf _)
-- Floatparade$League.settle()V
theorem mkX0_settle : MK mdX0_settle true := MKb_ok (h1 := 1244) (h2 := 72) (h3 := 1242) (h4 := 1243) (by decide +kernel)
theorem qX0_settle_0 : blkb mdX0_settle 2 0 bX0_settle_0 [[], []] = true := by decide +kernel
theorem qX0_settle_2 : blkb mdX0_settle 47 2 bX0_settle_2 [[], [], [209], [158], [], [], [209], [], [843], [], [], [], [], [], [416], [], [], [209], [158], [], [], [], [], [416]] = true := by decide +kernel
theorem qX0_settle_47 : blkb mdX0_settle 0 47 bX0_settle_47 [[], []] = true := by decide +kernel
theorem qX0_settle_53 : blkb mdX0_settle 0 53 bX0_settle_53 [[], [], [209], [], [1245], [213], []] = true := by decide +kernel
theorem pX0_settle (hA : AOK) (r : Rt) (kb : Co) : RsB mdX0_settle r kb (rX0_settle kb) := by
  have h53 : RsB mdX0_settle r kb (tX0_settle_53 kb) := row_0
  have h47 : RsB mdX0_settle r kb (tX0_settle_47 kb) := row_B hA h53 qX0_settle_53 (And.intro trivial (And.intro trivial (And.intro trivial (And.intro trivial (And.intro (co_of mkX4_numberAt (iX4_numberAt hA)) (ck_n rfl)))))) rfl (fun xs ys s => eX0_settle_53 kb (xs.getD 0 0) s)
  have h2 : RsB mdX0_settle r kb (tX0_settle_2 kb) := row_B hA h47 qX0_settle_47 (ck_n rfl) rfl (fun xs ys s => eX0_settle_47 kb (xs.getD 0 0) (xs.getD 1 0) s)
  have h0 : RsB mdX0_settle r kb (tX0_settle_0 kb) := row_B hA h2 qX0_settle_2 (And.intro trivial (And.intro trivial (And.intro trivial (And.intro trivial (And.intro trivial (And.intro trivial (And.intro trivial (And.intro trivial (And.intro (co_of mkX4_at (iX4_at hA)) (ck_n rfl)))))))))) rfl (fun xs ys s => eX0_settle_2 kb (xs.getD 0 0) (xs.getD 1 0) s)
  exact row_B hA h0 qX0_settle_0 (ck_n rfl) rfl (fun xs ys s => eX0_settle_0 kb (xs.getD 0 0) s)
theorem iX0_settle (hA : AOK) : Impl mdX0_settle gX0_settle := ent_B (kk := kX0_settle) (rr := rX0_settle) (f := fun kb => fun xs ys s => fX0_settle_0 kb (xs.getD 0 0) s) (by decide +kernel) rfl (fun _ => rfl) (fun r kb => pX0_settle hA r kb) (fun kb => ⟨_, rfl⟩) 9999 id (fun xs s => rfl) (fun xs => wkl_rf _)
-- Floatparade$Line.goesOn()Z
theorem mkX1_goesOn : MK mdX1_goesOn true := MKb_ok (h1 := 987) (h2 := 75) (h3 := 985) (h4 := 986) (by decide +kernel)
theorem qX1_goesOn_0 : blkb mdX1_goesOn 0 0 bX1_goesOn_0 [[], [181], [], [], [184], [], [], []] = true := by decide +kernel
theorem qX1_goesOn_18 : blkb mdX1_goesOn 19 18 bX1_goesOn_18 [[]] = true := by decide +kernel
theorem qX1_goesOn_19 : blkb mdX1_goesOn 0 19 bX1_goesOn_19 [[]] = true := by decide +kernel
theorem pX1_goesOn (hA : AOK) (r : Rt) (kb : Co) : RsB mdX1_goesOn r kb (rX1_goesOn kb) := by
  have h19 : RsB mdX1_goesOn r kb (tX1_goesOn_19 kb) := row_0
  have h18 : RsB mdX1_goesOn r kb (tX1_goesOn_18 kb) := row_B hA h19 qX1_goesOn_19 (ck_n rfl) rfl (fun xs ys s => eX1_goesOn_19 kb (ys.getD 0 0) s)
  have h0 : RsB mdX1_goesOn r kb (tX1_goesOn_0 kb) := row_B hA h18 qX1_goesOn_18 (ck_n rfl) rfl (fun xs ys s => eX1_goesOn_18 kb s)
  exact row_B hA h0 qX1_goesOn_0 (ck_n rfl) rfl (fun xs ys s => eX1_goesOn_0 kb (xs.getD 0 0) s)
theorem iX1_goesOn (hA : AOK) : Impl mdX1_goesOn gX1_goesOn := ent_B (kk := kX1_goesOn) (rr := rX1_goesOn) (f := fun kb => fun xs ys s => fX1_goesOn_0 kb (xs.getD 0 0) s) (by decide +kernel) rfl (fun _ => rfl) (fun r kb => pX1_goesOn hA r kb) (fun kb => ⟨_, rfl⟩) 0 id (fun xs s => rfl) (fun xs => wkl_rf _)
-- Floatparade$Line.partAt(I)LFloatparade$Part;
theorem mkX1_partAt : MK mdX1_partAt true := MKb_ok (h1 := 992) (h2 := 75) (h3 := 990) (h4 := 991) (by decide +kernel)
theorem qX1_partAt_0 : blkb mdX1_partAt 0 0 bX1_partAt_0 [[], [], [], [176], [], [], [935], [], [], [], [174], [], [], [], [174], [], [], []] = true := by decide +kernel
theorem qX1_partAt_32 : blkb mdX1_partAt 33 32 bX1_partAt_32 [[]] = true := by decide +kernel
theorem qX1_partAt_33 : blkb mdX1_partAt 0 33 bX1_partAt_33 [[]] = true := by decide +kernel
theorem pX1_partAt (hA : AOK) (r : Rt) (kb : Co) : RsB mdX1_partAt r kb (rX1_partAt kb) := by
  have h33 : RsB mdX1_partAt r kb (tX1_partAt_33 kb) := row_0
  have h32 : RsB mdX1_partAt r kb (tX1_partAt_32 kb) := row_B hA h33 qX1_partAt_33 (ck_n rfl) rfl (fun xs ys s => eX1_partAt_33 kb (ys.getD 0 0) s)
  have h0 : RsB mdX1_partAt r kb (tX1_partAt_0 kb) := row_B hA h32 qX1_partAt_32 (ck_n rfl) rfl (fun xs ys s => eX1_partAt_32 kb s)
  exact row_B hA h0 qX1_partAt_0 (And.intro trivial (And.intro trivial (And.intro trivial (And.intro trivial (And.intro trivial (And.intro trivial (And.intro (co_of mkX11_isWithin (iX11_isWithin hA)) (ck_n rfl)))))))) rfl (fun xs ys s => eX1_partAt_0 kb (xs.getD 0 0) (xs.getD 1 0) s)
theorem iX1_partAt (hA : AOK) : Impl mdX1_partAt gX1_partAt := ent_B (kk := kX1_partAt) (rr := rX1_partAt) (f := fun kb => fun xs ys s => fX1_partAt_0 kb (xs.getD 0 0) (xs.getD 1 0) s) (by decide +kernel) rfl (fun _ => rfl) (fun r kb => pX1_partAt hA r kb) (fun kb => ⟨_, rfl⟩) 0 id (fun xs s => rfl) (fun xs => wkl_rf _)
-- Floatparade$Line.clear()V
theorem mkX1_clear : MK mdX1_clear true := MKb_ok (h1 := 924) (h2 := 75) (h3 := 922) (h4 := 923) (by decide +kernel)
theorem qX1_clear_0 : blkb mdX1_clear 22 0 bX1_clear_0 [[], [], [176], [], [], [177], [], [], [181], [], [], [184], [], []] = true := by decide +kernel
theorem qX1_clear_22 : blkb mdX1_clear 0 22 bX1_clear_22 [[], [], [175], [], [], [], [175], [], [], [], [], []] = true := by decide +kernel
theorem qX1_clear_44 : blkb mdX1_clear 0 44 bX1_clear_44 [[]] = true := by decide +kernel
theorem pX1_clear (hA : AOK) (r : Rt) (kb : Co) : RsB mdX1_clear r kb (rX1_clear kb) := by
  have h44 : RsB mdX1_clear r kb (tX1_clear_44 kb) := row_0
  have h22 : RsB mdX1_clear r kb (tX1_clear_22 kb) := row_B hA h44 qX1_clear_44 (ck_n rfl) rfl (fun xs ys s => eX1_clear_44 kb s)
  have h0 : RsB mdX1_clear r kb (tX1_clear_0 kb) := row_B hA h22 qX1_clear_22 (ck_n rfl) rfl (fun xs ys s => eX1_clear_22 kb (xs.getD 0 0) (xs.getD 1 0) s)
  exact row_B hA h0 qX1_clear_0 (ck_n rfl) rfl (fun xs ys s => eX1_clear_0 kb (xs.getD 0 0) s)
theorem iX1_clear (hA : AOK) : Impl mdX1_clear gX1_clear := ent_B (kk := kX1_clear) (rr := rX1_clear) (f := fun kb => fun xs ys s => fX1_clear_0 kb (xs.getD 0 0) s) (by decide +kernel) rfl (fun _ => rfl) (fun r kb => pX1_clear hA r kb) (fun kb => ⟨_, rfl⟩) 9999 id (fun xs s => rfl) (fun xs => wkl_rf _)
-- Floatparade$Society.wagonAt(I)LFloatparade$Wagon;
theorem mkX6_wagonAt : MK mdX6_wagonAt true := MKb_ok (h1 := 782) (h2 := 82) (h3 := 780) (h4 := 781) (by decide +kernel)
theorem qX6_wagonAt_0 : blkb mdX6_wagonAt 0 0 bX6_wagonAt_0 [[], [], [], [423], [], [], [771], [], [], [], [412], [], [], [], [412], [], [], []] = true := by decide +kernel
theorem qX6_wagonAt_32 : blkb mdX6_wagonAt 33 32 bX6_wagonAt_32 [[]] = true := by decide +kernel
theorem qX6_wagonAt_33 : blkb mdX6_wagonAt 0 33 bX6_wagonAt_33 [[]] = true := by decide +kernel
theorem pX6_wagonAt (hA : AOK) (r : Rt) (kb : Co) : RsB mdX6_wagonAt r kb (rX6_wagonAt kb) := by
  have h33 : RsB mdX6_wagonAt r kb (tX6_wagonAt_33 kb) := row_0
  have h32 : RsB mdX6_wagonAt r kb (tX6_wagonAt_32 kb) := row_B hA h33 qX6_wagonAt_33 (ck_n rfl) rfl (fun xs ys s => eX6_wagonAt_33 kb (ys.getD 0 0) s)
  have h0 : RsB mdX6_wagonAt r kb (tX6_wagonAt_0 kb) := row_B hA h32 qX6_wagonAt_32 (ck_n rfl) rfl (fun xs ys s => eX6_wagonAt_32 kb s)
  exact row_B hA h0 qX6_wagonAt_0 (And.intro trivial (And.intro trivial (And.intro trivial (And.intro trivial (And.intro trivial (And.intro trivial (And.intro (co_of mkX11_isWithin (iX11_isWithin hA)) (ck_n rfl)))))))) rfl (fun xs ys s => eX6_wagonAt_0 kb (xs.getD 0 0) (xs.getD 1 0) s)
theorem iX6_wagonAt (hA : AOK) : Impl mdX6_wagonAt gX6_wagonAt := ent_B (kk := kX6_wagonAt) (rr := rX6_wagonAt) (f := fun kb => fun xs ys s => fX6_wagonAt_0 kb (xs.getD 0 0) (xs.getD 1 0) s) (by decide +kernel) rfl (fun _ => rfl) (fun r kb => pX6_wagonAt hA r kb) (fun kb => ⟨_, rfl⟩) 0 id (fun xs s => rfl) (fun xs => wkl_rf _)
-- Floatparade$Part.set(LFloatparade$Society;II)V
theorem mkX2_set : MK mdX2_set true := MKb_ok (h1 := 968) (h2 := 90) (h3 := 966) (h4 := 967) (by decide +kernel)
theorem qX2_set_0 : blkb mdX2_set 0 0 bX2_set_0 [[], [], [941], [], [], [943], [], [], [946], [], [], [944], [], [], [947], [], [], [950], []] = true := by decide +kernel
theorem pX2_set (hA : AOK) (r : Rt) (kb : Co) : RsB mdX2_set r kb (rX2_set kb) := by
  have h0 : RsB mdX2_set r kb (tX2_set_0 kb) := row_0
  exact row_B hA h0 qX2_set_0 (ck_n rfl) rfl (fun xs ys s => eX2_set_0 kb (xs.getD 0 0) (xs.getD 1 0) (xs.getD 2 0) (xs.getD 3 0) s)
theorem iX2_set (hA : AOK) : Impl mdX2_set gX2_set := ent_B (kk := kX2_set) (rr := rX2_set) (f := fun kb => fun xs ys s => fX2_set_0 kb (xs.getD 0 0) (xs.getD 1 0) (xs.getD 2 0) (xs.getD 3 0) s) (by decide +kernel) rfl (fun _ => rfl) (fun r kb => pX2_set hA r kb) (fun kb => ⟨_, rfl⟩) 0 id (fun xs s => rfl) (fun xs => wkl_rf _)
-- Floatparade$Line.append(LFloatparade$Society;II)V
theorem mkX1_append : MK mdX1_append true := MKb_ok (h1 := 934) (h2 := 75) (h3 := 933) (h4 := 14) (by decide +kernel)
theorem qX1_append_0 : blkb mdX1_append 0 0 bX1_append_0 [[], [176], [], [], [174], [], [], [], [935], [], []] = true := by decide +kernel
theorem qX1_append_19 : blkb mdX1_append 0 19 bX1_append_19 [[], [174], [], [176], [], [], [], []] = true := by decide +kernel
theorem qX1_append_41 : blkb mdX1_append 50 41 bX1_append_41 [[], [174], [], [176], []] = true := by decide +kernel
theorem qX1_append_50 : blkb mdX1_append 0 50 bX1_append_50 [[], [], [], [], [], [965], [], [174], [], [176], [], [], [], [], [176], [], [], [176], []] = true := by decide +kernel
theorem pX1_append (hA : AOK) (r : Rt) (kb : Co) : RsB mdX1_append r kb (rX1_append kb) := by
  have h50 : RsB mdX1_append r kb (tX1_append_50 kb) := row_0
  have h41 : RsB mdX1_append r kb (tX1_append_41 kb) := row_B hA h50 qX1_append_50 (And.intro trivial (And.intro trivial (And.intro trivial (And.intro trivial (And.intro trivial (And.intro (co_of mkX2_set (iX2_set hA)) (ck_n rfl))))))) rfl (fun xs ys s => eX1_append_50 kb (xs.getD 0 0) (xs.getD 1 0) (xs.getD 2 0) (xs.getD 3 0) (ys.getD 0 0) s)
  have h19 : RsB mdX1_append r kb (tX1_append_19 kb) := row_B hA h41 qX1_append_41 (ck_n rfl) rfl (fun xs ys s => eX1_append_41 kb (xs.getD 0 0) (xs.getD 1 0) (xs.getD 2 0) (xs.getD 3 0) s)
  have h0 : RsB mdX1_append r kb (tX1_append_0 kb) := row_B hA h19 qX1_append_19 (ck_n rfl) rfl (fun xs ys s => eX1_append_19 kb (xs.getD 0 0) (xs.getD 1 0) (xs.getD 2 0) (xs.getD 3 0) s)
  exact row_B hA h0 qX1_append_0 (And.intro trivial (And.intro trivial (And.intro trivial (And.intro trivial (And.intro trivial (And.intro trivial (And.intro trivial (And.intro trivial (And.intro (co_of mkX11_isWithin (iX11_isWithin hA)) (ck_n rfl)))))))))) rfl (fun xs ys s => eX1_append_0 kb (xs.getD 0 0) (xs.getD 1 0) (xs.getD 2 0) (xs.getD 3 0) s)
theorem iX1_append (hA : AOK) : Impl mdX1_append gX1_append := ent_B (kk := kX1_append) (rr := rX1_append) (f := fun kb => fun xs ys s => fX1_append_0 kb (xs.getD 0 0) (xs.getD 1 0) (xs.getD 2 0) (xs.getD 3 0) s) (by decide +kernel) rfl (fun _ => rfl) (fun r kb => pX1_append hA r kb) (fun kb => ⟨_, rfl⟩) 0 id (fun xs s => rfl) (fun xs => wkl_rf _)
-- Floatparade$Society.wingLength()I
theorem mkX6_wingLength : MK mdX6_wingLength true := MKb_ok (h1 := 972) (h2 := 82) (h3 := 970) (h4 := 971) (by decide +kernel)
theorem qX6_wingLength_0 : blkb mdX6_wingLength 0 0 bX6_wingLength_0 [[], [407], [], [], [], [], [], [973], []] = true := by decide +kernel
theorem pX6_wingLength (hA : AOK) (r : Rt) (kb : Co) : RsB mdX6_wingLength r kb (rX6_wingLength kb) := by
  have h0 : RsB mdX6_wingLength r kb (tX6_wingLength_0 kb) := row_0
  exact row_B hA h0 qX6_wingLength_0 (And.intro trivial (And.intro trivial (And.intro trivial (And.intro trivial (And.intro trivial (And.intro trivial (And.intro trivial (And.intro coJ9_min_7cf53 (ck_n rfl))))))))) rfl (fun xs ys s => eX6_wingLength_0 kb (xs.getD 0 0) s)
theorem iX6_wingLength (hA : AOK) : Impl mdX6_wingLength gX6_wingLength := ent_B (kk := kX6_wingLength) (rr := rX6_wingLength) (f := fun kb => fun xs ys s => fX6_wingLength_0 kb (xs.getD 0 0) s) (by decide +kernel) rfl (fun _ => rfl) (fun r kb => pX6_wingLength hA r kb) (fun kb => ⟨_, rfl⟩) 0 id (fun xs s => rfl) (fun xs => wkl_rf _)
-- Floatparade$Line.lineUp(LFloatparade$Society;)V
theorem mkX1_lineUp : MK mdX1_lineUp true := MKb_ok (h1 := 929) (h2 := 75) (h3 := 928) (h4 := 13) (by decide +kernel)
theorem qX1_lineUp_0 : blkb mdX1_lineUp 2 0 bX1_lineUp_0 [[], []] = true := by decide +kernel
theorem qX1_lineUp_2 : blkb mdX1_lineUp 40 2 bX1_lineUp_2 [[], [], [424], [], [], [], [930], [], [], [], [], [], [], [], [755], [931], [], [], [], [], [969], [931]] = true := by decide +kernel
theorem qX1_lineUp_40 : blkb mdX1_lineUp 0 40 bX1_lineUp_40 [[], []] = true := by decide +kernel
theorem qX1_lineUp_46 : blkb mdX1_lineUp 63 46 bX1_lineUp_46 [[], [424], [], [], [], [], [], [969], [931]] = true := by decide +kernel
theorem qX1_lineUp_63 : blkb mdX1_lineUp 0 63 bX1_lineUp_63 [[]] = true := by decide +kernel
theorem pX1_lineUp (hA : AOK) (r : Rt) (kb : Co) : RsB mdX1_lineUp r kb (rX1_lineUp kb) := by
  have h63 : RsB mdX1_lineUp r kb (tX1_lineUp_63 kb) := row_0
  have h46 : RsB mdX1_lineUp r kb (tX1_lineUp_46 kb) := row_B hA h63 qX1_lineUp_63 (ck_n rfl) rfl (fun xs ys s => eX1_lineUp_63 kb s)
  have h40 : RsB mdX1_lineUp r kb (tX1_lineUp_40 kb) := row_B hA h46 qX1_lineUp_46 (And.intro trivial (And.intro trivial (And.intro trivial (And.intro trivial (And.intro trivial (And.intro trivial (And.intro trivial (And.intro (co_of mkX6_wingLength (iX6_wingLength hA)) (And.intro (co_of mkX1_append (iX1_append hA)) (ck_n rfl)))))))))) rfl (fun xs ys s => eX1_lineUp_46 kb (xs.getD 0 0) (xs.getD 1 0) s)
  have h2 : RsB mdX1_lineUp r kb (tX1_lineUp_2 kb) := row_B hA h40 qX1_lineUp_40 (ck_n rfl) rfl (fun xs ys s => eX1_lineUp_40 kb (xs.getD 0 0) (xs.getD 1 0) (xs.getD 2 0) s)
  have h0 : RsB mdX1_lineUp r kb (tX1_lineUp_0 kb) := row_B hA h2 qX1_lineUp_2 (And.intro trivial (And.intro trivial (And.intro trivial (And.intro trivial (And.intro trivial (And.intro trivial (And.intro (co_of mkX6_wagonAt (iX6_wagonAt hA)) (And.intro trivial (And.intro trivial (And.intro trivial (And.intro trivial (And.intro trivial (And.intro trivial (And.intro trivial (And.intro trivial (And.intro (co_of mkX1_append (iX1_append hA)) (And.intro trivial (And.intro trivial (And.intro trivial (And.intro trivial (And.intro (co_of mkX6_wingLength (iX6_wingLength hA)) (And.intro (co_of mkX1_append (iX1_append hA)) (ck_n rfl))))))))))))))))))))))) rfl (fun xs ys s => eX1_lineUp_2 kb (xs.getD 0 0) (xs.getD 1 0) (xs.getD 2 0) s)
  exact row_B hA h0 qX1_lineUp_0 (ck_n rfl) rfl (fun xs ys s => eX1_lineUp_0 kb (xs.getD 0 0) (xs.getD 1 0) s)
theorem iX1_lineUp (hA : AOK) : Impl mdX1_lineUp gX1_lineUp := ent_B (kk := kX1_lineUp) (rr := rX1_lineUp) (f := fun kb => fun xs ys s => fX1_lineUp_0 kb (xs.getD 0 0) (xs.getD 1 0) s) (by decide +kernel) rfl (fun _ => rfl) (fun r kb => pX1_lineUp hA r kb) (fun kb => ⟨_, rfl⟩) 9999 id (fun xs s => rfl) (fun xs => wkl_rf _)
-- Floatparade$Line.form(LFloatparade$Row;II)I
theorem mkX1_form : MK mdX1_form true := MKb_ok (h1 := 920) (h2 := 75) (h3 := 918) (h4 := 919) (by decide +kernel)
theorem qX1_form_0 : blkb mdX1_form 22 0 bX1_form_0 [[], [921], [], [], [179], [], [], [180], [], [], [181], [], []] = true := by decide +kernel
theorem qX1_form_22 : blkb mdX1_form 50 22 bX1_form_22 [[], [], [159], [], [], [], [925], [], [], [], [], [], [926]] = true := by decide +kernel
theorem qX1_form_50 : blkb mdX1_form 0 50 bX1_form_50 [[], []] = true := by decide +kernel
theorem qX1_form_56 : blkb mdX1_form 0 56 bX1_form_56 [[], [176], []] = true := by decide +kernel
theorem pX1_form (hA : AOK) (r : Rt) (kb : Co) : RsB mdX1_form r kb (rX1_form kb) := by
  have h56 : RsB mdX1_form r kb (tX1_form_56 kb) := row_0
  have h50 : RsB mdX1_form r kb (tX1_form_50 kb) := row_B hA h56 qX1_form_56 (ck_n rfl) rfl (fun xs ys s => eX1_form_56 kb (xs.getD 0 0) s)
  have h22 : RsB mdX1_form r kb (tX1_form_22 kb) := row_B hA h50 qX1_form_50 (ck_n rfl) rfl (fun xs ys s => eX1_form_50 kb (xs.getD 0 0) (xs.getD 1 0) (xs.getD 2 0) s)
  have h0 : RsB mdX1_form r kb (tX1_form_0 kb) := row_B hA h22 qX1_form_22 (And.intro trivial (And.intro trivial (And.intro trivial (And.intro trivial (And.intro trivial (And.intro trivial (And.intro (co_of mkX4_at (iX4_at hA)) (And.intro trivial (And.intro trivial (And.intro trivial (And.intro trivial (And.intro trivial (And.intro (co_of mkX1_lineUp (iX1_lineUp hA)) (ck_n rfl)))))))))))))) rfl (fun xs ys s => eX1_form_22 kb (xs.getD 0 0) (xs.getD 1 0) (xs.getD 2 0) s)
  exact row_B hA h0 qX1_form_0 (And.intro trivial (And.intro (co_of mkX1_clear (iX1_clear hA)) (ck_n rfl))) rfl (fun xs ys s => eX1_form_0 kb (xs.getD 0 0) (xs.getD 1 0) (xs.getD 2 0) (xs.getD 3 0) s)
theorem iX1_form (hA : AOK) : Impl mdX1_form gX1_form := ent_B (kk := kX1_form) (rr := rX1_form) (f := fun kb => fun xs ys s => fX1_form_0 kb (xs.getD 0 0) (xs.getD 1 0) (xs.getD 2 0) (xs.getD 3 0) s) (by decide +kernel) rfl (fun _ => rfl) (fun r kb => pX1_form hA r kb) (fun kb => ⟨_, rfl⟩) 9999 id (fun xs s => rfl) (fun xs => wkl_rf _)
-- Floatparade$Line.hold(I)V
theorem mkX1_hold : MK mdX1_hold true := MKb_ok (h1 := 1013) (h2 := 75) (h3 := 1011) (h4 := 1012) (by decide +kernel)
theorem qX1_hold_0 : blkb mdX1_hold 22 0 bX1_hold_0 [[], [], [], [175], [], [], [], [935], [], [], [175], [], [], []] = true := by decide +kernel
theorem qX1_hold_22 : blkb mdX1_hold 0 22 bX1_hold_22 [[]] = true := by decide +kernel
theorem pX1_hold (hA : AOK) (r : Rt) (kb : Co) : RsB mdX1_hold r kb (rX1_hold kb) := by
  have h22 : RsB mdX1_hold r kb (tX1_hold_22 kb) := row_0
  have h0 : RsB mdX1_hold r kb (tX1_hold_0 kb) := row_B hA h22 qX1_hold_22 (ck_n rfl) rfl (fun xs ys s => eX1_hold_22 kb s)
  exact row_B hA h0 qX1_hold_0 (And.intro trivial (And.intro trivial (And.intro trivial (And.intro trivial (And.intro trivial (And.intro trivial (And.intro trivial (And.intro (co_of mkX11_isWithin (iX11_isWithin hA)) (ck_n rfl))))))))) rfl (fun xs ys s => eX1_hold_0 kb (xs.getD 0 0) (xs.getD 1 0) s)
theorem iX1_hold (hA : AOK) : Impl mdX1_hold gX1_hold := ent_B (kk := kX1_hold) (rr := rX1_hold) (f := fun kb => fun xs ys s => fX1_hold_0 kb (xs.getD 0 0) (xs.getD 1 0) s) (by decide +kernel) rfl (fun _ => rfl) (fun r kb => pX1_hold hA r kb) (fun kb => ⟨_, rfl⟩) 0 id (fun xs s => rfl) (fun xs => wkl_rf _)
-- Floatparade$Line.isHeld(I)Z
theorem mkX1_isHeld : MK mdX1_isHeld true := MKb_ok (h1 := 1063) (h2 := 75) (h3 := 1062) (h4 := 17) (by decide +kernel)
theorem qX1_isHeld_0 : blkb mdX1_isHeld 0 0 bX1_isHeld_0 [[], [], [], [175], [], [], [], [935], [], [], [175], [], [], [], [], []] = true := by decide +kernel
theorem qX1_isHeld_28 : blkb mdX1_isHeld 29 28 bX1_isHeld_28 [[]] = true := by decide +kernel
theorem qX1_isHeld_29 : blkb mdX1_isHeld 0 29 bX1_isHeld_29 [[]] = true := by decide +kernel
theorem pX1_isHeld (hA : AOK) (r : Rt) (kb : Co) : RsB mdX1_isHeld r kb (rX1_isHeld kb) := by
  have h29 : RsB mdX1_isHeld r kb (tX1_isHeld_29 kb) := row_0
  have h28 : RsB mdX1_isHeld r kb (tX1_isHeld_28 kb) := row_B hA h29 qX1_isHeld_29 (ck_n rfl) rfl (fun xs ys s => eX1_isHeld_29 kb (ys.getD 0 0) s)
  have h0 : RsB mdX1_isHeld r kb (tX1_isHeld_0 kb) := row_B hA h28 qX1_isHeld_28 (ck_n rfl) rfl (fun xs ys s => eX1_isHeld_28 kb s)
  exact row_B hA h0 qX1_isHeld_0 (And.intro trivial (And.intro trivial (And.intro trivial (And.intro trivial (And.intro trivial (And.intro trivial (And.intro trivial (And.intro (co_of mkX11_isWithin (iX11_isWithin hA)) (ck_n rfl))))))))) rfl (fun xs ys s => eX1_isHeld_0 kb (xs.getD 0 0) (xs.getD 1 0) s)
theorem iX1_isHeld (hA : AOK) : Impl mdX1_isHeld gX1_isHeld := ent_B (kk := kX1_isHeld) (rr := rX1_isHeld) (f := fun kb => fun xs ys s => fX1_isHeld_0 kb (xs.getD 0 0) (xs.getD 1 0) s) (by decide +kernel) rfl (fun _ => rfl) (fun r kb => pX1_isHeld hA r kb) (fun kb => ⟨_, rfl⟩) 0 id (fun xs s => rfl) (fun xs => wkl_rf _)
-- Floatparade$Part.tail()I
theorem mkX2_tail : MK mdX2_tail true := MKb_ok (h1 := 1001) (h2 := 90) (h3 := 999) (h4 := 1000) (by decide +kernel)
theorem qX2_tail_0 : blkb mdX2_tail 0 0 bX2_tail_0 [[], [944], [], [946], [], [], [], []] = true := by decide +kernel
theorem pX2_tail (hA : AOK) (r : Rt) (kb : Co) : RsB mdX2_tail r kb (rX2_tail kb) := by
  have h0 : RsB mdX2_tail r kb (tX2_tail_0 kb) := row_0
  exact row_B hA h0 qX2_tail_0 (ck_n rfl) rfl (fun xs ys s => eX2_tail_0 kb (xs.getD 0 0) s)
theorem iX2_tail (hA : AOK) : Impl mdX2_tail gX2_tail := ent_B (kk := kX2_tail) (rr := rX2_tail) (f := fun kb => fun xs ys s => fX2_tail_0 kb (xs.getD 0 0) s) (by decide +kernel) rfl (fun _ => rfl) (fun r kb => pX2_tail hA r kb) (fun kb => ⟨_, rfl⟩) 0 id (fun xs s => rfl) (fun xs => wkl_rf _)
-- Floatparade$Line.partsOn(I)I
theorem mkX1_partsOn : MK mdX1_partsOn true := MKb_ok (h1 := 1025) (h2 := 75) (h3 := 1023) (h4 := 1024) (by decide +kernel)
theorem qX1_partsOn_0 : blkb mdX1_partsOn 4 0 bX1_partsOn_0 [[], [], [], []] = true := by decide +kernel
theorem qX1_partsOn_4 : blkb mdX1_partsOn 0 4 bX1_partsOn_4 [[], [], [176], [], [], [], [1026], [], [], [], [], [], [], [], [], [1027], [], [945], [935], [], [], []] = true := by decide +kernel
theorem qX1_partsOn_50 : blkb mdX1_partsOn 51 50 bX1_partsOn_50 [[]] = true := by decide +kernel
theorem qX1_partsOn_51 : blkb mdX1_partsOn 0 51 bX1_partsOn_51 [[], [], [], []] = true := by decide +kernel
theorem qX1_partsOn_59 : blkb mdX1_partsOn 0 59 bX1_partsOn_59 [[], []] = true := by decide +kernel
theorem pX1_partsOn (hA : AOK) (r : Rt) (kb : Co) : RsB mdX1_partsOn r kb (rX1_partsOn kb) := by
  have h59 : RsB mdX1_partsOn r kb (tX1_partsOn_59 kb) := row_0
  have h51 : RsB mdX1_partsOn r kb (tX1_partsOn_51 kb) := row_B hA h59 qX1_partsOn_59 (ck_n rfl) rfl (fun xs ys s => eX1_partsOn_59 kb (xs.getD 0 0) s)
  have h50 : RsB mdX1_partsOn r kb (tX1_partsOn_50 kb) := row_B hA h51 qX1_partsOn_51 (ck_n rfl) rfl (fun xs ys s => eX1_partsOn_51 kb (xs.getD 0 0) (xs.getD 1 0) (xs.getD 2 0) (ys.getD 0 0) (ys.getD 1 0) s)
  have h4 : RsB mdX1_partsOn r kb (tX1_partsOn_4 kb) := row_B hA h50 qX1_partsOn_50 (ck_n rfl) rfl (fun xs ys s => eX1_partsOn_50 kb (xs.getD 0 0) (xs.getD 1 0) (xs.getD 2 0) (ys.getD 0 0) s)
  have h0 : RsB mdX1_partsOn r kb (tX1_partsOn_0 kb) := row_B hA h4 qX1_partsOn_4 (And.intro trivial (And.intro trivial (And.intro trivial (And.intro trivial (And.intro trivial (And.intro trivial (And.intro (co_of mkX1_partAt (iX1_partAt hA)) (And.intro trivial (And.intro trivial (And.intro trivial (And.intro trivial (And.intro trivial (And.intro trivial (And.intro trivial (And.intro trivial (And.intro (co_of mkX2_tail (iX2_tail hA)) (And.intro trivial (And.intro trivial (And.intro (co_of mkX11_isWithin (iX11_isWithin hA)) (ck_n rfl)))))))))))))))))))) rfl (fun xs ys s => eX1_partsOn_4 kb (xs.getD 0 0) (xs.getD 1 0) (xs.getD 2 0) (xs.getD 3 0) s)
  exact row_B hA h0 qX1_partsOn_0 (ck_n rfl) rfl (fun xs ys s => eX1_partsOn_0 kb (xs.getD 0 0) (xs.getD 1 0) s)
theorem iX1_partsOn (hA : AOK) : Impl mdX1_partsOn gX1_partsOn := ent_B (kk := kX1_partsOn) (rr := rX1_partsOn) (f := fun kb => fun xs ys s => fX1_partsOn_0 kb (xs.getD 0 0) (xs.getD 1 0) s) (by decide +kernel) rfl (fun _ => rfl) (fun r kb => pX1_partsOn hA r kb) (fun kb => ⟨_, rfl⟩) 9999 id (fun xs s => rfl) (fun xs => wkl_rf _)
-- Floatparade$Route.startAtPlace(I)I
theorem mkX3_startAtPlace : MK mdX3_startAtPlace true := MKb_ok (h1 := 714) (h2 := 73) (h3 := 713) (h4 := 6) (by decide +kernel)
theorem qX3_startAtPlace_0 : blkb mdX3_startAtPlace 0 0 bX3_startAtPlace_0 [[], [], [], [135], [], [], [], [693], [], [], [135], [], [], []] = true := by decide +kernel
theorem qX3_startAtPlace_24 : blkb mdX3_startAtPlace 25 24 bX3_startAtPlace_24 [[]] = true := by decide +kernel
theorem qX3_startAtPlace_25 : blkb mdX3_startAtPlace 0 25 bX3_startAtPlace_25 [[]] = true := by decide +kernel
theorem pX3_startAtPlace (hA : AOK) (r : Rt) (kb : Co) : RsB mdX3_startAtPlace r kb (rX3_startAtPlace kb) := by
  have h25 : RsB mdX3_startAtPlace r kb (tX3_startAtPlace_25 kb) := row_0
  have h24 : RsB mdX3_startAtPlace r kb (tX3_startAtPlace_24 kb) := row_B hA h25 qX3_startAtPlace_25 (ck_n rfl) rfl (fun xs ys s => eX3_startAtPlace_25 kb (ys.getD 0 0) s)
  have h0 : RsB mdX3_startAtPlace r kb (tX3_startAtPlace_0 kb) := row_B hA h24 qX3_startAtPlace_24 (ck_n rfl) rfl (fun xs ys s => eX3_startAtPlace_24 kb s)
  exact row_B hA h0 qX3_startAtPlace_0 (And.intro trivial (And.intro trivial (And.intro trivial (And.intro trivial (And.intro trivial (And.intro trivial (And.intro trivial (And.intro (co_of mkX11_isWithin (iX11_isWithin hA)) (ck_n rfl))))))))) rfl (fun xs ys s => eX3_startAtPlace_0 kb (xs.getD 0 0) (xs.getD 1 0) s)
theorem iX3_startAtPlace (hA : AOK) : Impl mdX3_startAtPlace gX3_startAtPlace := ent_B (kk := kX3_startAtPlace) (rr := rX3_startAtPlace) (f := fun kb => fun xs ys s => fX3_startAtPlace_0 kb (xs.getD 0 0) (xs.getD 1 0) s) (by decide +kernel) rfl (fun _ => rfl) (fun r kb => pX3_startAtPlace hA r kb) (fun kb => ⟨_, rfl⟩) 0 id (fun xs s => rfl) (fun xs => wkl_rf _)
-- Floatparade$Route.cells()I
theorem mkX3_cells : MK mdX3_cells true := MKb_ok (h1 := 710) (h2 := 73) (h3 := 708) (h4 := 709) (by decide +kernel)
theorem qX3_cells_0 : blkb mdX3_cells 0 0 bX3_cells_0 [[], [], [137], [], [], [711], []] = true := by decide +kernel
theorem pX3_cells (hA : AOK) (r : Rt) (kb : Co) : RsB mdX3_cells r kb (rX3_cells kb) := by
  have h0 : RsB mdX3_cells r kb (tX3_cells_0 kb) := row_0
  exact row_B hA h0 qX3_cells_0 (And.intro trivial (And.intro trivial (And.intro trivial (And.intro trivial (And.intro trivial (And.intro (co_of mkX3_startAtPlace (iX3_startAtPlace hA)) (ck_n rfl))))))) rfl (fun xs ys s => eX3_cells_0 kb (xs.getD 0 0) s)
theorem iX3_cells (hA : AOK) : Impl mdX3_cells gX3_cells := ent_B (kk := kX3_cells) (rr := rX3_cells) (f := fun kb => fun xs ys s => fX3_cells_0 kb (xs.getD 0 0) s) (by decide +kernel) rfl (fun _ => rfl) (fun r kb => pX3_cells hA r kb) (fun kb => ⟨_, rfl⟩) 0 id (fun xs s => rfl) (fun xs => wkl_rf _)
-- Floatparade$Part.isOut(I)Z
theorem mkX2_isOut : MK mdX2_isOut true := MKb_ok (h1 := 997) (h2 := 90) (h3 := 995) (h4 := 996) (by decide +kernel)
theorem qX2_isOut_0 : blkb mdX2_isOut 0 0 bX2_isOut_0 [[], [998], [], [], [], []] = true := by decide +kernel
theorem qX2_isOut_12 : blkb mdX2_isOut 13 12 bX2_isOut_12 [[]] = true := by decide +kernel
theorem qX2_isOut_13 : blkb mdX2_isOut 0 13 bX2_isOut_13 [[]] = true := by decide +kernel
theorem pX2_isOut (hA : AOK) (r : Rt) (kb : Co) : RsB mdX2_isOut r kb (rX2_isOut kb) := by
  have h13 : RsB mdX2_isOut r kb (tX2_isOut_13 kb) := row_0
  have h12 : RsB mdX2_isOut r kb (tX2_isOut_12 kb) := row_B hA h13 qX2_isOut_13 (ck_n rfl) rfl (fun xs ys s => eX2_isOut_13 kb (ys.getD 0 0) s)
  have h0 : RsB mdX2_isOut r kb (tX2_isOut_0 kb) := row_B hA h12 qX2_isOut_12 (ck_n rfl) rfl (fun xs ys s => eX2_isOut_12 kb s)
  exact row_B hA h0 qX2_isOut_0 (And.intro trivial (And.intro (co_of mkX2_tail (iX2_tail hA)) (ck_n rfl))) rfl (fun xs ys s => eX2_isOut_0 kb (xs.getD 0 0) (xs.getD 1 0) s)
theorem iX2_isOut (hA : AOK) : Impl mdX2_isOut gX2_isOut := ent_B (kk := kX2_isOut) (rr := rX2_isOut) (f := fun kb => fun xs ys s => fX2_isOut_0 kb (xs.getD 0 0) (xs.getD 1 0) s) (by decide +kernel) rfl (fun _ => rfl) (fun r kb => pX2_isOut hA r kb) (fun kb => ⟨_, rfl⟩) 0 id (fun xs s => rfl) (fun xs => wkl_rf _)
-- Floatparade$Part.isReady()Z
theorem mkX2_isReady : MK mdX2_isReady true := MKb_ok (h1 := 1048) (h2 := 90) (h3 := 1046) (h4 := 1047) (by decide +kernel)
theorem qX2_isReady_0 : blkb mdX2_isReady 0 0 bX2_isReady_0 [[], [950], [], [], [947], [], [], []] = true := by decide +kernel
theorem qX2_isReady_18 : blkb mdX2_isReady 19 18 bX2_isReady_18 [[]] = true := by decide +kernel
theorem qX2_isReady_19 : blkb mdX2_isReady 0 19 bX2_isReady_19 [[], [], [], [950], [], []] = true := by decide +kernel
theorem pX2_isReady (hA : AOK) (r : Rt) (kb : Co) : RsB mdX2_isReady r kb (rX2_isReady kb) := by
  have h19 : RsB mdX2_isReady r kb (tX2_isReady_19 kb) := row_0
  have h18 : RsB mdX2_isReady r kb (tX2_isReady_18 kb) := row_B hA h19 qX2_isReady_19 (ck_n rfl) rfl (fun xs ys s => eX2_isReady_19 kb (xs.getD 0 0) (ys.getD 0 0) s)
  have h0 : RsB mdX2_isReady r kb (tX2_isReady_0 kb) := row_B hA h18 qX2_isReady_18 (ck_n rfl) rfl (fun xs ys s => eX2_isReady_18 kb (xs.getD 0 0) s)
  exact row_B hA h0 qX2_isReady_0 (ck_n rfl) rfl (fun xs ys s => eX2_isReady_0 kb (xs.getD 0 0) s)
theorem iX2_isReady (hA : AOK) : Impl mdX2_isReady gX2_isReady := ent_B (kk := kX2_isReady) (rr := rX2_isReady) (f := fun kb => fun xs ys s => fX2_isReady_0 kb (xs.getD 0 0) s) (by decide +kernel) rfl (fun _ => rfl) (fun r kb => pX2_isReady hA r kb) (fun kb => ⟨_, rfl⟩) 0 id (fun xs s => rfl) (fun xs => wkl_rf _)
-- Floatparade$Part.speed(Z)I
theorem mkX2_speed : MK mdX2_speed true := MKb_ok (h1 := 1052) (h2 := 90) (h3 := 1050) (h4 := 1051) (by decide +kernel)
theorem qX2_speed_0 : blkb mdX2_speed 0 0 bX2_speed_0 [[], [943], [], [], [], [], [], []] = true := by decide +kernel
theorem qX2_speed_16 : blkb mdX2_speed 17 16 bX2_speed_16 [[]] = true := by decide +kernel
theorem qX2_speed_17 : blkb mdX2_speed 0 17 bX2_speed_17 [[]] = true := by decide +kernel
theorem pX2_speed (hA : AOK) (r : Rt) (kb : Co) : RsB mdX2_speed r kb (rX2_speed kb) := by
  have h17 : RsB mdX2_speed r kb (tX2_speed_17 kb) := row_0
  have h16 : RsB mdX2_speed r kb (tX2_speed_16 kb) := row_B hA h17 qX2_speed_17 (ck_n rfl) rfl (fun xs ys s => eX2_speed_17 kb (ys.getD 0 0) s)
  have h0 : RsB mdX2_speed r kb (tX2_speed_0 kb) := row_B hA h16 qX2_speed_16 (ck_n rfl) rfl (fun xs ys s => eX2_speed_16 kb s)
  exact row_B hA h0 qX2_speed_0 (ck_n rfl) rfl (fun xs ys s => eX2_speed_0 kb (xs.getD 0 0) (xs.getD 1 0) s)
theorem iX2_speed (hA : AOK) : Impl mdX2_speed gX2_speed := ent_B (kk := kX2_speed) (rr := rX2_speed) (f := fun kb => fun xs ys s => fX2_speed_0 kb (xs.getD 0 0) (xs.getD 1 0) s) (by decide +kernel) rfl (fun _ => rfl) (fun r kb => pX2_speed hA r kb) (fun kb => ⟨_, rfl⟩) 0 id (fun xs s => rfl) (fun xs => wkl_rf _)
-- Floatparade$Route.cornerAt(I)I
theorem mkX3_cornerAt : MK mdX3_cornerAt true := MKb_ok (h1 := 692) (h2 := 73) (h3 := 690) (h4 := 691) (by decide +kernel)
theorem qX3_cornerAt_0 : blkb mdX3_cornerAt 0 0 bX3_cornerAt_0 [[], [], [], [137], [], [], [693], [], [], [], [134], [], [], [], [134], [], [], []] = true := by decide +kernel
theorem qX3_cornerAt_32 : blkb mdX3_cornerAt 33 32 bX3_cornerAt_32 [[]] = true := by decide +kernel
theorem qX3_cornerAt_33 : blkb mdX3_cornerAt 0 33 bX3_cornerAt_33 [[]] = true := by decide +kernel
theorem pX3_cornerAt (hA : AOK) (r : Rt) (kb : Co) : RsB mdX3_cornerAt r kb (rX3_cornerAt kb) := by
  have h33 : RsB mdX3_cornerAt r kb (tX3_cornerAt_33 kb) := row_0
  have h32 : RsB mdX3_cornerAt r kb (tX3_cornerAt_32 kb) := row_B hA h33 qX3_cornerAt_33 (ck_n rfl) rfl (fun xs ys s => eX3_cornerAt_33 kb (ys.getD 0 0) s)
  have h0 : RsB mdX3_cornerAt r kb (tX3_cornerAt_0 kb) := row_B hA h32 qX3_cornerAt_32 (ck_n rfl) rfl (fun xs ys s => eX3_cornerAt_32 kb s)
  exact row_B hA h0 qX3_cornerAt_0 (And.intro trivial (And.intro trivial (And.intro trivial (And.intro trivial (And.intro trivial (And.intro trivial (And.intro (co_of mkX11_isWithin (iX11_isWithin hA)) (ck_n rfl)))))))) rfl (fun xs ys s => eX3_cornerAt_0 kb (xs.getD 0 0) (xs.getD 1 0) s)
theorem iX3_cornerAt (hA : AOK) : Impl mdX3_cornerAt gX3_cornerAt := ent_B (kk := kX3_cornerAt) (rr := rX3_cornerAt) (f := fun kb => fun xs ys s => fX3_cornerAt_0 kb (xs.getD 0 0) (xs.getD 1 0) s) (by decide +kernel) rfl (fun _ => rfl) (fun r kb => pX3_cornerAt hA r kb) (fun kb => ⟨_, rfl⟩) 0 id (fun xs s => rfl) (fun xs => wkl_rf _)
-- Floatparade$Route.cellAt(I)I
theorem mkX3_cellAt : MK mdX3_cellAt true := MKb_ok (h1 := 1021) (h2 := 73) (h3 := 1019) (h4 := 1020) (by decide +kernel)
theorem qX3_cellAt_0 : blkb mdX3_cellAt 0 0 bX3_cellAt_0 [[], [], [137], [], [], [], [], [], [711], [], [], []] = true := by decide +kernel
theorem qX3_cellAt_20 : blkb mdX3_cellAt 25 20 bX3_cellAt_20 [[], [], [711]] = true := by decide +kernel
theorem qX3_cellAt_25 : blkb mdX3_cellAt 0 25 bX3_cellAt_25 [[]] = true := by decide +kernel
theorem pX3_cellAt (hA : AOK) (r : Rt) (kb : Co) : RsB mdX3_cellAt r kb (rX3_cellAt kb) := by
  have h25 : RsB mdX3_cellAt r kb (tX3_cellAt_25 kb) := row_0
  have h20 : RsB mdX3_cellAt r kb (tX3_cellAt_20 kb) := row_B hA h25 qX3_cellAt_25 (ck_n rfl) rfl (fun xs ys s => eX3_cellAt_25 kb (ys.getD 0 0) s)
  have h0 : RsB mdX3_cellAt r kb (tX3_cellAt_0 kb) := row_B hA h20 qX3_cellAt_20 (And.intro trivial (And.intro trivial (And.intro (co_of mkX3_startAtPlace (iX3_startAtPlace hA)) (ck_n rfl)))) rfl (fun xs ys s => eX3_cellAt_20 kb (xs.getD 0 0) (xs.getD 1 0) s)
  exact row_B hA h0 qX3_cellAt_0 (And.intro trivial (And.intro trivial (And.intro trivial (And.intro trivial (And.intro trivial (And.intro trivial (And.intro trivial (And.intro trivial (And.intro (co_of mkX3_startAtPlace (iX3_startAtPlace hA)) (ck_n rfl)))))))))) rfl (fun xs ys s => eX3_cellAt_0 kb (xs.getD 0 0) (xs.getD 1 0) s)
theorem iX3_cellAt (hA : AOK) : Impl mdX3_cellAt gX3_cellAt := ent_B (kk := kX3_cellAt) (rr := rX3_cellAt) (f := fun kb => fun xs ys s => fX3_cellAt_0 kb (xs.getD 0 0) (xs.getD 1 0) s) (by decide +kernel) rfl (fun _ => rfl) (fun r kb => pX3_cellAt hA r kb) (fun kb => ⟨_, rfl⟩) 0 id (fun xs s => rfl) (fun xs => wkl_rf _)
-- Floatparade$Line.cellBeforeHeld(ILFloatparade$Route;)I
theorem mkX1_cellBeforeHeld : MK mdX1_cellBeforeHeld true := MKb_ok (h1 := 1057) (h2 := 75) (h3 := 1056) (h4 := 16) (by decide +kernel)
theorem qX1_cellBeforeHeld_0 : blkb mdX1_cellBeforeHeld 6 0 bX1_cellBeforeHeld_0 [[1058], [], [], []] = true := by decide +kernel
theorem qX1_cellBeforeHeld_6 : blkb mdX1_cellBeforeHeld 51 6 bX1_cellBeforeHeld_6 [[], [], [138], [], [], [], [], [1059], [1060], [], [], [], [], [1064], [], [], [], [], [1064], [], [], [1053], []] = true := by decide +kernel
theorem qX1_cellBeforeHeld_51 : blkb mdX1_cellBeforeHeld 0 51 bX1_cellBeforeHeld_51 [[], []] = true := by decide +kernel
theorem qX1_cellBeforeHeld_57 : blkb mdX1_cellBeforeHeld 0 57 bX1_cellBeforeHeld_57 [[], []] = true := by decide +kernel
theorem pX1_cellBeforeHeld (hA : AOK) (r : Rt) (kb : Co) : RsB mdX1_cellBeforeHeld r kb (rX1_cellBeforeHeld kb) := by
  have h57 : RsB mdX1_cellBeforeHeld r kb (tX1_cellBeforeHeld_57 kb) := row_0
  have h51 : RsB mdX1_cellBeforeHeld r kb (tX1_cellBeforeHeld_51 kb) := row_B hA h57 qX1_cellBeforeHeld_57 (ck_n rfl) rfl (fun xs ys s => eX1_cellBeforeHeld_57 kb (xs.getD 0 0) s)
  have h6 : RsB mdX1_cellBeforeHeld r kb (tX1_cellBeforeHeld_6 kb) := row_B hA h51 qX1_cellBeforeHeld_51 (ck_n rfl) rfl (fun xs ys s => eX1_cellBeforeHeld_51 kb (xs.getD 0 0) (xs.getD 1 0) (xs.getD 2 0) (xs.getD 3 0) (xs.getD 4 0) s)
  have h0 : RsB mdX1_cellBeforeHeld r kb (tX1_cellBeforeHeld_0 kb) := row_B hA h6 qX1_cellBeforeHeld_6 (And.intro trivial (And.intro trivial (And.intro trivial (And.intro trivial (And.intro trivial (And.intro trivial (And.intro trivial (And.intro (co_of mkX3_cornerAt (iX3_cornerAt hA)) (And.intro (co_of mkX1_isHeld (iX1_isHeld hA)) (And.intro trivial (And.intro trivial (And.intro trivial (And.intro trivial (And.intro (co_of mkX3_cellAt (iX3_cellAt hA)) (And.intro trivial (And.intro trivial (And.intro trivial (And.intro trivial (And.intro (co_of mkX3_cellAt (iX3_cellAt hA)) (And.intro trivial (And.intro trivial (And.intro coJ9_min_7cf53 (ck_n rfl))))))))))))))))))))))) rfl (fun xs ys s => eX1_cellBeforeHeld_6 kb (xs.getD 0 0) (xs.getD 1 0) (xs.getD 2 0) (xs.getD 3 0) (xs.getD 4 0) s)
  exact row_B hA h0 qX1_cellBeforeHeld_0 (ck_n rfl) rfl (fun xs ys s => eX1_cellBeforeHeld_0 kb (xs.getD 0 0) (xs.getD 1 0) (xs.getD 2 0) s)
theorem iX1_cellBeforeHeld (hA : AOK) : Impl mdX1_cellBeforeHeld gX1_cellBeforeHeld := ent_B (kk := kX1_cellBeforeHeld) (rr := rX1_cellBeforeHeld) (f := fun kb => fun xs ys s => fX1_cellBeforeHeld_0 kb (xs.getD 0 0) (xs.getD 1 0) (xs.getD 2 0) s) (by decide +kernel) rfl (fun _ => rfl) (fun r kb => pX1_cellBeforeHeld hA r kb) (fun kb => ⟨_, rfl⟩) 9999 id (fun xs s => rfl) (fun xs => wkl_rf _)
-- Floatparade$Town.hasJury(I)Z
theorem mkX9_hasJury : MK mdX9_hasJury true := MKb_ok (h1 := 729) (h2 := 71) (h3 := 727) (h4 := 728) (by decide +kernel)
theorem qX9_hasJury_0 : blkb mdX9_hasJury 0 0 bX9_hasJury_0 [[], [], [], [112], [], [], [], [656], [], [], [112], [], [], [], [], []] = true := by decide +kernel
theorem qX9_hasJury_28 : blkb mdX9_hasJury 29 28 bX9_hasJury_28 [[]] = true := by decide +kernel
theorem qX9_hasJury_29 : blkb mdX9_hasJury 0 29 bX9_hasJury_29 [[]] = true := by decide +kernel
theorem pX9_hasJury (hA : AOK) (r : Rt) (kb : Co) : RsB mdX9_hasJury r kb (rX9_hasJury kb) := by
  have h29 : RsB mdX9_hasJury r kb (tX9_hasJury_29 kb) := row_0
  have h28 : RsB mdX9_hasJury r kb (tX9_hasJury_28 kb) := row_B hA h29 qX9_hasJury_29 (ck_n rfl) rfl (fun xs ys s => eX9_hasJury_29 kb (ys.getD 0 0) s)
  have h0 : RsB mdX9_hasJury r kb (tX9_hasJury_0 kb) := row_B hA h28 qX9_hasJury_28 (ck_n rfl) rfl (fun xs ys s => eX9_hasJury_28 kb s)
  exact row_B hA h0 qX9_hasJury_0 (And.intro trivial (And.intro trivial (And.intro trivial (And.intro trivial (And.intro trivial (And.intro trivial (And.intro trivial (And.intro (co_of mkX11_isWithin (iX11_isWithin hA)) (ck_n rfl))))))))) rfl (fun xs ys s => eX9_hasJury_0 kb (xs.getD 0 0) (xs.getD 1 0) s)
theorem iX9_hasJury (hA : AOK) : Impl mdX9_hasJury gX9_hasJury := ent_B (kk := kX9_hasJury) (rr := rX9_hasJury) (f := fun kb => fun xs ys s => fX9_hasJury_0 kb (xs.getD 0 0) (xs.getD 1 0) s) (by decide +kernel) rfl (fun _ => rfl) (fun r kb => pX9_hasJury hA r kb) (fun kb => ⟨_, rfl⟩) 0 id (fun xs s => rfl) (fun xs => wkl_rf _)
-- Floatparade$Line.nextJuryCell(ILFloatparade$Route;LFloatparade$Town;)I
theorem mkX1_nextJuryCell : MK mdX1_nextJuryCell false := MKb_ok (h1 := 1067) (h2 := 75) (h3 := 1066) (h4 := 0) (by decide +kernel)
theorem qX1_nextJuryCell_0 : blkb mdX1_nextJuryCell 6 0 bX1_nextJuryCell_0 [[1058], [], [], []] = true := by decide +kernel
theorem qX1_nextJuryCell_6 : blkb mdX1_nextJuryCell 49 6 bX1_nextJuryCell_6 [[], [], [138], [], [], [], [], [1059], [1068], [], [], [], [], [1064], [], [], [], [], [1064], [1053], []] = true := by decide +kernel
theorem qX1_nextJuryCell_49 : blkb mdX1_nextJuryCell 0 49 bX1_nextJuryCell_49 [[], []] = true := by decide +kernel
theorem qX1_nextJuryCell_55 : blkb mdX1_nextJuryCell 0 55 bX1_nextJuryCell_55 [[], []] = true := by decide +kernel
theorem pX1_nextJuryCell (hA : AOK) (r : Rt) (kb : Co) : RsB mdX1_nextJuryCell r kb (rX1_nextJuryCell kb) := by
  have h55 : RsB mdX1_nextJuryCell r kb (tX1_nextJuryCell_55 kb) := row_0
  have h49 : RsB mdX1_nextJuryCell r kb (tX1_nextJuryCell_49 kb) := row_B hA h55 qX1_nextJuryCell_55 (ck_n rfl) rfl (fun xs ys s => eX1_nextJuryCell_55 kb (xs.getD 0 0) s)
  have h6 : RsB mdX1_nextJuryCell r kb (tX1_nextJuryCell_6 kb) := row_B hA h49 qX1_nextJuryCell_49 (ck_n rfl) rfl (fun xs ys s => eX1_nextJuryCell_49 kb (xs.getD 0 0) (xs.getD 1 0) (xs.getD 2 0) (xs.getD 3 0) (xs.getD 4 0) s)
  have h0 : RsB mdX1_nextJuryCell r kb (tX1_nextJuryCell_0 kb) := row_B hA h6 qX1_nextJuryCell_6 (And.intro trivial (And.intro trivial (And.intro trivial (And.intro trivial (And.intro trivial (And.intro trivial (And.intro trivial (And.intro (co_of mkX3_cornerAt (iX3_cornerAt hA)) (And.intro (co_of mkX9_hasJury (iX9_hasJury hA)) (And.intro trivial (And.intro trivial (And.intro trivial (And.intro trivial (And.intro (co_of mkX3_cellAt (iX3_cellAt hA)) (And.intro trivial (And.intro trivial (And.intro trivial (And.intro trivial (And.intro (co_of mkX3_cellAt (iX3_cellAt hA)) (And.intro coJ9_min_7cf53 (ck_n rfl))))))))))))))))))))) rfl (fun xs ys s => eX1_nextJuryCell_6 kb (xs.getD 0 0) (xs.getD 1 0) (xs.getD 2 0) (xs.getD 3 0) (xs.getD 4 0) s)
  exact row_B hA h0 qX1_nextJuryCell_0 (ck_n rfl) rfl (fun xs ys s => eX1_nextJuryCell_0 kb (xs.getD 0 0) (xs.getD 1 0) (xs.getD 2 0) s)
theorem iX1_nextJuryCell (hA : AOK) : Impl mdX1_nextJuryCell gX1_nextJuryCell := ent_B (kk := kX1_nextJuryCell) (rr := rX1_nextJuryCell) (f := fun kb => fun xs ys s => fX1_nextJuryCell_0 kb (xs.getD 0 0) (xs.getD 1 0) (xs.getD 2 0) s) (by decide +kernel) rfl (fun _ => rfl) (fun r kb => pX1_nextJuryCell hA r kb) (fun kb => ⟨_, rfl⟩) 9999 id (fun xs s => rfl) (fun xs => wkl_rf _)
-- Floatparade$Line.advance(ILFloatparade$Route;LFloatparade$Town;Z)V
theorem mkX1_advance : MK mdX1_advance true := MKb_ok (h1 := 1043) (h2 := 75) (h3 := 1042) (h4 := 15) (by decide +kernel)
theorem qX1_advance_0 : blkb mdX1_advance 36 0 bX1_advance_0 [[], [], [1026], [], [], [1039], [], [], [], [], [], [1044], [], [], [1045], []] = true := by decide +kernel
theorem qX1_advance_36 : blkb mdX1_advance 0 36 bX1_advance_36 [[]] = true := by decide +kernel
theorem qX1_advance_37 : blkb mdX1_advance 90 37 bX1_advance_37 [[], [945], [], [], [1049], [], [], [], [], [], [], [1026], [], [], [], [], [], [1044], [], [], [], [1027], [], [], [1053], []] = true := by decide +kernel
theorem qX1_advance_90 : blkb mdX1_advance 136 90 bX1_advance_90 [[], [], [], [945], [], [1054], [1053], [], [], [945], [], [], [1065], [], [], [], [], [], [], [], [], [951]] = true := by decide +kernel
theorem qX1_advance_136 : blkb mdX1_advance 0 136 bX1_advance_136 [[], [], [945], [], [1069], [945], []] = true := by decide +kernel
theorem pX1_advance (hA : AOK) (r : Rt) (kb : Co) : RsB mdX1_advance r kb (rX1_advance kb) := by
  have h136 : RsB mdX1_advance r kb (tX1_advance_136 kb) := row_0
  have h90 : RsB mdX1_advance r kb (tX1_advance_90 kb) := row_B hA h136 qX1_advance_136 (And.intro trivial (And.intro trivial (And.intro trivial (And.intro trivial (And.intro coJ9_max_7cf53 (ck_n rfl)))))) rfl (fun xs ys s => eX1_advance_136 kb (xs.getD 0 0) (xs.getD 1 0) s)
  have h37 : RsB mdX1_advance r kb (tX1_advance_37 kb) := row_B hA h90 qX1_advance_90 (And.intro trivial (And.intro trivial (And.intro trivial (And.intro trivial (And.intro trivial (And.intro (co_of mkX1_cellBeforeHeld (iX1_cellBeforeHeld hA)) (And.intro coJ9_min_7cf53 (And.intro trivial (And.intro trivial (And.intro trivial (And.intro trivial (And.intro trivial (And.intro (co_of mkX1_nextJuryCell (iX1_nextJuryCell hA)) (ck_n rfl)))))))))))))) rfl (fun xs ys s => eX1_advance_90 kb (xs.getD 0 0) (xs.getD 1 0) (xs.getD 2 0) (xs.getD 3 0) (xs.getD 4 0) s)
  have h36 : RsB mdX1_advance r kb (tX1_advance_36 kb) := row_B hA h37 qX1_advance_37 (And.intro trivial (And.intro trivial (And.intro trivial (And.intro trivial (And.intro (co_of mkX2_speed (iX2_speed hA)) (And.intro trivial (And.intro trivial (And.intro trivial (And.intro trivial (And.intro trivial (And.intro trivial (And.intro (co_of mkX1_partAt (iX1_partAt hA)) (And.intro trivial (And.intro trivial (And.intro trivial (And.intro trivial (And.intro trivial (And.intro (co_of mkX2_isOut (iX2_isOut hA)) (And.intro trivial (And.intro trivial (And.intro trivial (And.intro (co_of mkX2_tail (iX2_tail hA)) (And.intro trivial (And.intro trivial (And.intro coJ9_min_7cf53 (ck_n rfl)))))))))))))))))))))))))) rfl (fun xs ys s => eX1_advance_37 kb (xs.getD 0 0) (xs.getD 1 0) (xs.getD 2 0) (xs.getD 3 0) (xs.getD 4 0) (xs.getD 5 0) (xs.getD 6 0) s)
  have h0 : RsB mdX1_advance r kb (tX1_advance_0 kb) := row_B hA h36 qX1_advance_36 (ck_n rfl) rfl (fun xs ys s => eX1_advance_36 kb s)
  exact row_B hA h0 qX1_advance_0 (And.intro trivial (And.intro trivial (And.intro (co_of mkX1_partAt (iX1_partAt hA)) (And.intro trivial (And.intro trivial (And.intro (co_of mkX3_cells (iX3_cells hA)) (And.intro trivial (And.intro trivial (And.intro trivial (And.intro trivial (And.intro trivial (And.intro (co_of mkX2_isOut (iX2_isOut hA)) (And.intro trivial (And.intro trivial (And.intro (co_of mkX2_isReady (iX2_isReady hA)) (ck_n rfl)))))))))))))))) rfl (fun xs ys s => eX1_advance_0 kb (xs.getD 0 0) (xs.getD 1 0) (xs.getD 2 0) (xs.getD 3 0) (xs.getD 4 0) s)
theorem iX1_advance (hA : AOK) : Impl mdX1_advance gX1_advance := ent_B (kk := kX1_advance) (rr := rX1_advance) (f := fun kb => fun xs ys s => fX1_advance_0 kb (xs.getD 0 0) (xs.getD 1 0) (xs.getD 2 0) (xs.getD 3 0) (xs.getD 4 0) s) (by decide +kernel) rfl (fun _ => rfl) (fun r kb => pX1_advance hA r kb) (fun kb => ⟨_, rfl⟩) 0 id (fun xs s => rfl) (fun xs => wkl_rf _)
-- Floatparade$Line.countGap(II)V
theorem mkX1_countGap : MK mdX1_countGap true := MKb_ok (h1 := 1075) (h2 := 75) (h3 := 1074) (h4 := 18) (by decide +kernel)
theorem qX1_countGap_0 : blkb mdX1_countGap 43 0 bX1_countGap_0 [[], [], [1026], [], [], [], [], [], [1026], [], [], [], [], [], [], [942], [], [], [942], [], [942], []] = true := by decide +kernel
theorem qX1_countGap_43 : blkb mdX1_countGap 0 43 bX1_countGap_43 [[]] = true := by decide +kernel
theorem qX1_countGap_44 : blkb mdX1_countGap 0 44 bX1_countGap_44 [[], [945], [], [], [], [], [935], [], [], [945], [], [], [], [], [935], [], [], []] = true := by decide +kernel
theorem qX1_countGap_77 : blkb mdX1_countGap 78 77 bX1_countGap_77 [[]] = true := by decide +kernel
theorem qX1_countGap_78 : blkb mdX1_countGap 115 78 bX1_countGap_78 [[], [], [], [], [1027], [], [945], [], [], [], [], [], [], [942], [], [437], [], [], [437]] = true := by decide +kernel
theorem qX1_countGap_115 : blkb mdX1_countGap 0 115 bX1_countGap_115 [[]] = true := by decide +kernel
theorem pX1_countGap (hA : AOK) (r : Rt) (kb : Co) : RsB mdX1_countGap r kb (rX1_countGap kb) := by
  have h115 : RsB mdX1_countGap r kb (tX1_countGap_115 kb) := row_0
  have h78 : RsB mdX1_countGap r kb (tX1_countGap_78 kb) := row_B hA h115 qX1_countGap_115 (ck_n rfl) rfl (fun xs ys s => eX1_countGap_115 kb s)
  have h77 : RsB mdX1_countGap r kb (tX1_countGap_77 kb) := row_B hA h78 qX1_countGap_78 (And.intro trivial (And.intro trivial (And.intro trivial (And.intro trivial (And.intro (co_of mkX2_tail (iX2_tail hA)) (ck_n rfl)))))) rfl (fun xs ys s => eX1_countGap_78 kb (xs.getD 0 0) (xs.getD 1 0) (ys.getD 0 0) s)
  have h44 : RsB mdX1_countGap r kb (tX1_countGap_44 kb) := row_B hA h77 qX1_countGap_77 (ck_n rfl) rfl (fun xs ys s => eX1_countGap_77 kb (xs.getD 0 0) (xs.getD 1 0) s)
  have h43 : RsB mdX1_countGap r kb (tX1_countGap_43 kb) := row_B hA h44 qX1_countGap_44 (And.intro trivial (And.intro trivial (And.intro trivial (And.intro trivial (And.intro trivial (And.intro trivial (And.intro (co_of mkX11_isWithin (iX11_isWithin hA)) (And.intro trivial (And.intro trivial (And.intro trivial (And.intro trivial (And.intro trivial (And.intro trivial (And.intro trivial (And.intro (co_of mkX11_isWithin (iX11_isWithin hA)) (ck_n rfl)))))))))))))))) rfl (fun xs ys s => eX1_countGap_44 kb (xs.getD 0 0) (xs.getD 1 0) (xs.getD 2 0) s)
  have h0 : RsB mdX1_countGap r kb (tX1_countGap_0 kb) := row_B hA h43 qX1_countGap_43 (ck_n rfl) rfl (fun xs ys s => eX1_countGap_43 kb s)
  exact row_B hA h0 qX1_countGap_0 (And.intro trivial (And.intro trivial (And.intro (co_of mkX1_partAt (iX1_partAt hA)) (And.intro trivial (And.intro trivial (And.intro trivial (And.intro trivial (And.intro trivial (And.intro (co_of mkX1_partAt (iX1_partAt hA)) (ck_n rfl)))))))))) rfl (fun xs ys s => eX1_countGap_0 kb (xs.getD 0 0) (xs.getD 1 0) (xs.getD 2 0) s)
theorem iX1_countGap (hA : AOK) : Impl mdX1_countGap gX1_countGap := ent_B (kk := kX1_countGap) (rr := rX1_countGap) (f := fun kb => fun xs ys s => fX1_countGap_0 kb (xs.getD 0 0) (xs.getD 1 0) (xs.getD 2 0) s) (by decide +kernel) rfl (fun _ => rfl) (fun r kb => pX1_countGap hA r kb) (fun kb => ⟨_, rfl⟩) 0 id (fun xs s => rfl) (fun xs => wkl_rf _)
-- Floatparade$Line.isOwner(ILFloatparade$Society;)Z
theorem mkX1_isOwner : MK mdX1_isOwner true := MKb_ok (h1 := 1083) (h2 := 75) (h3 := 1082) (h4 := 20) (by decide +kernel)
theorem qX1_isOwner_0 : blkb mdX1_isOwner 0 0 bX1_isOwner_0 [[], [], [1026], [], [], [], [], [942], [], [], [], []] = true := by decide +kernel
theorem qX1_isOwner_22 : blkb mdX1_isOwner 23 22 bX1_isOwner_22 [[]] = true := by decide +kernel
theorem qX1_isOwner_23 : blkb mdX1_isOwner 0 23 bX1_isOwner_23 [[]] = true := by decide +kernel
theorem pX1_isOwner (hA : AOK) (r : Rt) (kb : Co) : RsB mdX1_isOwner r kb (rX1_isOwner kb) := by
  have h23 : RsB mdX1_isOwner r kb (tX1_isOwner_23 kb) := row_0
  have h22 : RsB mdX1_isOwner r kb (tX1_isOwner_22 kb) := row_B hA h23 qX1_isOwner_23 (ck_n rfl) rfl (fun xs ys s => eX1_isOwner_23 kb (ys.getD 0 0) s)
  have h0 : RsB mdX1_isOwner r kb (tX1_isOwner_0 kb) := row_B hA h22 qX1_isOwner_22 (ck_n rfl) rfl (fun xs ys s => eX1_isOwner_22 kb s)
  exact row_B hA h0 qX1_isOwner_0 (And.intro trivial (And.intro trivial (And.intro (co_of mkX1_partAt (iX1_partAt hA)) (ck_n rfl)))) rfl (fun xs ys s => eX1_isOwner_0 kb (xs.getD 0 0) (xs.getD 1 0) (xs.getD 2 0) s)
theorem iX1_isOwner (hA : AOK) : Impl mdX1_isOwner gX1_isOwner := ent_B (kk := kX1_isOwner) (rr := rX1_isOwner) (f := fun kb => fun xs ys s => fX1_isOwner_0 kb (xs.getD 0 0) (xs.getD 1 0) (xs.getD 2 0) s) (by decide +kernel) rfl (fun _ => rfl) (fun r kb => pX1_isOwner hA r kb) (fun kb => ⟨_, rfl⟩) 0 id (fun xs s => rfl) (fun xs => wkl_rf _)
-- Floatparade$Line.readClock(II)V
theorem mkX1_readClock : MK mdX1_readClock true := MKb_ok (h1 := 1079) (h2 := 75) (h3 := 1078) (h4 := 19) (by decide +kernel)
theorem qX1_readClock_0 : blkb mdX1_readClock 0 0 bX1_readClock_0 [[], [], [1026], [], [], [], [], []] = true := by decide +kernel
theorem qX1_readClock_14 : blkb mdX1_readClock 18 14 bX1_readClock_14 [[], [942]] = true := by decide +kernel
theorem qX1_readClock_18 : blkb mdX1_readClock 0 18 bX1_readClock_18 [[], [], [], []] = true := by decide +kernel
theorem qX1_readClock_26 : blkb mdX1_readClock 63 26 bX1_readClock_26 [[], [431], [], [], [], [945], [], [], [], [], [], [], [1080], [], [], [], [177], [431]] = true := by decide +kernel
theorem qX1_readClock_63 : blkb mdX1_readClock 101 63 bX1_readClock_63 [[], [434], [], [], [], [], [1044], [], [], [], [], [], [], [1080], [], [], [], [177], [434]] = true := by decide +kernel
theorem qX1_readClock_101 : blkb mdX1_readClock 0 101 bX1_readClock_101 [[]] = true := by decide +kernel
theorem pX1_readClock (hA : AOK) (r : Rt) (kb : Co) : RsB mdX1_readClock r kb (rX1_readClock kb) := by
  have h101 : RsB mdX1_readClock r kb (tX1_readClock_101 kb) := row_0
  have h63 : RsB mdX1_readClock r kb (tX1_readClock_63 kb) := row_B hA h101 qX1_readClock_101 (ck_n rfl) rfl (fun xs ys s => eX1_readClock_101 kb s)
  have h26 : RsB mdX1_readClock r kb (tX1_readClock_26 kb) := row_B hA h63 qX1_readClock_63 (And.intro trivial (And.intro trivial (And.intro trivial (And.intro trivial (And.intro trivial (And.intro trivial (And.intro (co_of mkX2_isOut (iX2_isOut hA)) (And.intro trivial (And.intro trivial (And.intro trivial (And.intro trivial (And.intro trivial (And.intro trivial (And.intro (co_of mkX1_isOwner (iX1_isOwner hA)) (ck_n rfl))))))))))))))) rfl (fun xs ys s => eX1_readClock_63 kb (xs.getD 0 0) (xs.getD 1 0) (xs.getD 2 0) (xs.getD 3 0) (xs.getD 4 0) s)
  have h18 : RsB mdX1_readClock r kb (tX1_readClock_18 kb) := row_B hA h26 qX1_readClock_26 (And.intro trivial (And.intro trivial (And.intro trivial (And.intro trivial (And.intro trivial (And.intro trivial (And.intro trivial (And.intro trivial (And.intro trivial (And.intro trivial (And.intro trivial (And.intro trivial (And.intro (co_of mkX1_isOwner (iX1_isOwner hA)) (ck_n rfl)))))))))))))) rfl (fun xs ys s => eX1_readClock_26 kb (xs.getD 0 0) (xs.getD 1 0) (xs.getD 2 0) (xs.getD 3 0) (xs.getD 4 0) s)
  have h14 : RsB mdX1_readClock r kb (tX1_readClock_14 kb) := row_B hA h18 qX1_readClock_18 (ck_n rfl) rfl (fun xs ys s => eX1_readClock_18 kb (xs.getD 0 0) (xs.getD 1 0) (xs.getD 2 0) (xs.getD 3 0) (ys.getD 0 0) s)
  have h0 : RsB mdX1_readClock r kb (tX1_readClock_0 kb) := row_B hA h14 qX1_readClock_14 (ck_n rfl) rfl (fun xs ys s => eX1_readClock_14 kb (xs.getD 0 0) (xs.getD 1 0) (xs.getD 2 0) (xs.getD 3 0) s)
  exact row_B hA h0 qX1_readClock_0 (And.intro trivial (And.intro trivial (And.intro (co_of mkX1_partAt (iX1_partAt hA)) (ck_n rfl)))) rfl (fun xs ys s => eX1_readClock_0 kb (xs.getD 0 0) (xs.getD 1 0) (xs.getD 2 0) s)
theorem iX1_readClock (hA : AOK) : Impl mdX1_readClock gX1_readClock := ent_B (kk := kX1_readClock) (rr := rX1_readClock) (f := fun kb => fun xs ys s => fX1_readClock_0 kb (xs.getD 0 0) (xs.getD 1 0) (xs.getD 2 0) s) (by decide +kernel) rfl (fun _ => rfl) (fun r kb => pX1_readClock hA r kb) (fun kb => ⟨_, rfl⟩) 0 id (fun xs s => rfl) (fun xs => wkl_rf _)
-- Floatparade$Line.passHolds()V
theorem mkX1_passHolds : MK mdX1_passHolds true := MKb_ok (h1 := 1087) (h2 := 75) (h3 := 1086) (h4 := 21) (by decide +kernel)
theorem qX1_passHolds_0 : blkb mdX1_passHolds 2 0 bX1_passHolds_0 [[], []] = true := by decide +kernel
theorem qX1_passHolds_2 : blkb mdX1_passHolds 34 2 bX1_passHolds_2 [[], [], [176], [], [], [], [1026], [], [], [], [], [], [], [948], [], [], [1069], [948]] = true := by decide +kernel
theorem qX1_passHolds_34 : blkb mdX1_passHolds 0 34 bX1_passHolds_34 [[], []] = true := by decide +kernel
theorem qX1_passHolds_40 : blkb mdX1_passHolds 42 40 bX1_passHolds_40 [[], []] = true := by decide +kernel
theorem qX1_passHolds_42 : blkb mdX1_passHolds 0 42 bX1_passHolds_42 [[], [], [175], [], [], [], [175], [], [], [], [175], [], [], [], [], [1069], [], [], []] = true := by decide +kernel
theorem qX1_passHolds_75 : blkb mdX1_passHolds 0 75 bX1_passHolds_75 [[]] = true := by decide +kernel
theorem pX1_passHolds (hA : AOK) (r : Rt) (kb : Co) : RsB mdX1_passHolds r kb (rX1_passHolds kb) := by
  have h75 : RsB mdX1_passHolds r kb (tX1_passHolds_75 kb) := row_0
  have h42 : RsB mdX1_passHolds r kb (tX1_passHolds_42 kb) := row_B hA h75 qX1_passHolds_75 (ck_n rfl) rfl (fun xs ys s => eX1_passHolds_75 kb s)
  have h40 : RsB mdX1_passHolds r kb (tX1_passHolds_40 kb) := row_B hA h42 qX1_passHolds_42 (And.intro trivial (And.intro trivial (And.intro trivial (And.intro trivial (And.intro trivial (And.intro trivial (And.intro trivial (And.intro trivial (And.intro trivial (And.intro trivial (And.intro trivial (And.intro trivial (And.intro trivial (And.intro trivial (And.intro trivial (And.intro coJ9_max_7cf53 (ck_n rfl))))))))))))))))) rfl (fun xs ys s => eX1_passHolds_42 kb (xs.getD 0 0) (xs.getD 1 0) s)
  have h34 : RsB mdX1_passHolds r kb (tX1_passHolds_34 kb) := row_B hA h40 qX1_passHolds_40 (ck_n rfl) rfl (fun xs ys s => eX1_passHolds_40 kb (xs.getD 0 0) s)
  have h2 : RsB mdX1_passHolds r kb (tX1_passHolds_2 kb) := row_B hA h34 qX1_passHolds_34 (ck_n rfl) rfl (fun xs ys s => eX1_passHolds_34 kb (xs.getD 0 0) (xs.getD 1 0) s)
  have h0 : RsB mdX1_passHolds r kb (tX1_passHolds_0 kb) := row_B hA h2 qX1_passHolds_2 (And.intro trivial (And.intro trivial (And.intro trivial (And.intro trivial (And.intro trivial (And.intro trivial (And.intro (co_of mkX1_partAt (iX1_partAt hA)) (And.intro trivial (And.intro trivial (And.intro trivial (And.intro trivial (And.intro trivial (And.intro trivial (And.intro trivial (And.intro trivial (And.intro trivial (And.intro coJ9_max_7cf53 (ck_n rfl)))))))))))))))))) rfl (fun xs ys s => eX1_passHolds_2 kb (xs.getD 0 0) (xs.getD 1 0) s)
  exact row_B hA h0 qX1_passHolds_0 (ck_n rfl) rfl (fun xs ys s => eX1_passHolds_0 kb (xs.getD 0 0) s)
theorem iX1_passHolds (hA : AOK) : Impl mdX1_passHolds gX1_passHolds := ent_B (kk := kX1_passHolds) (rr := rX1_passHolds) (f := fun kb => fun xs ys s => fX1_passHolds_0 kb (xs.getD 0 0) s) (by decide +kernel) rfl (fun _ => rfl) (fun r kb => pX1_passHolds hA r kb) (fun kb => ⟨_, rfl⟩) 9999 id (fun xs s => rfl) (fun xs => wkl_rf _)
