-- Floatparade$League.isRouteFixed()Z
noncomputable def bX0_isRouteFixed_0 : List En := [c_aload_n 0, c_getC 31 0 1 4, c_getI 42 1 6, c_if .ne 13 20, c_aload_n 0, c_get2 21 0 4 2, c_getI 46 4 1, c_if .le 7 24]
theorem eX0_isRouteFixed_0 (kb : Co) (a0 : Int) (s : St) : exb (famH (tX0_isRouteFixed_0 kb) kb) 20 bX0_isRouteFixed_0 [(3, 0, a0)] [] s = fX0_isRouteFixed_0 kb a0 s := rfl
noncomputable def bX0_isRouteFixed_20 : List En := [c_iconst 1, c_goto 4 25]
theorem eX0_isRouteFixed_20 (kb : Co) (s : St) : exb (famH (tX0_isRouteFixed_20 kb) kb) 0 bX0_isRouteFixed_20 [(7, 0, 0)] [] s = fX0_isRouteFixed_20 kb s := rfl
noncomputable def bX0_isRouteFixed_24 : List En := [c_iconst 0]
theorem eX0_isRouteFixed_24 (kb : Co) (s : St) : exb (famH (tX0_isRouteFixed_24 kb) kb) 25 bX0_isRouteFixed_24 [(7, 0, 0)] [] s = fX0_isRouteFixed_24 kb s := rfl
noncomputable def bX0_isRouteFixed_25 : List En := [c_zreturn]
theorem eX0_isRouteFixed_25 (kb : Co) (y0 : Int) (s : St) : exb (famH (tX0_isRouteFixed_25 kb) kb) 0 bX0_isRouteFixed_25 [(7, 0, 0)] [(0, 0, y0)] s = fX0_isRouteFixed_25 kb y0 s := rfl
-- Floatparade$League.hasEntrant(LFloatparade$Society;)Z
noncomputable def bX0_hasEntrant_0 : List En := [c_aload_n 1, c_ifnull 25 26, c_aload_n 1, c_getI 49 6 5, c_aload_n 0, c_getI 39 0 0, c_icmp .ne 14 26, c_aload_n 1, c_getI 54 6 15, c_if .eq 7 26, c_iconst 1, c_goto 4 27]
theorem eX0_hasEntrant_0 (kb : Co) (a0 a1 : Int) (s : St) : exb (famH (tX0_hasEntrant_0 kb) kb) 0 bX0_hasEntrant_0 [(3, 0, a0), (2, 6, a1)] [] s = fX0_hasEntrant_0 kb a0 a1 s := rfl
noncomputable def bX0_hasEntrant_26 : List En := [c_iconst 0]
theorem eX0_hasEntrant_26 (kb : Co) (s : St) : exb (famH (tX0_hasEntrant_26 kb) kb) 27 bX0_hasEntrant_26 [(7, 0, 0), (7, 0, 0)] [] s = fX0_hasEntrant_26 kb s := rfl
noncomputable def bX0_hasEntrant_27 : List En := [c_zreturn]
theorem eX0_hasEntrant_27 (kb : Co) (y0 : Int) (s : St) : exb (famH (tX0_hasEntrant_27 kb) kb) 0 bX0_hasEntrant_27 [(7, 0, 0), (7, 0, 0)] [(0, 0, y0)] s = fX0_hasEntrant_27 kb y0 s := rfl
-- Floatparade$Row.clear()V
noncomputable def bX4_clear_0 : List En := [c_aload_n 0, c_iconst 0, c_putI 17 4 1, c_return]
theorem eX4_clear_0 (kb : Co) (a0 : Int) (s : St) : exb (famH (tX4_clear_0 kb) kb) 0 bX4_clear_0 [(3, 4, a0)] [] s = fX4_clear_0 kb a0 s := rfl
-- Floatparade.isWithin(III)Z
noncomputable def bX11_isWithin_0 : List En := [c_iload_n 0, c_iload_n 1, c_icmp .lt 12 14, c_iload_n 0, c_iload_n 2, c_icmp .gt 7 14, c_iconst 1, c_goto 4 15]
theorem eX11_isWithin_0 (kb : Co) (a0 a1 a2 : Int) (s : St) : exb (famH (tX11_isWithin_0 kb) kb) 0 bX11_isWithin_0 [(0, 0, a0), (0, 0, a1), (0, 0, a2)] [] s = fX11_isWithin_0 kb a0 a1 a2 s := rfl
noncomputable def bX11_isWithin_14 : List En := [c_iconst 0]
theorem eX11_isWithin_14 (kb : Co) (s : St) : exb (famH (tX11_isWithin_14 kb) kb) 15 bX11_isWithin_14 [(7, 0, 0), (7, 0, 0), (7, 0, 0)] [] s = fX11_isWithin_14 kb s := rfl
noncomputable def bX11_isWithin_15 : List En := [c_zreturn]
theorem eX11_isWithin_15 (kb : Co) (y0 : Int) (s : St) : exb (famH (tX11_isWithin_15 kb) kb) 0 bX11_isWithin_15 [(7, 0, 0), (7, 0, 0), (7, 0, 0)] [(0, 0, y0)] s = fX11_isWithin_15 kb y0 s := rfl
-- Floatparade$Row.at(I)LFloatparade$Society;
noncomputable def bX4_at_0 : List En := [c_iload_n 1, c_iconst 0, c_aload_n 0, c_getI 17 4 1, c_iconst 1, c_isub, c_invs 21 [] gX11_isWithin mdX11_isWithin, c_if .eq 21 32, c_iload_n 1, c_aload_n 0, c_getC 11 4 27 0, c_alen 27 10, c_icmp .ge 12 32, c_aload_n 0, c_getC 11 4 27 0, c_iload_n 1, c_aald 27 6 10, c_goto 4 33]
theorem eX4_at_0 (kb : Co) (a0 a1 : Int) (s : St) : exb (famH (tX4_at_0 kb) kb) 0 bX4_at_0 [(3, 4, a0), (0, 0, a1)] [] s = fX4_at_0 kb a0 a1 s := rfl
noncomputable def bX4_at_32 : List En := [c_null 6]
theorem eX4_at_32 (kb : Co) (s : St) : exb (famH (tX4_at_32 kb) kb) 33 bX4_at_32 [(7, 0, 0), (7, 0, 0)] [] s = fX4_at_32 kb s := rfl
noncomputable def bX4_at_33 : List En := [c_areturn 6]
theorem eX4_at_33 (kb : Co) (y0 : Int) (s : St) : exb (famH (tX4_at_33 kb) kb) 0 bX4_at_33 [(7, 0, 0), (7, 0, 0)] [(2, 6, y0)] s = fX4_at_33 kb y0 s := rfl
-- Floatparade$League.orderKey(LFloatparade$Society;I)I
noncomputable def bX0_orderKey_0 : List En := [c_aload_n 1, c_getI 82 6 0, c_iload_n 2, c_icmp .ne 5 10, c_iconst (-1), c_ireturn]
theorem eX0_orderKey_0 (kb : Co) (a0 a1 a2 : Int) (s : St) : exb (famH (tX0_orderKey_0 kb) kb) 0 bX0_orderKey_0 [(3, 0, a0), (2, 6, a1), (0, 0, a2)] [] s = fX0_orderKey_0 kb a0 a1 a2 s := rfl
noncomputable def bX0_orderKey_10 : List En := [c_aload_n 1, c_getI 82 6 0, c_aload_n 0, c_getI 35 0 5, c_icmp .ne 8 26, c_bipush 100, c_goto 7 30]
theorem eX0_orderKey_10 (kb : Co) (a0 a1 : Int) (s : St) : exb (famH (tX0_orderKey_10 kb) kb) 0 bX0_orderKey_10 [(3, 0, a0), (2, 6, a1), (7, 0, 0)] [] s = fX0_orderKey_10 kb a0 a1 s := rfl
noncomputable def bX0_orderKey_26 : List En := [c_aload_n 1, c_getI 83 6 11]
theorem eX0_orderKey_26 (kb : Co) (a1 : Int) (s : St) : exb (famH (tX0_orderKey_26 kb) kb) 30 bX0_orderKey_26 [(7, 0, 0), (2, 6, a1), (7, 0, 0)] [] s = fX0_orderKey_26 kb a1 s := rfl
noncomputable def bX0_orderKey_30 : List En := [c_ireturn]
theorem eX0_orderKey_30 (kb : Co) (y0 : Int) (s : St) : exb (famH (tX0_orderKey_30 kb) kb) 0 bX0_orderKey_30 [(7, 0, 0), (7, 0, 0), (7, 0, 0)] [(0, 0, y0)] s = fX0_orderKey_30 kb y0 s := rfl
-- Floatparade$League.orderPlace(LFloatparade$Society;I)I
noncomputable def bX0_orderPlace_0 : List En := [c_aload_n 0, c_get2 21 0 4 2, c_getI 46 4 1, c_istore_n 3, c_aload_n 0, c_get2 21 0 4 2, c_getI 46 4 1, c_iconst 1, c_isub, c_istore 4]
theorem eX0_orderPlace_0 (kb : Co) (a0 a1 a2 : Int) (s : St) : exb (famH (tX0_orderPlace_0 kb) kb) 19 bX0_orderPlace_0 [(3, 0, a0), (2, 6, a1), (0, 0, a2), (7, 0, 0), (7, 0, 0), (7, 0, 0)] [] s = fX0_orderPlace_0 kb a0 a1 a2 s := rfl
noncomputable def bX0_orderPlace_19 : List En := [c_iload 4, c_if .lt 44 65, c_aload_n 0, c_get2 21 0 4 2, c_iload 4, c_invv 75 [] gX4_at mdX4_at, c_astore 5, c_aload 5, c_ifnull 22 59, c_aload_n 0, c_aload 5, c_iload_n 2, c_invv 79 [] gX0_orderKey mdX0_orderKey, c_aload_n 0, c_aload_n 1, c_iload_n 2, c_invv 79 [] gX0_orderKey mdX0_orderKey, c_icmp .le 6 59, c_iload 4, c_istore_n 3]
theorem eX0_orderPlace_19 (kb : Co) (a0 a1 a2 a3 a4 : Int) (s : St) : exb (famH (tX0_orderPlace_19 kb) kb) 59 bX0_orderPlace_19 [(3, 0, a0), (2, 6, a1), (0, 0, a2), (0, 0, a3), (0, 0, a4), (7, 0, 0)] [] s = fX0_orderPlace_19 kb a0 a1 a2 a3 a4 s := rfl
noncomputable def bX0_orderPlace_59 : List En := [c_iinc 4 (-1), c_goto (-43) 19]
theorem eX0_orderPlace_59 (kb : Co) (a0 a1 a2 a3 a4 : Int) (s : St) : exb (famH (tX0_orderPlace_59 kb) kb) 0 bX0_orderPlace_59 [(3, 0, a0), (2, 6, a1), (0, 0, a2), (0, 0, a3), (0, 0, a4), (7, 0, 0)] [] s = fX0_orderPlace_59 kb a0 a1 a2 a3 a4 s := rfl
noncomputable def bX0_orderPlace_65 : List En := [c_iload_n 3, c_ireturn]
theorem eX0_orderPlace_65 (kb : Co) (a3 : Int) (s : St) : exb (famH (tX0_orderPlace_65 kb) kb) 0 bX0_orderPlace_65 [(7, 0, 0), (7, 0, 0), (7, 0, 0), (0, 0, a3), (7, 0, 0), (7, 0, 0)] [] s = fX0_orderPlace_65 kb a3 s := rfl
-- Floatparade$Row.insert(ILFloatparade$Society;)V
noncomputable def bX4_insert_0 : List En := [c_aload_n 0, c_getI 17 4 1, c_iconst 0, c_aload_n 0, c_getC 11 4 27 0, c_alen 27 10, c_iconst 1, c_isub, c_invs 21 [] gX11_isWithin mdX11_isWithin, c_if .eq 15 30, c_iload_n 1, c_iconst 0, c_aload_n 0, c_getI 17 4 1, c_invs 21 [] gX11_isWithin mdX11_isWithin, c_if .ne 4 31]
theorem eX4_insert_0 (kb : Co) (a0 a1 a2 : Int) (s : St) : exb (famH (tX4_insert_0 kb) kb) 30 bX4_insert_0 [(3, 4, a0), (0, 0, a1), (2, 6, a2), (7, 0, 0)] [] s = fX4_insert_0 kb a0 a1 a2 s := rfl
noncomputable def bX4_insert_30 : List En := [c_return]
theorem eX4_insert_30 (kb : Co) (s : St) : exb (famH (tX4_insert_30 kb) kb) 0 bX4_insert_30 [(7, 0, 0), (7, 0, 0), (7, 0, 0), (7, 0, 0)] [] s = fX4_insert_30 kb s := rfl
noncomputable def bX4_insert_31 : List En := [c_aload_n 0, c_getI 17 4 1, c_istore_n 3]
theorem eX4_insert_31 (kb : Co) (a0 a1 a2 : Int) (s : St) : exb (famH (tX4_insert_31 kb) kb) 36 bX4_insert_31 [(3, 4, a0), (0, 0, a1), (2, 6, a2), (7, 0, 0)] [] s = fX4_insert_31 kb a0 a1 a2 s := rfl
noncomputable def bX4_insert_36 : List En := [c_iload_n 3, c_iload_n 1, c_icmp .le 23 61, c_aload_n 0, c_getC 11 4 27 0, c_iload_n 3, c_aload_n 0, c_getC 11 4 27 0, c_iload_n 3, c_iconst 1, c_isub, c_aald 27 6 10, c_aast 27 6 10, c_iinc 3 (-1), c_goto (-22) 36]
theorem eX4_insert_36 (kb : Co) (a0 a1 a2 a3 : Int) (s : St) : exb (famH (tX4_insert_36 kb) kb) 0 bX4_insert_36 [(3, 4, a0), (0, 0, a1), (2, 6, a2), (0, 0, a3)] [] s = fX4_insert_36 kb a0 a1 a2 a3 s := rfl
noncomputable def bX4_insert_61 : List En := [c_aload_n 0, c_getC 11 4 27 0, c_iload_n 1, c_aload_n 2, c_aast 27 6 10, c_aload_n 0, c_dup, c_getI 17 4 1, c_iconst 1, c_iadd, c_putI 17 4 1, c_return]
theorem eX4_insert_61 (kb : Co) (a0 a1 a2 : Int) (s : St) : exb (famH (tX4_insert_61 kb) kb) 0 bX4_insert_61 [(3, 4, a0), (0, 0, a1), (2, 6, a2), (7, 0, 0)] [] s = fX4_insert_61 kb a0 a1 a2 s := rfl
-- Floatparade$Society.hasFeudWith(LFloatparade$Society;)Z
noncomputable def bX6_hasFeudWith_0 : List En := [c_aload_n 0, c_getI 47 6 7, c_aload_n 1, c_getI 38 6 0, c_ishr, c_iconst 1, c_iand, c_iconst 1, c_icmp .ne 7 19, c_iconst 1, c_goto 4 20]
theorem eX6_hasFeudWith_0 (kb : Co) (a0 a1 : Int) (s : St) : exb (famH (tX6_hasFeudWith_0 kb) kb) 0 bX6_hasFeudWith_0 [(3, 6, a0), (2, 6, a1)] [] s = fX6_hasFeudWith_0 kb a0 a1 s := rfl
noncomputable def bX6_hasFeudWith_19 : List En := [c_iconst 0]
theorem eX6_hasFeudWith_19 (kb : Co) (s : St) : exb (famH (tX6_hasFeudWith_19 kb) kb) 20 bX6_hasFeudWith_19 [(7, 0, 0), (7, 0, 0)] [] s = fX6_hasFeudWith_19 kb s := rfl
noncomputable def bX6_hasFeudWith_20 : List En := [c_zreturn]
theorem eX6_hasFeudWith_20 (kb : Co) (y0 : Int) (s : St) : exb (famH (tX6_hasFeudWith_20 kb) kb) 0 bX6_hasFeudWith_20 [(7, 0, 0), (7, 0, 0)] [(0, 0, y0)] s = fX6_hasFeudWith_20 kb y0 s := rfl
-- Floatparade$Row.isFeudAt(I)Z
noncomputable def bX4_isFeudAt_0 : List En := [c_aload_n 0, c_iload_n 1, c_invv 25 [] gX4_at mdX4_at, c_astore_n 2, c_aload_n 0, c_iload_n 1, c_iconst 1, c_iadd, c_invv 25 [] gX4_at mdX4_at, c_astore_n 3, c_aload_n 2, c_ifnull 19 34, c_aload_n 3, c_ifnull 15 34, c_aload_n 2, c_aload_n 3, c_invv 32 [] gX6_hasFeudWith mdX6_hasFeudWith, c_if .eq 7 34, c_iconst 1, c_goto 4 35]
theorem eX4_isFeudAt_0 (kb : Co) (a0 a1 : Int) (s : St) : exb (famH (tX4_isFeudAt_0 kb) kb) 0 bX4_isFeudAt_0 [(3, 4, a0), (0, 0, a1), (7, 0, 0), (7, 0, 0)] [] s = fX4_isFeudAt_0 kb a0 a1 s := rfl
noncomputable def bX4_isFeudAt_34 : List En := [c_iconst 0]
theorem eX4_isFeudAt_34 (kb : Co) (s : St) : exb (famH (tX4_isFeudAt_34 kb) kb) 35 bX4_isFeudAt_34 [(7, 0, 0), (7, 0, 0), (7, 0, 0), (7, 0, 0)] [] s = fX4_isFeudAt_34 kb s := rfl
noncomputable def bX4_isFeudAt_35 : List En := [c_zreturn]
theorem eX4_isFeudAt_35 (kb : Co) (y0 : Int) (s : St) : exb (famH (tX4_isFeudAt_35 kb) kb) 0 bX4_isFeudAt_35 [(7, 0, 0), (7, 0, 0), (7, 0, 0), (7, 0, 0)] [(0, 0, y0)] s = fX4_isFeudAt_35 kb y0 s := rfl
-- Floatparade$Row.firstFeud()I
noncomputable def bX4_firstFeud_0 : List En := [c_iconst 0, c_istore_n 1]
theorem eX4_firstFeud_0 (kb : Co) (a0 : Int) (s : St) : exb (famH (tX4_firstFeud_0 kb) kb) 2 bX4_firstFeud_0 [(3, 4, a0), (7, 0, 0)] [] s = fX4_firstFeud_0 kb a0 s := rfl
noncomputable def bX4_firstFeud_2 : List En := [c_iload_n 1, c_iconst 1, c_iadd, c_aload_n 0, c_getI 17 4 1, c_icmp .ge 19 28, c_aload_n 0, c_iload_n 1, c_invv 36 [] gX4_isFeudAt mdX4_isFeudAt, c_if .eq 5 22, c_iload_n 1, c_ireturn]
theorem eX4_firstFeud_2 (kb : Co) (a0 a1 : Int) (s : St) : exb (famH (tX4_firstFeud_2 kb) kb) 0 bX4_firstFeud_2 [(3, 4, a0), (0, 0, a1)] [] s = fX4_firstFeud_2 kb a0 a1 s := rfl
noncomputable def bX4_firstFeud_22 : List En := [c_iinc 1 1, c_goto (-23) 2]
theorem eX4_firstFeud_22 (kb : Co) (a0 a1 : Int) (s : St) : exb (famH (tX4_firstFeud_22 kb) kb) 0 bX4_firstFeud_22 [(3, 4, a0), (0, 0, a1)] [] s = fX4_firstFeud_22 kb a0 a1 s := rfl
noncomputable def bX4_firstFeud_28 : List En := [c_iconst (-1), c_ireturn]
theorem eX4_firstFeud_28 (kb : Co) (s : St) : exb (famH (tX4_firstFeud_28 kb) kb) 0 bX4_firstFeud_28 [(7, 0, 0), (7, 0, 0)] [] s = fX4_firstFeud_28 kb s := rfl
-- Floatparade$Row.swap(II)V
noncomputable def bX4_swap_0 : List En := [c_aload_n 0, c_iload_n 1, c_invv 25 [] gX4_at mdX4_at, c_astore_n 3, c_aload_n 0, c_iload_n 2, c_invv 25 [] gX4_at mdX4_at, c_astore 4, c_aload_n 3, c_ifnull 23 37, c_aload 4, c_ifnull 18 37, c_aload_n 0, c_getC 11 4 27 0, c_iload_n 1, c_aload 4, c_aast 27 6 10, c_aload_n 0, c_getC 11 4 27 0, c_iload_n 2, c_aload_n 3, c_aast 27 6 10]
theorem eX4_swap_0 (kb : Co) (a0 a1 a2 : Int) (s : St) : exb (famH (tX4_swap_0 kb) kb) 37 bX4_swap_0 [(3, 4, a0), (0, 0, a1), (0, 0, a2), (7, 0, 0), (7, 0, 0)] [] s = fX4_swap_0 kb a0 a1 a2 s := rfl
noncomputable def bX4_swap_37 : List En := [c_return]
theorem eX4_swap_37 (kb : Co) (s : St) : exb (famH (tX4_swap_37 kb) kb) 0 bX4_swap_37 [(7, 0, 0), (7, 0, 0), (7, 0, 0), (7, 0, 0), (7, 0, 0)] [] s = fX4_swap_37 kb s := rfl
-- Floatparade$Row.partFeuds()V
noncomputable def bX4_partFeuds_0 : List En := [c_iconst 0, c_istore_n 1]
theorem eX4_partFeuds_0 (kb : Co) (a0 : Int) (s : St) : exb (famH (tX4_partFeuds_0 kb) kb) 2 bX4_partFeuds_0 [(3, 4, a0), (7, 0, 0), (7, 0, 0)] [] s = fX4_partFeuds_0 kb a0 s := rfl
noncomputable def bX4_partFeuds_2 : List En := [c_iload_n 1, c_bipush 10, c_icmp .ge 51 56, c_aload_n 0, c_invv 40 [] gX4_firstFeud mdX4_firstFeud, c_istore_n 2, c_iload_n 2, c_iconst (-1), c_icmp .ne 4 19, c_return]
theorem eX4_partFeuds_2 (kb : Co) (a0 a1 : Int) (s : St) : exb (famH (tX4_partFeuds_2 kb) kb) 0 bX4_partFeuds_2 [(3, 4, a0), (0, 0, a1), (7, 0, 0)] [] s = fX4_partFeuds_2 kb a0 a1 s := rfl
noncomputable def bX4_partFeuds_19 : List En := [c_iload_n 2, c_iconst 2, c_iadd, c_aload_n 0, c_getI 17 4 1, c_icmp .ge 16 42, c_aload_n 0, c_iload_n 2, c_iconst 1, c_iadd, c_iload_n 2, c_iconst 2, c_iadd, c_invv 44 [] gX4_swap mdX4_swap, c_goto 11 50]
theorem eX4_partFeuds_19 (kb : Co) (a0 a1 a2 : Int) (s : St) : exb (famH (tX4_partFeuds_19 kb) kb) 0 bX4_partFeuds_19 [(3, 4, a0), (0, 0, a1), (0, 0, a2)] [] s = fX4_partFeuds_19 kb a0 a1 a2 s := rfl
noncomputable def bX4_partFeuds_42 : List En := [c_aload_n 0, c_iload_n 2, c_iload_n 2, c_iconst 1, c_isub, c_invv 44 [] gX4_swap mdX4_swap]
theorem eX4_partFeuds_42 (kb : Co) (a0 a1 a2 : Int) (s : St) : exb (famH (tX4_partFeuds_42 kb) kb) 50 bX4_partFeuds_42 [(3, 4, a0), (0, 0, a1), (0, 0, a2)] [] s = fX4_partFeuds_42 kb a0 a1 a2 s := rfl
noncomputable def bX4_partFeuds_50 : List En := [c_iinc 1 1, c_goto (-51) 2]
theorem eX4_partFeuds_50 (kb : Co) (a0 a1 : Int) (s : St) : exb (famH (tX4_partFeuds_50 kb) kb) 0 bX4_partFeuds_50 [(3, 4, a0), (0, 0, a1), (7, 0, 0)] [] s = fX4_partFeuds_50 kb a0 a1 s := rfl
noncomputable def bX4_partFeuds_56 : List En := [c_return]
theorem eX4_partFeuds_56 (kb : Co) (s : St) : exb (famH (tX4_partFeuds_56 kb) kb) 0 bX4_partFeuds_56 [(7, 0, 0), (7, 0, 0), (7, 0, 0)] [] s = fX4_partFeuds_56 kb s := rfl
-- Floatparade$League.findOrder([LFloatparade$Society;I)V
noncomputable def bX0_findOrder_0 : List En := [c_aload_n 0, c_get2 21 0 4 2, c_invv 57 [] gX4_clear mdX4_clear, c_iconst 0, c_istore_n 3]
theorem eX0_findOrder_0 (kb : Co) (a0 a1 a2 : Int) (s : St) : exb (famH (tX0_findOrder_0 kb) kb) 9 bX0_findOrder_0 [(3, 0, a0), (3, 13, a1), (0, 0, a2), (7, 0, 0), (7, 0, 0)] [] s = fX0_findOrder_0 kb a0 a1 a2 s := rfl
noncomputable def bX0_findOrder_9 : List En := [c_iload_n 3, c_aload_n 1, c_alen 13 10, c_icmp .ge 39 51, c_aload_n 1, c_iload_n 3, c_aald 13 6 10, c_astore 4, c_aload_n 0, c_aload 4, c_invv 60 [] gX0_hasEntrant mdX0_hasEntrant, c_if .eq 19 45, c_aload_n 0, c_get2 21 0 4 2, c_aload_n 0, c_aload 4, c_iload_n 2, c_invv 64 [] gX0_orderPlace mdX0_orderPlace, c_aload 4, c_invv 68 [] gX4_insert mdX4_insert]
theorem eX0_findOrder_9 (kb : Co) (a0 a1 a2 a3 : Int) (s : St) : exb (famH (tX0_findOrder_9 kb) kb) 45 bX0_findOrder_9 [(3, 0, a0), (3, 13, a1), (0, 0, a2), (0, 0, a3), (7, 0, 0)] [] s = fX0_findOrder_9 kb a0 a1 a2 a3 s := rfl
noncomputable def bX0_findOrder_45 : List En := [c_iinc 3 1, c_goto (-39) 9]
theorem eX0_findOrder_45 (kb : Co) (a0 a1 a2 a3 : Int) (s : St) : exb (famH (tX0_findOrder_45 kb) kb) 0 bX0_findOrder_45 [(3, 0, a0), (3, 13, a1), (0, 0, a2), (0, 0, a3), (7, 0, 0)] [] s = fX0_findOrder_45 kb a0 a1 a2 a3 s := rfl
noncomputable def bX0_findOrder_51 : List En := [c_aload_n 0, c_get2 21 0 4 2, c_invv 72 [] gX4_partFeuds mdX4_partFeuds, c_return]
theorem eX0_findOrder_51 (kb : Co) (a0 : Int) (s : St) : exb (famH (tX0_findOrder_51 kb) kb) 0 bX0_findOrder_51 [(3, 0, a0), (7, 0, 0), (7, 0, 0), (7, 0, 0), (7, 0, 0)] [] s = fX0_findOrder_51 kb a0 s := rfl
-- Floatparade$Score.noteBy(II)I
noncomputable def bX5_noteBy_0 : List En := [c_iload_n 1, c_iconst 5, c_imul, c_iload_n 2, c_iadd, c_istore_n 3, c_iload_n 3, c_if .lt 21 28, c_iload_n 3, c_aload_n 0, c_getC 9 5 18 0, c_alen 18 20, c_icmp .ge 12 28, c_aload_n 0, c_getC 9 5 18 0, c_iload_n 3, c_iald 18 20, c_goto 4 29]
theorem eX5_noteBy_0 (kb : Co) (a0 a1 a2 : Int) (s : St) : exb (famH (tX5_noteBy_0 kb) kb) 0 bX5_noteBy_0 [(3, 5, a0), (0, 0, a1), (0, 0, a2), (7, 0, 0)] [] s = fX5_noteBy_0 kb a0 a1 a2 s := rfl
noncomputable def bX5_noteBy_28 : List En := [c_iconst 0]
theorem eX5_noteBy_28 (kb : Co) (s : St) : exb (famH (tX5_noteBy_28 kb) kb) 29 bX5_noteBy_28 [(7, 0, 0), (7, 0, 0), (7, 0, 0), (7, 0, 0)] [] s = fX5_noteBy_28 kb s := rfl
noncomputable def bX5_noteBy_29 : List En := [c_ireturn]
theorem eX5_noteBy_29 (kb : Co) (y0 : Int) (s : St) : exb (famH (tX5_noteBy_29 kb) kb) 0 bX5_noteBy_29 [(7, 0, 0), (7, 0, 0), (7, 0, 0), (7, 0, 0)] [(0, 0, y0)] s = fX5_noteBy_29 kb y0 s := rfl
-- java/lang/Math.min(II)I
noncomputable def bJ9_min_7cf53_0 : List En := [c_iload_n 0, c_iload_n 1, c_icmp .gt 7 9, c_iload_n 0, c_goto 4 10]
theorem eJ9_min_7cf53_0 (kb : Co) (a0 a1 : Int) (s : St) : exb (famH (tJ9_min_7cf53_0 kb) kb) 0 bJ9_min_7cf53_0 [(0, 0, a0), (0, 0, a1)] [] s = fJ9_min_7cf53_0 kb a0 a1 s := rfl
noncomputable def bJ9_min_7cf53_9 : List En := [c_iload_n 1]
theorem eJ9_min_7cf53_9 (kb : Co) (a1 : Int) (s : St) : exb (famH (tJ9_min_7cf53_9 kb) kb) 10 bJ9_min_7cf53_9 [(7, 0, 0), (0, 0, a1)] [] s = fJ9_min_7cf53_9 kb a1 s := rfl
noncomputable def bJ9_min_7cf53_10 : List En := [c_ireturn]
theorem eJ9_min_7cf53_10 (kb : Co) (y0 : Int) (s : St) : exb (famH (tJ9_min_7cf53_10 kb) kb) 0 bJ9_min_7cf53_10 [(7, 0, 0), (7, 0, 0)] [(0, 0, y0)] s = fJ9_min_7cf53_10 kb y0 s := rfl
-- java/lang/Math.max(II)I
noncomputable def bJ9_max_7cf53_0 : List En := [c_iload_n 0, c_iload_n 1, c_icmp .lt 7 9, c_iload_n 0, c_goto 4 10]
theorem eJ9_max_7cf53_0 (kb : Co) (a0 a1 : Int) (s : St) : exb (famH (tJ9_max_7cf53_0 kb) kb) 0 bJ9_max_7cf53_0 [(0, 0, a0), (0, 0, a1)] [] s = fJ9_max_7cf53_0 kb a0 a1 s := rfl
noncomputable def bJ9_max_7cf53_9 : List En := [c_iload_n 1]
theorem eJ9_max_7cf53_9 (kb : Co) (a1 : Int) (s : St) : exb (famH (tJ9_max_7cf53_9 kb) kb) 10 bJ9_max_7cf53_9 [(7, 0, 0), (0, 0, a1)] [] s = fJ9_max_7cf53_9 kb a1 s := rfl
noncomputable def bJ9_max_7cf53_10 : List En := [c_ireturn]
theorem eJ9_max_7cf53_10 (kb : Co) (y0 : Int) (s : St) : exb (famH (tJ9_max_7cf53_10 kb) kb) 0 bJ9_max_7cf53_10 [(7, 0, 0), (7, 0, 0)] [(0, 0, y0)] s = fJ9_max_7cf53_10 kb y0 s := rfl
-- Floatparade$Score.together(I)I
noncomputable def bX5_together_0 : List En := [c_iconst 0, c_istore_n 2, c_iconst 0, c_istore_n 3, c_iconst 0, c_istore 4, c_iconst 0, c_istore 5, c_iconst 0, c_istore 6]
theorem eX5_together_0 (kb : Co) (a0 a1 : Int) (s : St) : exb (famH (tX5_together_0 kb) kb) 13 bX5_together_0 [(3, 5, a0), (0, 0, a1), (7, 0, 0), (7, 0, 0), (7, 0, 0), (7, 0, 0), (7, 0, 0), (7, 0, 0)] [] s = fX5_together_0 kb a0 a1 s := rfl
noncomputable def bX5_together_13 : List En := [c_iload 6, c_iconst 4, c_icmp .ge 58 74, c_aload_n 0, c_iload 6, c_iload_n 1, c_invv 25 [] gX5_noteBy mdX5_noteBy, c_istore 7, c_iload 7, c_if .le 38 68, c_iload_n 3, c_if .ne 8 42, c_iload 7, c_goto 10 49]
theorem eX5_together_13 (kb : Co) (a0 a1 a2 a3 a4 a5 a6 : Int) (s : St) : exb (famH (tX5_together_13 kb) kb) 0 bX5_together_13 [(3, 5, a0), (0, 0, a1), (0, 0, a2), (0, 0, a3), (0, 0, a4), (0, 0, a5), (0, 0, a6), (7, 0, 0)] [] s = fX5_together_13 kb a0 a1 a2 a3 a4 a5 a6 s := rfl
noncomputable def bX5_together_42 : List En := [c_iload 4, c_iload 7, c_invs 29 [] gJ9_min_7cf53 mdJ9_min_7cf53]
theorem eX5_together_42 (kb : Co) (a0 a1 a2 a3 a4 a5 a6 a7 : Int) (s : St) : exb (famH (tX5_together_42 kb) kb) 49 bX5_together_42 [(3, 5, a0), (0, 0, a1), (0, 0, a2), (0, 0, a3), (0, 0, a4), (0, 0, a5), (0, 0, a6), (0, 0, a7)] [] s = fX5_together_42 kb a0 a1 a2 a3 a4 a5 a6 a7 s := rfl
noncomputable def bX5_together_49 : List En := [c_istore 4, c_iload 5, c_iload 7, c_invs 34 [] gJ9_max_7cf53 mdJ9_max_7cf53, c_istore 5, c_iload_n 2, c_iload 7, c_iadd, c_istore_n 2, c_iinc 3 1]
theorem eX5_together_49 (kb : Co) (a0 a1 a2 a3 a5 a6 a7 y0 : Int) (s : St) : exb (famH (tX5_together_49 kb) kb) 68 bX5_together_49 [(3, 5, a0), (0, 0, a1), (0, 0, a2), (0, 0, a3), (7, 0, 0), (0, 0, a5), (0, 0, a6), (0, 0, a7)] [(0, 0, y0)] s = fX5_together_49 kb a0 a1 a2 a3 a5 a6 a7 y0 s := rfl
noncomputable def bX5_together_68 : List En := [c_iinc 6 1, c_goto (-58) 13]
theorem eX5_together_68 (kb : Co) (a0 a1 a2 a3 a4 a5 a6 : Int) (s : St) : exb (famH (tX5_together_68 kb) kb) 0 bX5_together_68 [(3, 5, a0), (0, 0, a1), (0, 0, a2), (0, 0, a3), (0, 0, a4), (0, 0, a5), (0, 0, a6), (7, 0, 0)] [] s = fX5_together_68 kb a0 a1 a2 a3 a4 a5 a6 s := rfl
noncomputable def bX5_together_74 : List En := [c_iload_n 3, c_iconst 3, c_icmp .lt 8 84, c_iload_n 2, c_iload 4, c_isub, c_istore_n 2]
theorem eX5_together_74 (kb : Co) (a2 a3 a4 a5 : Int) (s : St) : exb (famH (tX5_together_74 kb) kb) 84 bX5_together_74 [(7, 0, 0), (7, 0, 0), (0, 0, a2), (0, 0, a3), (0, 0, a4), (0, 0, a5), (7, 0, 0), (7, 0, 0)] [] s = fX5_together_74 kb a2 a3 a4 a5 s := rfl
noncomputable def bX5_together_84 : List En := [c_iload_n 3, c_iconst 4, c_icmp .lt 8 94, c_iload_n 2, c_iload 5, c_isub, c_istore_n 2]
theorem eX5_together_84 (kb : Co) (a2 a3 a5 : Int) (s : St) : exb (famH (tX5_together_84 kb) kb) 94 bX5_together_84 [(7, 0, 0), (7, 0, 0), (0, 0, a2), (0, 0, a3), (7, 0, 0), (0, 0, a5), (7, 0, 0), (7, 0, 0)] [] s = fX5_together_84 kb a2 a3 a5 s := rfl
noncomputable def bX5_together_94 : List En := [c_iload_n 2, c_ireturn]
theorem eX5_together_94 (kb : Co) (a2 : Int) (s : St) : exb (famH (tX5_together_94 kb) kb) 0 bX5_together_94 [(7, 0, 0), (7, 0, 0), (0, 0, a2), (7, 0, 0), (7, 0, 0), (7, 0, 0), (7, 0, 0), (7, 0, 0)] [] s = fX5_together_94 kb a2 s := rfl
-- Floatparade$Score.hasPenalty(I)Z
noncomputable def bX5_hasPenalty_0 : List En := [c_iload_n 1, c_iconst 0, c_aload_n 0, c_getI 41 5 4, c_iconst 1, c_isub, c_invs 45 [] gX11_isWithin mdX11_isWithin, c_if .eq 13 24, c_iload_n 1, c_bipush 20, c_icmp .ge 7 24, c_iconst 1, c_goto 4 25]
theorem eX5_hasPenalty_0 (kb : Co) (a0 a1 : Int) (s : St) : exb (famH (tX5_hasPenalty_0 kb) kb) 0 bX5_hasPenalty_0 [(3, 5, a0), (0, 0, a1)] [] s = fX5_hasPenalty_0 kb a0 a1 s := rfl
noncomputable def bX5_hasPenalty_24 : List En := [c_iconst 0]
theorem eX5_hasPenalty_24 (kb : Co) (s : St) : exb (famH (tX5_hasPenalty_24 kb) kb) 25 bX5_hasPenalty_24 [(7, 0, 0), (7, 0, 0)] [] s = fX5_hasPenalty_24 kb s := rfl
noncomputable def bX5_hasPenalty_25 : List En := [c_zreturn]
theorem eX5_hasPenalty_25 (kb : Co) (y0 : Int) (s : St) : exb (famH (tX5_hasPenalty_25 kb) kb) 0 bX5_hasPenalty_25 [(7, 0, 0), (7, 0, 0)] [(0, 0, y0)] s = fX5_hasPenalty_25 kb y0 s := rfl
-- Floatparade$Score.points()I
noncomputable def bX5_points_0 : List En := [c_iconst 0, c_istore_n 1, c_iconst 0, c_istore_n 2]
theorem eX5_points_0 (kb : Co) (a0 : Int) (s : St) : exb (famH (tX5_points_0 kb) kb) 4 bX5_points_0 [(3, 5, a0), (7, 0, 0), (7, 0, 0)] [] s = fX5_points_0 kb a0 s := rfl
noncomputable def bX5_points_4 : List En := [c_iload_n 2, c_iconst 5, c_icmp .ge 17 23, c_iload_n 1, c_aload_n 0, c_iload_n 2, c_invv 53 [] gX5_together mdX5_together, c_iadd, c_istore_n 1, c_iinc 2 1, c_goto (-16) 4]
theorem eX5_points_4 (kb : Co) (a0 a1 a2 : Int) (s : St) : exb (famH (tX5_points_4 kb) kb) 0 bX5_points_4 [(3, 5, a0), (0, 0, a1), (0, 0, a2)] [] s = fX5_points_4 kb a0 a1 a2 s := rfl
noncomputable def bX5_points_23 : List En := [c_iconst 0, c_istore_n 2]
theorem eX5_points_23 (kb : Co) (a0 a1 : Int) (s : St) : exb (famH (tX5_points_23 kb) kb) 25 bX5_points_23 [(3, 5, a0), (0, 0, a1), (7, 0, 0)] [] s = fX5_points_23 kb a0 a1 s := rfl
noncomputable def bX5_points_25 : List En := [c_iload_n 2, c_aload_n 0, c_getI 41 5 4, c_icmp .ge 39 69, c_iload_n 1, c_aload_n 0, c_iload_n 2, c_invv 49 [] gX5_hasPenalty mdX5_hasPenalty, c_if .eq 21 60, c_aload_n 0, c_getC 21 5 21 3, c_iload_n 2, c_bald 21 20, c_if .ne 12 60, c_aload_n 0, c_getC 18 5 20 2, c_iload_n 2, c_iald 20 20, c_goto 4 61]
theorem eX5_points_25 (kb : Co) (a0 a1 a2 : Int) (s : St) : exb (famH (tX5_points_25 kb) kb) 0 bX5_points_25 [(3, 5, a0), (0, 0, a1), (0, 0, a2)] [] s = fX5_points_25 kb a0 a1 a2 s := rfl
noncomputable def bX5_points_60 : List En := [c_iconst 0]
theorem eX5_points_60 (kb : Co) (a0 a2 y0 : Int) (s : St) : exb (famH (tX5_points_60 kb) kb) 61 bX5_points_60 [(3, 5, a0), (7, 0, 0), (0, 0, a2)] [(0, 0, y0)] s = fX5_points_60 kb a0 a2 y0 s := rfl
noncomputable def bX5_points_61 : List En := [c_isub, c_istore_n 1, c_iinc 2 1, c_goto (-41) 25]
theorem eX5_points_61 (kb : Co) (a0 a2 y0 y1 : Int) (s : St) : exb (famH (tX5_points_61 kb) kb) 0 bX5_points_61 [(3, 5, a0), (7, 0, 0), (0, 0, a2)] [(0, 0, y0), (0, 0, y1)] s = fX5_points_61 kb a0 a2 y0 y1 s := rfl
noncomputable def bX5_points_69 : List En := [c_iload_n 1, c_ireturn]
theorem eX5_points_69 (kb : Co) (a1 : Int) (s : St) : exb (famH (tX5_points_69 kb) kb) 0 bX5_points_69 [(7, 0, 0), (0, 0, a1), (7, 0, 0)] [] s = fX5_points_69 kb a1 s := rfl
-- Floatparade$Society.isBetterThan(LFloatparade$Society;I)Z
noncomputable def bX6_isBetterThan_0 : List En := [c_aload_n 0, c_getC 21 6 5 3, c_invv 76 [] gX5_points mdX5_points, c_istore_n 3, c_aload_n 1, c_getC 21 6 5 3, c_invv 76 [] gX5_points mdX5_points, c_istore 4, c_iconst 0, c_istore 5]
theorem eX6_isBetterThan_0 (kb : Co) (a0 a1 a2 : Int) (s : St) : exb (famH (tX6_isBetterThan_0 kb) kb) 20 bX6_isBetterThan_0 [(3, 6, a0), (2, 6, a1), (0, 0, a2), (7, 0, 0), (7, 0, 0), (7, 0, 0), (7, 0, 0)] [] s = fX6_isBetterThan_0 kb a0 a1 a2 s := rfl
noncomputable def bX6_isBetterThan_20 : List En := [c_iload 5, c_iconst 5, c_icmp .ge 44 67, c_iload_n 3, c_iload 4, c_icmp .ne 38 67, c_iload_n 2, c_iload 5, c_iadd, c_iconst 5, c_irem, c_istore 6, c_aload_n 0, c_getC 21 6 5 3, c_iload 6, c_invv 89 [] gX5_together mdX5_together, c_istore_n 3, c_aload_n 1, c_getC 21 6 5 3, c_iload 6, c_invv 89 [] gX5_together mdX5_together, c_istore 4, c_iinc 5 1, c_goto (-44) 20]
theorem eX6_isBetterThan_20 (kb : Co) (a0 a1 a2 a3 a4 a5 : Int) (s : St) : exb (famH (tX6_isBetterThan_20 kb) kb) 0 bX6_isBetterThan_20 [(3, 6, a0), (2, 6, a1), (0, 0, a2), (0, 0, a3), (0, 0, a4), (0, 0, a5), (7, 0, 0)] [] s = fX6_isBetterThan_20 kb a0 a1 a2 a3 a4 a5 s := rfl
noncomputable def bX6_isBetterThan_67 : List En := [c_iload_n 3, c_iload 4, c_icmp .le 7 77, c_iconst 1, c_goto 4 78]
theorem eX6_isBetterThan_67 (kb : Co) (a3 a4 : Int) (s : St) : exb (famH (tX6_isBetterThan_67 kb) kb) 0 bX6_isBetterThan_67 [(7, 0, 0), (7, 0, 0), (7, 0, 0), (0, 0, a3), (0, 0, a4), (7, 0, 0), (7, 0, 0)] [] s = fX6_isBetterThan_67 kb a3 a4 s := rfl
noncomputable def bX6_isBetterThan_77 : List En := [c_iconst 0]
theorem eX6_isBetterThan_77 (kb : Co) (s : St) : exb (famH (tX6_isBetterThan_77 kb) kb) 78 bX6_isBetterThan_77 [(7, 0, 0), (7, 0, 0), (7, 0, 0), (7, 0, 0), (7, 0, 0), (7, 0, 0), (7, 0, 0)] [] s = fX6_isBetterThan_77 kb s := rfl
noncomputable def bX6_isBetterThan_78 : List En := [c_zreturn]
theorem eX6_isBetterThan_78 (kb : Co) (y0 : Int) (s : St) : exb (famH (tX6_isBetterThan_78 kb) kb) 0 bX6_isBetterThan_78 [(7, 0, 0), (7, 0, 0), (7, 0, 0), (7, 0, 0), (7, 0, 0), (7, 0, 0), (7, 0, 0)] [(0, 0, y0)] s = fX6_isBetterThan_78 kb y0 s := rfl
-- Floatparade$League.rankPlace(LFloatparade$Society;I)I
noncomputable def bX0_rankPlace_0 : List En := [c_iconst 0, c_istore_n 3]
theorem eX0_rankPlace_0 (kb : Co) (a0 a1 a2 : Int) (s : St) : exb (famH (tX0_rankPlace_0 kb) kb) 2 bX0_rankPlace_0 [(3, 0, a0), (2, 6, a1), (0, 0, a2), (7, 0, 0), (7, 0, 0)] [] s = fX0_rankPlace_0 kb a0 a1 a2 s := rfl
noncomputable def bX0_rankPlace_2 : List En := [c_iload_n 3, c_aload_n 0, c_get3 25 0 4 3, c_getI 46 4 1, c_icmp .ge 36 46, c_aload_n 0, c_get3 25 0 4 3, c_iload_n 3, c_invv 75 [] gX4_at mdX4_at, c_astore 4, c_aload 4, c_ifnull 15 40, c_aload_n 1, c_aload 4, c_iload_n 2, c_invv 89 [] gX6_isBetterThan mdX6_isBetterThan, c_if .eq 5 40, c_iload_n 3, c_ireturn]
theorem eX0_rankPlace_2 (kb : Co) (a0 a1 a2 a3 : Int) (s : St) : exb (famH (tX0_rankPlace_2 kb) kb) 0 bX0_rankPlace_2 [(3, 0, a0), (2, 6, a1), (0, 0, a2), (0, 0, a3), (7, 0, 0)] [] s = fX0_rankPlace_2 kb a0 a1 a2 a3 s := rfl
noncomputable def bX0_rankPlace_40 : List En := [c_iinc 3 1, c_goto (-41) 2]
theorem eX0_rankPlace_40 (kb : Co) (a0 a1 a2 a3 : Int) (s : St) : exb (famH (tX0_rankPlace_40 kb) kb) 0 bX0_rankPlace_40 [(3, 0, a0), (2, 6, a1), (0, 0, a2), (0, 0, a3), (7, 0, 0)] [] s = fX0_rankPlace_40 kb a0 a1 a2 a3 s := rfl
noncomputable def bX0_rankPlace_46 : List En := [c_aload_n 0, c_get3 25 0 4 3, c_getI 46 4 1, c_ireturn]
theorem eX0_rankPlace_46 (kb : Co) (a0 : Int) (s : St) : exb (famH (tX0_rankPlace_46 kb) kb) 0 bX0_rankPlace_46 [(3, 0, a0), (7, 0, 0), (7, 0, 0), (7, 0, 0), (7, 0, 0)] [] s = fX0_rankPlace_46 kb a0 s := rfl
-- Floatparade$League.rank([LFloatparade$Society;I)V
noncomputable def bX0_rank_0 : List En := [c_aload_n 0, c_get3 25 0 4 3, c_invv 57 [] gX4_clear mdX4_clear, c_iconst 0, c_istore_n 3]
theorem eX0_rank_0 (kb : Co) (a0 a1 a2 : Int) (s : St) : exb (famH (tX0_rank_0 kb) kb) 9 bX0_rank_0 [(3, 0, a0), (3, 13, a1), (0, 0, a2), (7, 0, 0), (7, 0, 0)] [] s = fX0_rank_0 kb a0 a1 a2 s := rfl
noncomputable def bX0_rank_9 : List En := [c_iload_n 3, c_aload_n 1, c_alen 13 10, c_icmp .ge 39 51, c_aload_n 1, c_iload_n 3, c_aald 13 6 10, c_astore 4, c_aload_n 0, c_aload 4, c_invv 60 [] gX0_hasEntrant mdX0_hasEntrant, c_if .eq 19 45, c_aload_n 0, c_get3 25 0 4 3, c_aload_n 0, c_aload 4, c_iload_n 2, c_invv 86 [] gX0_rankPlace mdX0_rankPlace, c_aload 4, c_invv 68 [] gX4_insert mdX4_insert]
theorem eX0_rank_9 (kb : Co) (a0 a1 a2 a3 : Int) (s : St) : exb (famH (tX0_rank_9 kb) kb) 45 bX0_rank_9 [(3, 0, a0), (3, 13, a1), (0, 0, a2), (0, 0, a3), (7, 0, 0)] [] s = fX0_rank_9 kb a0 a1 a2 a3 s := rfl
noncomputable def bX0_rank_45 : List En := [c_iinc 3 1, c_goto (-39) 9]
theorem eX0_rank_45 (kb : Co) (a0 a1 a2 a3 : Int) (s : St) : exb (famH (tX0_rank_45 kb) kb) 0 bX0_rank_45 [(3, 0, a0), (3, 13, a1), (0, 0, a2), (0, 0, a3), (7, 0, 0)] [] s = fX0_rank_45 kb a0 a1 a2 a3 s := rfl
noncomputable def bX0_rank_51 : List En := [c_return]
theorem eX0_rank_51 (kb : Co) (s : St) : exb (famH (tX0_rank_51 kb) kb) 0 bX0_rank_51 [(7, 0, 0), (7, 0, 0), (7, 0, 0), (7, 0, 0), (7, 0, 0)] [] s = fX0_rank_51 kb s := rfl
-- Floatparade$Row.numberAt(I)I
noncomputable def bX4_numberAt_0 : List En := [c_aload_n 0, c_iload_n 1, c_invv 25 [] gX4_at mdX4_at, c_astore_n 2, c_aload_n 2, c_ifnonnull 7 14, c_iconst (-1), c_goto 7 18]
theorem eX4_numberAt_0 (kb : Co) (a0 a1 : Int) (s : St) : exb (famH (tX4_numberAt_0 kb) kb) 0 bX4_numberAt_0 [(3, 4, a0), (0, 0, a1), (7, 0, 0)] [] s = fX4_numberAt_0 kb a0 a1 s := rfl
noncomputable def bX4_numberAt_14 : List En := [c_aload_n 2, c_getI 29 6 0]
theorem eX4_numberAt_14 (kb : Co) (a2 : Int) (s : St) : exb (famH (tX4_numberAt_14 kb) kb) 18 bX4_numberAt_14 [(7, 0, 0), (7, 0, 0), (2, 6, a2)] [] s = fX4_numberAt_14 kb a2 s := rfl
noncomputable def bX4_numberAt_18 : List En := [c_ireturn]
theorem eX4_numberAt_18 (kb : Co) (y0 : Int) (s : St) : exb (famH (tX4_numberAt_18 kb) kb) 0 bX4_numberAt_18 [(7, 0, 0), (7, 0, 0), (7, 0, 0)] [(0, 0, y0)] s = fX4_numberAt_18 kb y0 s := rfl
-- Floatparade$League.settle()V
noncomputable def bX0_settle_0 : List En := [c_iconst 0, c_istore_n 1]
theorem eX0_settle_0 (kb : Co) (a0 : Int) (s : St) : exb (famH (tX0_settle_0 kb) kb) 2 bX0_settle_0 [(3, 0, a0), (7, 0, 0), (7, 0, 0)] [] s = fX0_settle_0 kb a0 s := rfl
noncomputable def bX0_settle_2 : List En := [c_iload_n 1, c_aload_n 0, c_get3 25 0 4 3, c_getI 46 4 1, c_icmp .ge 43 53, c_aload_n 0, c_get3 25 0 4 3, c_iload_n 1, c_invv 75 [] gX4_at mdX4_at, c_astore_n 2, c_aload_n 2, c_ifnull 24 47, c_aload_n 2, c_dup, c_getI 93 6 6, c_bipush 100, c_aload_n 0, c_get3 25 0 4 3, c_getI 46 4 1, c_iload_n 1, c_isub, c_imul, c_iadd, c_putI 93 6 6]
theorem eX0_settle_2 (kb : Co) (a0 a1 : Int) (s : St) : exb (famH (tX0_settle_2 kb) kb) 47 bX0_settle_2 [(3, 0, a0), (0, 0, a1), (7, 0, 0)] [] s = fX0_settle_2 kb a0 a1 s := rfl
noncomputable def bX0_settle_47 : List En := [c_iinc 1 1, c_goto (-48) 2]
theorem eX0_settle_47 (kb : Co) (a0 a1 : Int) (s : St) : exb (famH (tX0_settle_47 kb) kb) 0 bX0_settle_47 [(3, 0, a0), (0, 0, a1), (7, 0, 0)] [] s = fX0_settle_47 kb a0 a1 s := rfl
noncomputable def bX0_settle_53 : List En := [c_aload_n 0, c_aload_n 0, c_get3 25 0 4 3, c_iconst 0, c_invv 96 [] gX4_numberAt mdX4_numberAt, c_putI 35 0 5, c_return]
theorem eX0_settle_53 (kb : Co) (a0 : Int) (s : St) : exb (famH (tX0_settle_53 kb) kb) 0 bX0_settle_53 [(3, 0, a0), (7, 0, 0), (7, 0, 0)] [] s = fX0_settle_53 kb a0 s := rfl
-- Floatparade$Line.goesOn()Z
noncomputable def bX1_goesOn_0 : List En := [c_aload_n 0, c_getI 28 1 6, c_if .eq 14 18, c_aload_n 0, c_getI 32 1 7, c_if .ne 7 18, c_iconst 1, c_goto 4 19]
theorem eX1_goesOn_0 (kb : Co) (a0 : Int) (s : St) : exb (famH (tX1_goesOn_0 kb) kb) 0 bX1_goesOn_0 [(3, 1, a0)] [] s = fX1_goesOn_0 kb a0 s := rfl
noncomputable def bX1_goesOn_18 : List En := [c_iconst 0]
theorem eX1_goesOn_18 (kb : Co) (s : St) : exb (famH (tX1_goesOn_18 kb) kb) 19 bX1_goesOn_18 [(7, 0, 0)] [] s = fX1_goesOn_18 kb s := rfl
noncomputable def bX1_goesOn_19 : List En := [c_zreturn]
theorem eX1_goesOn_19 (kb : Co) (y0 : Int) (s : St) : exb (famH (tX1_goesOn_19 kb) kb) 0 bX1_goesOn_19 [(7, 0, 0)] [(0, 0, y0)] s = fX1_goesOn_19 kb y0 s := rfl
-- Floatparade$Line.partAt(I)LFloatparade$Part;
noncomputable def bX1_partAt_0 : List En := [c_iload_n 1, c_iconst 0, c_aload_n 0, c_getI 35 1 2, c_iconst 1, c_isub, c_invs 38 [] gX11_isWithin mdX11_isWithin, c_if .eq 21 32, c_iload_n 1, c_aload_n 0, c_getC 11 1 28 0, c_alen 28 60, c_icmp .ge 12 32, c_aload_n 0, c_getC 11 1 28 0, c_iload_n 1, c_aald 28 2 60, c_goto 4 33]
theorem eX1_partAt_0 (kb : Co) (a0 a1 : Int) (s : St) : exb (famH (tX1_partAt_0 kb) kb) 0 bX1_partAt_0 [(3, 1, a0), (0, 0, a1)] [] s = fX1_partAt_0 kb a0 a1 s := rfl
noncomputable def bX1_partAt_32 : List En := [c_null 2]
theorem eX1_partAt_32 (kb : Co) (s : St) : exb (famH (tX1_partAt_32 kb) kb) 33 bX1_partAt_32 [(7, 0, 0), (7, 0, 0)] [] s = fX1_partAt_32 kb s := rfl
noncomputable def bX1_partAt_33 : List En := [c_areturn 2]
theorem eX1_partAt_33 (kb : Co) (y0 : Int) (s : St) : exb (famH (tX1_partAt_33 kb) kb) 0 bX1_partAt_33 [(7, 0, 0), (7, 0, 0)] [(2, 2, y0)] s = fX1_partAt_33 kb y0 s := rfl
-- Floatparade$Line.clear()V
noncomputable def bX1_clear_0 : List En := [c_aload_n 0, c_iconst 0, c_putI 35 1 2, c_aload_n 0, c_iconst 0, c_putI 42 1 3, c_aload_n 0, c_iconst 0, c_putZ 28 1 6, c_aload_n 0, c_iconst 0, c_putZ 32 1 7, c_iconst 0, c_istore_n 1]
theorem eX1_clear_0 (kb : Co) (a0 : Int) (s : St) : exb (famH (tX1_clear_0 kb) kb) 22 bX1_clear_0 [(3, 1, a0), (7, 0, 0)] [] s = fX1_clear_0 kb a0 s := rfl
noncomputable def bX1_clear_22 : List En := [c_iload_n 1, c_aload_n 0, c_getC 17 1 29 1, c_alen 29 12, c_icmp .ge 16 44, c_aload_n 0, c_getC 17 1 29 1, c_iload_n 1, c_iconst 0, c_iast 29 12, c_iinc 1 1, c_goto (-19) 22]
theorem eX1_clear_22 (kb : Co) (a0 a1 : Int) (s : St) : exb (famH (tX1_clear_22 kb) kb) 0 bX1_clear_22 [(3, 1, a0), (0, 0, a1)] [] s = fX1_clear_22 kb a0 a1 s := rfl
noncomputable def bX1_clear_44 : List En := [c_return]
theorem eX1_clear_44 (kb : Co) (s : St) : exb (famH (tX1_clear_44 kb) kb) 0 bX1_clear_44 [(7, 0, 0), (7, 0, 0)] [] s = fX1_clear_44 kb s := rfl
-- Floatparade$Society.wagonAt(I)LFloatparade$Wagon;
noncomputable def bX6_wagonAt_0 : List En := [c_iload_n 1, c_iconst 0, c_aload_n 0, c_getI 59 6 10, c_iconst 1, c_isub, c_invs 62 [] gX11_isWithin mdX11_isWithin, c_if .eq 21 32, c_iload_n 1, c_aload_n 0, c_getC 27 6 15 4, c_alen 15 3, c_icmp .ge 12 32, c_aload_n 0, c_getC 27 6 15 4, c_iload_n 1, c_aald 15 10 3, c_goto 4 33]
theorem eX6_wagonAt_0 (kb : Co) (a0 a1 : Int) (s : St) : exb (famH (tX6_wagonAt_0 kb) kb) 0 bX6_wagonAt_0 [(3, 6, a0), (0, 0, a1)] [] s = fX6_wagonAt_0 kb a0 a1 s := rfl
noncomputable def bX6_wagonAt_32 : List En := [c_null 10]
theorem eX6_wagonAt_32 (kb : Co) (s : St) : exb (famH (tX6_wagonAt_32 kb) kb) 33 bX6_wagonAt_32 [(7, 0, 0), (7, 0, 0)] [] s = fX6_wagonAt_32 kb s := rfl
noncomputable def bX6_wagonAt_33 : List En := [c_areturn 10]
theorem eX6_wagonAt_33 (kb : Co) (y0 : Int) (s : St) : exb (famH (tX6_wagonAt_33 kb) kb) 0 bX6_wagonAt_33 [(7, 0, 0), (7, 0, 0)] [(2, 10, y0)] s = fX6_wagonAt_33 kb y0 s := rfl
-- Floatparade$Part.set(LFloatparade$Society;II)V
noncomputable def bX2_set_0 : List En := [c_aload_n 0, c_aload_n 1, c_putR 9 2 6 0, c_aload_n 0, c_iload_n 2, c_putI 15 2 1, c_aload_n 0, c_iload_n 3, c_putI 19 2 3, c_aload_n 0, c_iconst (-1), c_putI 22 2 2, c_aload_n 0, c_iconst 0, c_putI 25 2 4, c_aload_n 0, c_iconst 0, c_putZ 28 2 5, c_return]
theorem eX2_set_0 (kb : Co) (a0 a1 a2 a3 : Int) (s : St) : exb (famH (tX2_set_0 kb) kb) 0 bX2_set_0 [(3, 2, a0), (2, 6, a1), (0, 0, a2), (0, 0, a3)] [] s = fX2_set_0 kb a0 a1 a2 a3 s := rfl
-- Floatparade$Line.append(LFloatparade$Society;II)V
noncomputable def bX1_append_0 : List En := [c_aload_n 0, c_getI 35 1 2, c_iconst 0, c_aload_n 0, c_getC 11 1 28 0, c_alen 28 60, c_iconst 1, c_isub, c_invs 38 [] gX11_isWithin mdX11_isWithin, c_if .ne 4 19, c_return]
theorem eX1_append_0 (kb : Co) (a0 a1 a2 a3 : Int) (s : St) : exb (famH (tX1_append_0 kb) kb) 0 bX1_append_0 [(3, 1, a0), (2, 6, a1), (0, 0, a2), (0, 0, a3), (7, 0, 0)] [] s = fX1_append_0 kb a0 a1 a2 a3 s := rfl
noncomputable def bX1_append_19 : List En := [c_aload_n 0, c_getC 11 1 28 0, c_aload_n 0, c_getI 35 1 2, c_aald 28 2 60, c_ifnonnull 13 41, c_alloc 9 7 2 (by decide) [], c_goto 12 50]
theorem eX1_append_19 (kb : Co) (a0 a1 a2 a3 : Int) (s : St) : exb (famH (tX1_append_19 kb) kb) 0 bX1_append_19 [(3, 1, a0), (2, 6, a1), (0, 0, a2), (0, 0, a3), (7, 0, 0)] [] s = fX1_append_19 kb a0 a1 a2 a3 s := rfl
noncomputable def bX1_append_41 : List En := [c_aload_n 0, c_getC 11 1 28 0, c_aload_n 0, c_getI 35 1 2, c_aald 28 2 60]
theorem eX1_append_41 (kb : Co) (a0 a1 a2 a3 : Int) (s : St) : exb (famH (tX1_append_41 kb) kb) 50 bX1_append_41 [(3, 1, a0), (2, 6, a1), (0, 0, a2), (0, 0, a3), (7, 0, 0)] [] s = fX1_append_41 kb a0 a1 a2 a3 s := rfl
noncomputable def bX1_append_50 : List En := [c_astore 4, c_aload 4, c_aload_n 1, c_iload_n 2, c_iload_n 3, c_invv 82 [] gX2_set mdX2_set, c_aload_n 0, c_getC 11 1 28 0, c_aload_n 0, c_getI 35 1 2, c_aload 4, c_aast 28 2 60, c_aload_n 0, c_dup, c_getI 35 1 2, c_iconst 1, c_iadd, c_putI 35 1 2, c_return]
theorem eX1_append_50 (kb : Co) (a0 a1 a2 a3 y0 : Int) (s : St) : exb (famH (tX1_append_50 kb) kb) 0 bX1_append_50 [(3, 1, a0), (2, 6, a1), (0, 0, a2), (0, 0, a3), (7, 0, 0)] [(2, 2, y0)] s = fX1_append_50 kb a0 a1 a2 a3 y0 s := rfl
-- Floatparade$Society.wingLength()I
noncomputable def bX6_wingLength_0 : List En := [c_aload_n 0, c_getI 44 6 1, c_bipush 10, c_idiv, c_iconst 1, c_iadd, c_bipush 9, c_invs 66 [] gJ9_min_7cf53 mdJ9_min_7cf53, c_ireturn]
theorem eX6_wingLength_0 (kb : Co) (a0 : Int) (s : St) : exb (famH (tX6_wingLength_0 kb) kb) 0 bX6_wingLength_0 [(3, 6, a0)] [] s = fX6_wingLength_0 kb a0 s := rfl
-- Floatparade$Line.lineUp(LFloatparade$Society;)V
noncomputable def bX1_lineUp_0 : List En := [c_iconst 0, c_istore_n 2]
theorem eX1_lineUp_0 (kb : Co) (a0 a1 : Int) (s : St) : exb (famH (tX1_lineUp_0 kb) kb) 2 bX1_lineUp_0 [(3, 1, a0), (2, 6, a1), (7, 0, 0), (7, 0, 0)] [] s = fX1_lineUp_0 kb a0 a1 s := rfl
noncomputable def bX1_lineUp_2 : List En := [c_iload_n 2, c_aload_n 1, c_getI 59 6 10, c_icmp .ge 39 46, c_aload_n 1, c_iload_n 2, c_invv 64 [] gX6_wagonAt mdX6_wagonAt, c_astore_n 3, c_aload_n 3, c_ifnull 23 40, c_aload_n 0, c_aload_n 1, c_iload_n 2, c_aload_n 3, c_getI 68 10 3, c_invv 73 [] gX1_append mdX1_append, c_aload_n 0, c_aload_n 1, c_iconst (-1), c_aload_n 1, c_invv 77 [] gX6_wingLength mdX6_wingLength, c_invv 73 [] gX1_append mdX1_append]
theorem eX1_lineUp_2 (kb : Co) (a0 a1 a2 : Int) (s : St) : exb (famH (tX1_lineUp_2 kb) kb) 40 bX1_lineUp_2 [(3, 1, a0), (2, 6, a1), (0, 0, a2), (7, 0, 0)] [] s = fX1_lineUp_2 kb a0 a1 a2 s := rfl
noncomputable def bX1_lineUp_40 : List En := [c_iinc 2 1, c_goto (-41) 2]
theorem eX1_lineUp_40 (kb : Co) (a0 a1 a2 : Int) (s : St) : exb (famH (tX1_lineUp_40 kb) kb) 0 bX1_lineUp_40 [(3, 1, a0), (2, 6, a1), (0, 0, a2), (7, 0, 0)] [] s = fX1_lineUp_40 kb a0 a1 a2 s := rfl
noncomputable def bX1_lineUp_46 : List En := [c_aload_n 1, c_getI 59 6 10, c_if .ne 13 63, c_aload_n 0, c_aload_n 1, c_iconst (-1), c_aload_n 1, c_invv 77 [] gX6_wingLength mdX6_wingLength, c_invv 73 [] gX1_append mdX1_append]
theorem eX1_lineUp_46 (kb : Co) (a0 a1 : Int) (s : St) : exb (famH (tX1_lineUp_46 kb) kb) 63 bX1_lineUp_46 [(3, 1, a0), (2, 6, a1), (7, 0, 0), (7, 0, 0)] [] s = fX1_lineUp_46 kb a0 a1 s := rfl
noncomputable def bX1_lineUp_63 : List En := [c_return]
theorem eX1_lineUp_63 (kb : Co) (s : St) : exb (famH (tX1_lineUp_63 kb) kb) 0 bX1_lineUp_63 [(7, 0, 0), (7, 0, 0), (7, 0, 0), (7, 0, 0)] [] s = fX1_lineUp_63 kb s := rfl
-- Floatparade$Line.form(LFloatparade$Row;II)I
noncomputable def bX1_form_0 : List En := [c_aload_n 0, c_invv 45 [] gX1_clear mdX1_clear, c_aload_n 0, c_iload_n 2, c_putI 21 1 4, c_aload_n 0, c_iload_n 3, c_putI 25 1 5, c_aload_n 0, c_iconst 1, c_putZ 28 1 6, c_iconst 0, c_istore 4]
theorem eX1_form_0 (kb : Co) (a0 a1 a2 a3 : Int) (s : St) : exb (famH (tX1_form_0 kb) kb) 22 bX1_form_0 [(3, 1, a0), (3, 4, a1), (0, 0, a2), (0, 0, a3), (7, 0, 0), (7, 0, 0)] [] s = fX1_form_0 kb a0 a1 a2 a3 s := rfl
noncomputable def bX1_form_22 : List En := [c_iload 4, c_aload_n 1, c_getI 48 4 1, c_icmp .ge 28 56, c_aload_n 1, c_iload 4, c_invv 51 [] gX4_at mdX4_at, c_astore 5, c_aload 5, c_ifnull 9 50, c_aload_n 0, c_aload 5, c_invv 55 [] gX1_lineUp mdX1_lineUp]
theorem eX1_form_22 (kb : Co) (a0 a1 a4 : Int) (s : St) : exb (famH (tX1_form_22 kb) kb) 50 bX1_form_22 [(3, 1, a0), (3, 4, a1), (7, 0, 0), (7, 0, 0), (0, 0, a4), (7, 0, 0)] [] s = fX1_form_22 kb a0 a1 a4 s := rfl
noncomputable def bX1_form_50 : List En := [c_iinc 4 1, c_goto (-31) 22]
theorem eX1_form_50 (kb : Co) (a0 a1 a4 : Int) (s : St) : exb (famH (tX1_form_50 kb) kb) 0 bX1_form_50 [(3, 1, a0), (3, 4, a1), (7, 0, 0), (7, 0, 0), (0, 0, a4), (7, 0, 0)] [] s = fX1_form_50 kb a0 a1 a4 s := rfl
noncomputable def bX1_form_56 : List En := [c_aload_n 0, c_getI 35 1 2, c_ireturn]
theorem eX1_form_56 (kb : Co) (a0 : Int) (s : St) : exb (famH (tX1_form_56 kb) kb) 0 bX1_form_56 [(3, 1, a0), (7, 0, 0), (7, 0, 0), (7, 0, 0), (7, 0, 0), (7, 0, 0)] [] s = fX1_form_56 kb a0 s := rfl
-- Floatparade$Line.hold(I)V
noncomputable def bX1_hold_0 : List En := [c_iload_n 1, c_iconst 0, c_aload_n 0, c_getC 17 1 29 1, c_alen 29 12, c_iconst 1, c_isub, c_invs 38 [] gX11_isWithin mdX11_isWithin, c_if .eq 10 22, c_aload_n 0, c_getC 17 1 29 1, c_iload_n 1, c_iconst 2, c_iast 29 12]
theorem eX1_hold_0 (kb : Co) (a0 a1 : Int) (s : St) : exb (famH (tX1_hold_0 kb) kb) 22 bX1_hold_0 [(3, 1, a0), (0, 0, a1)] [] s = fX1_hold_0 kb a0 a1 s := rfl
noncomputable def bX1_hold_22 : List En := [c_return]
theorem eX1_hold_22 (kb : Co) (s : St) : exb (famH (tX1_hold_22 kb) kb) 0 bX1_hold_22 [(7, 0, 0), (7, 0, 0)] [] s = fX1_hold_22 kb s := rfl
-- Floatparade$Line.isHeld(I)Z
noncomputable def bX1_isHeld_0 : List En := [c_iload_n 1, c_iconst 0, c_aload_n 0, c_getC 17 1 29 1, c_alen 29 12, c_iconst 1, c_isub, c_invs 38 [] gX11_isWithin mdX11_isWithin, c_if .eq 16 28, c_aload_n 0, c_getC 17 1 29 1, c_iload_n 1, c_iald 29 12, c_if .le 7 28, c_iconst 1, c_goto 4 29]
theorem eX1_isHeld_0 (kb : Co) (a0 a1 : Int) (s : St) : exb (famH (tX1_isHeld_0 kb) kb) 0 bX1_isHeld_0 [(3, 1, a0), (0, 0, a1)] [] s = fX1_isHeld_0 kb a0 a1 s := rfl
noncomputable def bX1_isHeld_28 : List En := [c_iconst 0]
theorem eX1_isHeld_28 (kb : Co) (s : St) : exb (famH (tX1_isHeld_28 kb) kb) 29 bX1_isHeld_28 [(7, 0, 0), (7, 0, 0)] [] s = fX1_isHeld_28 kb s := rfl
noncomputable def bX1_isHeld_29 : List En := [c_zreturn]
theorem eX1_isHeld_29 (kb : Co) (y0 : Int) (s : St) : exb (famH (tX1_isHeld_29 kb) kb) 0 bX1_isHeld_29 [(7, 0, 0), (7, 0, 0)] [(0, 0, y0)] s = fX1_isHeld_29 kb y0 s := rfl
-- Floatparade$Part.tail()I
noncomputable def bX2_tail_0 : List En := [c_aload_n 0, c_getI 22 2 2, c_aload_n 0, c_getI 19 2 3, c_iconst 1, c_isub, c_isub, c_ireturn]
theorem eX2_tail_0 (kb : Co) (a0 : Int) (s : St) : exb (famH (tX2_tail_0 kb) kb) 0 bX2_tail_0 [(3, 2, a0)] [] s = fX2_tail_0 kb a0 s := rfl
-- Floatparade$Line.partsOn(I)I
noncomputable def bX1_partsOn_0 : List En := [c_iconst 0, c_istore_n 2, c_iconst 0, c_istore_n 3]
theorem eX1_partsOn_0 (kb : Co) (a0 a1 : Int) (s : St) : exb (famH (tX1_partsOn_0 kb) kb) 4 bX1_partsOn_0 [(3, 1, a0), (0, 0, a1), (7, 0, 0), (7, 0, 0), (7, 0, 0)] [] s = fX1_partsOn_0 kb a0 a1 s := rfl
noncomputable def bX1_partsOn_4 : List En := [c_iload_n 3, c_aload_n 0, c_getI 35 1 2, c_icmp .ge 50 59, c_aload_n 0, c_iload_n 3, c_invv 85 [] gX1_partAt mdX1_partAt, c_astore 4, c_iload_n 2, c_aload 4, c_ifnull 28 50, c_iload_n 1, c_if .lt 24 50, c_iload_n 1, c_aload 4, c_invv 89 [] gX2_tail mdX2_tail, c_aload 4, c_getI 92 2 2, c_invs 38 [] gX11_isWithin mdX11_isWithin, c_if .eq 7 50, c_iconst 1, c_goto 4 51]
theorem eX1_partsOn_4 (kb : Co) (a0 a1 a2 a3 : Int) (s : St) : exb (famH (tX1_partsOn_4 kb) kb) 0 bX1_partsOn_4 [(3, 1, a0), (0, 0, a1), (0, 0, a2), (0, 0, a3), (7, 0, 0)] [] s = fX1_partsOn_4 kb a0 a1 a2 a3 s := rfl
noncomputable def bX1_partsOn_50 : List En := [c_iconst 0]
theorem eX1_partsOn_50 (kb : Co) (a0 a1 a3 y0 : Int) (s : St) : exb (famH (tX1_partsOn_50 kb) kb) 51 bX1_partsOn_50 [(3, 1, a0), (0, 0, a1), (7, 0, 0), (0, 0, a3), (7, 0, 0)] [(0, 0, y0)] s = fX1_partsOn_50 kb a0 a1 a3 y0 s := rfl
noncomputable def bX1_partsOn_51 : List En := [c_iadd, c_istore_n 2, c_iinc 3 1, c_goto (-52) 4]
theorem eX1_partsOn_51 (kb : Co) (a0 a1 a3 y0 y1 : Int) (s : St) : exb (famH (tX1_partsOn_51 kb) kb) 0 bX1_partsOn_51 [(3, 1, a0), (0, 0, a1), (7, 0, 0), (0, 0, a3), (7, 0, 0)] [(0, 0, y0), (0, 0, y1)] s = fX1_partsOn_51 kb a0 a1 a3 y0 y1 s := rfl
noncomputable def bX1_partsOn_59 : List En := [c_iload_n 2, c_ireturn]
theorem eX1_partsOn_59 (kb : Co) (a2 : Int) (s : St) : exb (famH (tX1_partsOn_59 kb) kb) 0 bX1_partsOn_59 [(7, 0, 0), (7, 0, 0), (0, 0, a2), (7, 0, 0), (7, 0, 0)] [] s = fX1_partsOn_59 kb a2 s := rfl
-- Floatparade$Route.startAtPlace(I)I
noncomputable def bX3_startAtPlace_0 : List En := [c_iload_n 1, c_iconst 0, c_aload_n 0, c_getC 15 3 25 1, c_alen 25 10, c_iconst 1, c_isub, c_invs 28 [] gX11_isWithin mdX11_isWithin, c_if .eq 12 24, c_aload_n 0, c_getC 15 3 25 1, c_iload_n 1, c_iald 25 10, c_goto 4 25]
theorem eX3_startAtPlace_0 (kb : Co) (a0 a1 : Int) (s : St) : exb (famH (tX3_startAtPlace_0 kb) kb) 0 bX3_startAtPlace_0 [(3, 3, a0), (0, 0, a1)] [] s = fX3_startAtPlace_0 kb a0 a1 s := rfl
noncomputable def bX3_startAtPlace_24 : List En := [c_iconst 0]
theorem eX3_startAtPlace_24 (kb : Co) (s : St) : exb (famH (tX3_startAtPlace_24 kb) kb) 25 bX3_startAtPlace_24 [(7, 0, 0), (7, 0, 0)] [] s = fX3_startAtPlace_24 kb s := rfl
noncomputable def bX3_startAtPlace_25 : List En := [c_ireturn]
theorem eX3_startAtPlace_25 (kb : Co) (y0 : Int) (s : St) : exb (famH (tX3_startAtPlace_25 kb) kb) 0 bX3_startAtPlace_25 [(7, 0, 0), (7, 0, 0)] [(0, 0, y0)] s = fX3_startAtPlace_25 kb y0 s := rfl
-- Floatparade$Route.cells()I
noncomputable def bX3_cells_0 : List En := [c_aload_n 0, c_aload_n 0, c_getI 24 3 3, c_iconst 1, c_isub, c_invv 46 [] gX3_startAtPlace mdX3_startAtPlace, c_ireturn]
theorem eX3_cells_0 (kb : Co) (a0 : Int) (s : St) : exb (famH (tX3_cells_0 kb) kb) 0 bX3_cells_0 [(3, 3, a0)] [] s = fX3_cells_0 kb a0 s := rfl
-- Floatparade$Part.isOut(I)Z
noncomputable def bX2_isOut_0 : List En := [c_aload_n 0, c_invv 32 [] gX2_tail mdX2_tail, c_iload_n 1, c_icmp .lt 7 12, c_iconst 1, c_goto 4 13]
theorem eX2_isOut_0 (kb : Co) (a0 a1 : Int) (s : St) : exb (famH (tX2_isOut_0 kb) kb) 0 bX2_isOut_0 [(3, 2, a0), (0, 0, a1)] [] s = fX2_isOut_0 kb a0 a1 s := rfl
noncomputable def bX2_isOut_12 : List En := [c_iconst 0]
theorem eX2_isOut_12 (kb : Co) (s : St) : exb (famH (tX2_isOut_12 kb) kb) 13 bX2_isOut_12 [(7, 0, 0), (7, 0, 0)] [] s = fX2_isOut_12 kb s := rfl
noncomputable def bX2_isOut_13 : List En := [c_zreturn]
theorem eX2_isOut_13 (kb : Co) (y0 : Int) (s : St) : exb (famH (tX2_isOut_13 kb) kb) 0 bX2_isOut_13 [(7, 0, 0), (7, 0, 0)] [(0, 0, y0)] s = fX2_isOut_13 kb y0 s := rfl
-- Floatparade$Part.isReady()Z
noncomputable def bX2_isReady_0 : List En := [c_aload_n 0, c_getI 28 2 5, c_if .ne 14 18, c_aload_n 0, c_getI 25 2 4, c_if .ne 7 18, c_iconst 1, c_goto 4 19]
theorem eX2_isReady_0 (kb : Co) (a0 : Int) (s : St) : exb (famH (tX2_isReady_0 kb) kb) 0 bX2_isReady_0 [(3, 2, a0), (7, 0, 0)] [] s = fX2_isReady_0 kb a0 s := rfl
noncomputable def bX2_isReady_18 : List En := [c_iconst 0]
theorem eX2_isReady_18 (kb : Co) (a0 : Int) (s : St) : exb (famH (tX2_isReady_18 kb) kb) 19 bX2_isReady_18 [(3, 2, a0), (7, 0, 0)] [] s = fX2_isReady_18 kb a0 s := rfl
noncomputable def bX2_isReady_19 : List En := [c_istore_n 1, c_aload_n 0, c_iconst 0, c_putZ 28 2 5, c_iload_n 1, c_zreturn]
theorem eX2_isReady_19 (kb : Co) (a0 y0 : Int) (s : St) : exb (famH (tX2_isReady_19 kb) kb) 0 bX2_isReady_19 [(3, 2, a0), (7, 0, 0)] [(0, 0, y0)] s = fX2_isReady_19 kb a0 y0 s := rfl
-- Floatparade$Part.speed(Z)I
noncomputable def bX2_speed_0 : List En := [c_aload_n 0, c_getI 15 2 1, c_iconst (-1), c_icmp .ne 11 16, c_iload_n 1, c_if .ne 7 16, c_iconst 3, c_goto 4 17]
theorem eX2_speed_0 (kb : Co) (a0 a1 : Int) (s : St) : exb (famH (tX2_speed_0 kb) kb) 0 bX2_speed_0 [(3, 2, a0), (0, 0, a1)] [] s = fX2_speed_0 kb a0 a1 s := rfl
noncomputable def bX2_speed_16 : List En := [c_iconst 2]
theorem eX2_speed_16 (kb : Co) (s : St) : exb (famH (tX2_speed_16 kb) kb) 17 bX2_speed_16 [(7, 0, 0), (7, 0, 0)] [] s = fX2_speed_16 kb s := rfl
noncomputable def bX2_speed_17 : List En := [c_ireturn]
theorem eX2_speed_17 (kb : Co) (y0 : Int) (s : St) : exb (famH (tX2_speed_17 kb) kb) 0 bX2_speed_17 [(7, 0, 0), (7, 0, 0)] [(0, 0, y0)] s = fX2_speed_17 kb y0 s := rfl
-- Floatparade$Route.cornerAt(I)I
noncomputable def bX3_cornerAt_0 : List En := [c_iload_n 1, c_iconst 0, c_aload_n 0, c_getI 24 3 3, c_iconst 1, c_isub, c_invs 28 [] gX11_isWithin mdX11_isWithin, c_if .eq 21 32, c_iload_n 1, c_aload_n 0, c_getC 9 3 24 0, c_alen 24 10, c_icmp .ge 12 32, c_aload_n 0, c_getC 9 3 24 0, c_iload_n 1, c_iald 24 10, c_goto 4 33]
theorem eX3_cornerAt_0 (kb : Co) (a0 a1 : Int) (s : St) : exb (famH (tX3_cornerAt_0 kb) kb) 0 bX3_cornerAt_0 [(3, 3, a0), (0, 0, a1)] [] s = fX3_cornerAt_0 kb a0 a1 s := rfl
noncomputable def bX3_cornerAt_32 : List En := [c_iconst (-1)]
theorem eX3_cornerAt_32 (kb : Co) (s : St) : exb (famH (tX3_cornerAt_32 kb) kb) 33 bX3_cornerAt_32 [(7, 0, 0), (7, 0, 0)] [] s = fX3_cornerAt_32 kb s := rfl
noncomputable def bX3_cornerAt_33 : List En := [c_ireturn]
theorem eX3_cornerAt_33 (kb : Co) (y0 : Int) (s : St) : exb (famH (tX3_cornerAt_33 kb) kb) 0 bX3_cornerAt_33 [(7, 0, 0), (7, 0, 0)] [(0, 0, y0)] s = fX3_cornerAt_33 kb y0 s := rfl
-- Floatparade$Route.cellAt(I)I
noncomputable def bX3_cellAt_0 : List En := [c_iload_n 1, c_aload_n 0, c_getI 24 3 3, c_iconst 1, c_isub, c_icmp .ne 13 20, c_aload_n 0, c_iload_n 1, c_invv 46 [] gX3_startAtPlace mdX3_startAtPlace, c_iconst 1, c_isub, c_goto 8 25]
theorem eX3_cellAt_0 (kb : Co) (a0 a1 : Int) (s : St) : exb (famH (tX3_cellAt_0 kb) kb) 0 bX3_cellAt_0 [(3, 3, a0), (0, 0, a1)] [] s = fX3_cellAt_0 kb a0 a1 s := rfl
noncomputable def bX3_cellAt_20 : List En := [c_aload_n 0, c_iload_n 1, c_invv 46 [] gX3_startAtPlace mdX3_startAtPlace]
theorem eX3_cellAt_20 (kb : Co) (a0 a1 : Int) (s : St) : exb (famH (tX3_cellAt_20 kb) kb) 25 bX3_cellAt_20 [(3, 3, a0), (0, 0, a1)] [] s = fX3_cellAt_20 kb a0 a1 s := rfl
noncomputable def bX3_cellAt_25 : List En := [c_ireturn]
theorem eX3_cellAt_25 (kb : Co) (y0 : Int) (s : St) : exb (famH (tX3_cellAt_25 kb) kb) 0 bX3_cellAt_25 [(7, 0, 0), (7, 0, 0)] [(0, 0, y0)] s = fX3_cellAt_25 kb y0 s := rfl
-- Floatparade$Line.cellBeforeHeld(ILFloatparade$Route;)I
noncomputable def bX1_cellBeforeHeld_0 : List En := [c_ldc 151 2147483647, c_istore_n 3, c_iconst 0, c_istore 4]
theorem eX1_cellBeforeHeld_0 (kb : Co) (a0 a1 a2 : Int) (s : St) : exb (famH (tX1_cellBeforeHeld_0 kb) kb) 6 bX1_cellBeforeHeld_0 [(3, 1, a0), (0, 0, a1), (3, 3, a2), (7, 0, 0), (7, 0, 0)] [] s = fX1_cellBeforeHeld_0 kb a0 a1 a2 s := rfl
noncomputable def bX1_cellBeforeHeld_6 : List En := [c_iload 4, c_aload_n 2, c_getI 152 3 3, c_icmp .ge 45 57, c_aload_n 0, c_aload_n 2, c_iload 4, c_invv 153 [] gX3_cornerAt mdX3_cornerAt, c_invv 157 [] gX1_isHeld mdX1_isHeld, c_if .eq 26 51, c_iload_n 1, c_aload_n 2, c_iload 4, c_invv 160 [] gX3_cellAt mdX3_cellAt, c_icmp .ge 16 51, c_iload_n 3, c_aload_n 2, c_iload 4, c_invv 160 [] gX3_cellAt mdX3_cellAt, c_iconst 1, c_isub, c_invs 129 [] gJ9_min_7cf53 mdJ9_min_7cf53, c_istore_n 3]
theorem eX1_cellBeforeHeld_6 (kb : Co) (a0 a1 a2 a3 a4 : Int) (s : St) : exb (famH (tX1_cellBeforeHeld_6 kb) kb) 51 bX1_cellBeforeHeld_6 [(3, 1, a0), (0, 0, a1), (3, 3, a2), (0, 0, a3), (0, 0, a4)] [] s = fX1_cellBeforeHeld_6 kb a0 a1 a2 a3 a4 s := rfl
noncomputable def bX1_cellBeforeHeld_51 : List En := [c_iinc 4 1, c_goto (-48) 6]
theorem eX1_cellBeforeHeld_51 (kb : Co) (a0 a1 a2 a3 a4 : Int) (s : St) : exb (famH (tX1_cellBeforeHeld_51 kb) kb) 0 bX1_cellBeforeHeld_51 [(3, 1, a0), (0, 0, a1), (3, 3, a2), (0, 0, a3), (0, 0, a4)] [] s = fX1_cellBeforeHeld_51 kb a0 a1 a2 a3 a4 s := rfl
noncomputable def bX1_cellBeforeHeld_57 : List En := [c_iload_n 3, c_ireturn]
theorem eX1_cellBeforeHeld_57 (kb : Co) (a3 : Int) (s : St) : exb (famH (tX1_cellBeforeHeld_57 kb) kb) 0 bX1_cellBeforeHeld_57 [(7, 0, 0), (7, 0, 0), (7, 0, 0), (0, 0, a3), (7, 0, 0)] [] s = fX1_cellBeforeHeld_57 kb a3 s := rfl
-- Floatparade$Town.hasJury(I)Z
noncomputable def bX9_hasJury_0 : List En := [c_iload_n 1, c_iconst 0, c_aload_n 0, c_getC 17 9 23 1, c_alen 23 12, c_iconst 1, c_isub, c_invs 29 [] gX11_isWithin mdX11_isWithin, c_if .eq 16 28, c_aload_n 0, c_getC 17 9 23 1, c_iload_n 1, c_bald 23 12, c_if .eq 7 28, c_iconst 1, c_goto 4 29]
theorem eX9_hasJury_0 (kb : Co) (a0 a1 : Int) (s : St) : exb (famH (tX9_hasJury_0 kb) kb) 0 bX9_hasJury_0 [(3, 9, a0), (0, 0, a1)] [] s = fX9_hasJury_0 kb a0 a1 s := rfl
noncomputable def bX9_hasJury_28 : List En := [c_iconst 0]
theorem eX9_hasJury_28 (kb : Co) (s : St) : exb (famH (tX9_hasJury_28 kb) kb) 29 bX9_hasJury_28 [(7, 0, 0), (7, 0, 0)] [] s = fX9_hasJury_28 kb s := rfl
noncomputable def bX9_hasJury_29 : List En := [c_zreturn]
theorem eX9_hasJury_29 (kb : Co) (y0 : Int) (s : St) : exb (famH (tX9_hasJury_29 kb) kb) 0 bX9_hasJury_29 [(7, 0, 0), (7, 0, 0)] [(0, 0, y0)] s = fX9_hasJury_29 kb y0 s := rfl
-- Floatparade$Line.nextJuryCell(ILFloatparade$Route;LFloatparade$Town;)I
noncomputable def bX1_nextJuryCell_0 : List En := [c_ldc 151 2147483647, c_istore_n 3, c_iconst 0, c_istore 4]
theorem eX1_nextJuryCell_0 (kb : Co) (a0 a1 a2 : Int) (s : St) : exb (famH (tX1_nextJuryCell_0 kb) kb) 6 bX1_nextJuryCell_0 [(0, 0, a0), (3, 3, a1), (3, 9, a2), (7, 0, 0), (7, 0, 0)] [] s = fX1_nextJuryCell_0 kb a0 a1 a2 s := rfl
noncomputable def bX1_nextJuryCell_6 : List En := [c_iload 4, c_aload_n 1, c_getI 152 3 3, c_icmp .ge 43 55, c_aload_n 2, c_aload_n 1, c_iload 4, c_invv 153 [] gX3_cornerAt mdX3_cornerAt, c_invv 163 [] gX9_hasJury mdX9_hasJury, c_if .eq 24 49, c_iload_n 0, c_aload_n 1, c_iload 4, c_invv 160 [] gX3_cellAt mdX3_cellAt, c_icmp .ge 14 49, c_iload_n 3, c_aload_n 1, c_iload 4, c_invv 160 [] gX3_cellAt mdX3_cellAt, c_invs 129 [] gJ9_min_7cf53 mdJ9_min_7cf53, c_istore_n 3]
theorem eX1_nextJuryCell_6 (kb : Co) (a0 a1 a2 a3 a4 : Int) (s : St) : exb (famH (tX1_nextJuryCell_6 kb) kb) 49 bX1_nextJuryCell_6 [(0, 0, a0), (3, 3, a1), (3, 9, a2), (0, 0, a3), (0, 0, a4)] [] s = fX1_nextJuryCell_6 kb a0 a1 a2 a3 a4 s := rfl
noncomputable def bX1_nextJuryCell_49 : List En := [c_iinc 4 1, c_goto (-46) 6]
theorem eX1_nextJuryCell_49 (kb : Co) (a0 a1 a2 a3 a4 : Int) (s : St) : exb (famH (tX1_nextJuryCell_49 kb) kb) 0 bX1_nextJuryCell_49 [(0, 0, a0), (3, 3, a1), (3, 9, a2), (0, 0, a3), (0, 0, a4)] [] s = fX1_nextJuryCell_49 kb a0 a1 a2 a3 a4 s := rfl
noncomputable def bX1_nextJuryCell_55 : List En := [c_iload_n 3, c_ireturn]
theorem eX1_nextJuryCell_55 (kb : Co) (a3 : Int) (s : St) : exb (famH (tX1_nextJuryCell_55 kb) kb) 0 bX1_nextJuryCell_55 [(7, 0, 0), (7, 0, 0), (7, 0, 0), (0, 0, a3), (7, 0, 0)] [] s = fX1_nextJuryCell_55 kb a3 s := rfl
-- Floatparade$Line.advance(ILFloatparade$Route;LFloatparade$Town;Z)V
noncomputable def bX1_advance_0 : List En := [c_aload_n 0, c_iload_n 1, c_invv 85 [] gX1_partAt mdX1_partAt, c_astore 5, c_aload_n 2, c_invv 95 [] gX3_cells mdX3_cells, c_istore 6, c_aload 5, c_ifnull 21 36, c_aload 5, c_iload 6, c_invv 114 [] gX2_isOut mdX2_isOut, c_if .ne 11 36, c_aload 5, c_invv 121 [] gX2_isReady mdX2_isReady, c_if .ne 4 37]
theorem eX1_advance_0 (kb : Co) (a0 a1 a2 a3 a4 : Int) (s : St) : exb (famH (tX1_advance_0 kb) kb) 36 bX1_advance_0 [(3, 1, a0), (0, 0, a1), (3, 3, a2), (3, 9, a3), (0, 0, a4), (7, 0, 0), (7, 0, 0), (7, 0, 0), (7, 0, 0), (7, 0, 0)] [] s = fX1_advance_0 kb a0 a1 a2 a3 a4 s := rfl
noncomputable def bX1_advance_36 : List En := [c_return]
theorem eX1_advance_36 (kb : Co) (s : St) : exb (famH (tX1_advance_36 kb) kb) 0 bX1_advance_36 [(7, 0, 0), (7, 0, 0), (7, 0, 0), (7, 0, 0), (7, 0, 0), (7, 0, 0), (7, 0, 0), (7, 0, 0), (7, 0, 0), (7, 0, 0)] [] s = fX1_advance_36 kb s := rfl
noncomputable def bX1_advance_37 : List En := [c_aload 5, c_getI 92 2 2, c_aload 5, c_iload 4, c_invv 125 [] gX2_speed mdX2_speed, c_iadd, c_istore 7, c_aload_n 0, c_iload_n 1, c_iconst 1, c_isub, c_invv 85 [] gX1_partAt mdX1_partAt, c_astore 8, c_aload 8, c_ifnull 27 90, c_aload 8, c_iload 6, c_invv 114 [] gX2_isOut mdX2_isOut, c_if .ne 17 90, c_iload 7, c_aload 8, c_invv 89 [] gX2_tail mdX2_tail, c_iconst 2, c_isub, c_invs 129 [] gJ9_min_7cf53 mdJ9_min_7cf53, c_istore 7]
theorem eX1_advance_37 (kb : Co) (a0 a1 a2 a3 a4 a5 a6 : Int) (s : St) : exb (famH (tX1_advance_37 kb) kb) 90 bX1_advance_37 [(3, 1, a0), (0, 0, a1), (3, 3, a2), (3, 9, a3), (0, 0, a4), (2, 2, a5), (0, 0, a6), (7, 0, 0), (7, 0, 0), (7, 0, 0)] [] s = fX1_advance_37 kb a0 a1 a2 a3 a4 a5 a6 s := rfl
noncomputable def bX1_advance_90 : List En := [c_iload 7, c_aload_n 0, c_aload 5, c_getI 92 2 2, c_aload_n 2, c_invv 135 [] gX1_cellBeforeHeld mdX1_cellBeforeHeld, c_invs 129 [] gJ9_min_7cf53 mdJ9_min_7cf53, c_istore 7, c_aload 5, c_getI 92 2 2, c_aload_n 2, c_aload_n 3, c_invs 139 [] gX1_nextJuryCell mdX1_nextJuryCell, c_istore 9, c_iload 9, c_iload 7, c_icmp .gt 13 136, c_iload 9, c_istore 7, c_aload 5, c_iconst 1, c_putZ 143 2 5]
theorem eX1_advance_90 (kb : Co) (a0 a2 a3 a5 a7 : Int) (s : St) : exb (famH (tX1_advance_90 kb) kb) 136 bX1_advance_90 [(3, 1, a0), (7, 0, 0), (3, 3, a2), (3, 9, a3), (7, 0, 0), (2, 2, a5), (7, 0, 0), (0, 0, a7), (7, 0, 0), (7, 0, 0)] [] s = fX1_advance_90 kb a0 a2 a3 a5 a7 s := rfl
noncomputable def bX1_advance_136 : List En := [c_aload 5, c_aload 5, c_getI 92 2 2, c_iload 7, c_invs 146 [] gJ9_max_7cf53 mdJ9_max_7cf53, c_putI 92 2 2, c_return]
theorem eX1_advance_136 (kb : Co) (a5 a7 : Int) (s : St) : exb (famH (tX1_advance_136 kb) kb) 0 bX1_advance_136 [(7, 0, 0), (7, 0, 0), (7, 0, 0), (7, 0, 0), (7, 0, 0), (2, 2, a5), (7, 0, 0), (0, 0, a7), (7, 0, 0), (7, 0, 0)] [] s = fX1_advance_136 kb a5 a7 s := rfl
-- Floatparade$Line.countGap(II)V
noncomputable def bX1_countGap_0 : List En := [c_aload_n 0, c_iload_n 1, c_invv 85 [] gX1_partAt mdX1_partAt, c_astore_n 3, c_aload_n 0, c_iload_n 1, c_iconst 1, c_iadd, c_invv 85 [] gX1_partAt mdX1_partAt, c_astore 4, c_aload_n 3, c_ifnull 27 43, c_aload 4, c_ifnull 22 43, c_aload_n 3, c_getR 168 2 6 0, c_ifnull 15 43, c_aload_n 3, c_getR 168 2 6 0, c_aload 4, c_getR 168 2 6 0, c_acmpeq 4 44]
theorem eX1_countGap_0 (kb : Co) (a0 a1 a2 : Int) (s : St) : exb (famH (tX1_countGap_0 kb) kb) 43 bX1_countGap_0 [(3, 1, a0), (0, 0, a1), (0, 0, a2), (7, 0, 0), (7, 0, 0), (7, 0, 0)] [] s = fX1_countGap_0 kb a0 a1 a2 s := rfl
noncomputable def bX1_countGap_43 : List En := [c_return]
theorem eX1_countGap_43 (kb : Co) (s : St) : exb (famH (tX1_countGap_43 kb) kb) 0 bX1_countGap_43 [(7, 0, 0), (7, 0, 0), (7, 0, 0), (7, 0, 0), (7, 0, 0), (7, 0, 0)] [] s = fX1_countGap_43 kb s := rfl
noncomputable def bX1_countGap_44 : List En := [c_aload_n 3, c_getI 92 2 2, c_iconst 0, c_iload_n 2, c_iconst 1, c_isub, c_invs 38 [] gX11_isWithin mdX11_isWithin, c_if .eq 22 77, c_aload 4, c_getI 92 2 2, c_iconst 0, c_iload_n 2, c_iconst 1, c_isub, c_invs 38 [] gX11_isWithin mdX11_isWithin, c_if .eq 7 77, c_iconst 1, c_goto 4 78]
theorem eX1_countGap_44 (kb : Co) (a2 a3 a4 : Int) (s : St) : exb (famH (tX1_countGap_44 kb) kb) 0 bX1_countGap_44 [(7, 0, 0), (7, 0, 0), (0, 0, a2), (2, 2, a3), (2, 2, a4), (7, 0, 0)] [] s = fX1_countGap_44 kb a2 a3 a4 s := rfl
noncomputable def bX1_countGap_77 : List En := [c_iconst 0]
theorem eX1_countGap_77 (kb : Co) (a3 a4 : Int) (s : St) : exb (famH (tX1_countGap_77 kb) kb) 78 bX1_countGap_77 [(7, 0, 0), (7, 0, 0), (7, 0, 0), (2, 2, a3), (2, 2, a4), (7, 0, 0)] [] s = fX1_countGap_77 kb a3 a4 s := rfl
noncomputable def bX1_countGap_78 : List En := [c_istore 5, c_iload 5, c_if .eq 33 115, c_aload_n 3, c_invv 89 [] gX2_tail mdX2_tail, c_aload 4, c_getI 92 2 2, c_isub, c_iconst 1, c_isub, c_bipush 6, c_icmp .le 16 115, c_aload_n 3, c_getR 168 2 6 0, c_dup, c_getI 172 6 14, c_iconst 1, c_iadd, c_putI 172 6 14]
theorem eX1_countGap_78 (kb : Co) (a3 a4 y0 : Int) (s : St) : exb (famH (tX1_countGap_78 kb) kb) 115 bX1_countGap_78 [(7, 0, 0), (7, 0, 0), (7, 0, 0), (2, 2, a3), (2, 2, a4), (7, 0, 0)] [(0, 0, y0)] s = fX1_countGap_78 kb a3 a4 y0 s := rfl
noncomputable def bX1_countGap_115 : List En := [c_return]
theorem eX1_countGap_115 (kb : Co) (s : St) : exb (famH (tX1_countGap_115 kb) kb) 0 bX1_countGap_115 [(7, 0, 0), (7, 0, 0), (7, 0, 0), (7, 0, 0), (7, 0, 0), (7, 0, 0)] [] s = fX1_countGap_115 kb s := rfl
-- Floatparade$Line.isOwner(ILFloatparade$Society;)Z
noncomputable def bX1_isOwner_0 : List En := [c_aload_n 0, c_iload_n 1, c_invv 85 [] gX1_partAt mdX1_partAt, c_astore_n 3, c_aload_n 3, c_ifnull 15 22, c_aload_n 3, c_getR 168 2 6 0, c_aload_n 2, c_acmpne 7 22, c_iconst 1, c_goto 4 23]
theorem eX1_isOwner_0 (kb : Co) (a0 a1 a2 : Int) (s : St) : exb (famH (tX1_isOwner_0 kb) kb) 0 bX1_isOwner_0 [(3, 1, a0), (0, 0, a1), (2, 6, a2), (7, 0, 0)] [] s = fX1_isOwner_0 kb a0 a1 a2 s := rfl
noncomputable def bX1_isOwner_22 : List En := [c_iconst 0]
theorem eX1_isOwner_22 (kb : Co) (s : St) : exb (famH (tX1_isOwner_22 kb) kb) 23 bX1_isOwner_22 [(7, 0, 0), (7, 0, 0), (7, 0, 0), (7, 0, 0)] [] s = fX1_isOwner_22 kb s := rfl
noncomputable def bX1_isOwner_23 : List En := [c_zreturn]
theorem eX1_isOwner_23 (kb : Co) (y0 : Int) (s : St) : exb (famH (tX1_isOwner_23 kb) kb) 0 bX1_isOwner_23 [(7, 0, 0), (7, 0, 0), (7, 0, 0), (7, 0, 0)] [(0, 0, y0)] s = fX1_isOwner_23 kb y0 s := rfl
-- Floatparade$Line.readClock(II)V
noncomputable def bX1_readClock_0 : List En := [c_aload_n 0, c_iload_n 1, c_invv 85 [] gX1_partAt mdX1_partAt, c_astore_n 3, c_aload_n 3, c_ifnonnull 7 14, c_null 6, c_goto 7 18]
theorem eX1_readClock_0 (kb : Co) (a0 a1 a2 : Int) (s : St) : exb (famH (tX1_readClock_0 kb) kb) 0 bX1_readClock_0 [(3, 1, a0), (0, 0, a1), (0, 0, a2), (7, 0, 0), (7, 0, 0)] [] s = fX1_readClock_0 kb a0 a1 a2 s := rfl
noncomputable def bX1_readClock_14 : List En := [c_aload_n 3, c_getR 168 2 6 0]
theorem eX1_readClock_14 (kb : Co) (a0 a1 a2 a3 : Int) (s : St) : exb (famH (tX1_readClock_14 kb) kb) 18 bX1_readClock_14 [(3, 1, a0), (0, 0, a1), (0, 0, a2), (2, 2, a3), (7, 0, 0)] [] s = fX1_readClock_14 kb a0 a1 a2 a3 s := rfl
noncomputable def bX1_readClock_18 : List En := [c_astore 4, c_aload 4, c_ifnonnull 4 26, c_return]
theorem eX1_readClock_18 (kb : Co) (a0 a1 a2 a3 y0 : Int) (s : St) : exb (famH (tX1_readClock_18 kb) kb) 0 bX1_readClock_18 [(3, 1, a0), (0, 0, a1), (0, 0, a2), (2, 2, a3), (7, 0, 0)] [(2, 6, y0)] s = fX1_readClock_18 kb a0 a1 a2 a3 y0 s := rfl
noncomputable def bX1_readClock_26 : List En := [c_aload 4, c_getI 175 6 12, c_iconst (-1), c_icmp .ne 31 63, c_aload_n 3, c_getI 92 2 2, c_if .lt 24 63, c_aload_n 0, c_iload_n 1, c_iconst 1, c_isub, c_aload 4, c_invv 178 [] gX1_isOwner mdX1_isOwner, c_if .ne 12 63, c_aload 4, c_aload_n 0, c_getI 42 1 3, c_putI 175 6 12]
theorem eX1_readClock_26 (kb : Co) (a0 a1 a2 a3 a4 : Int) (s : St) : exb (famH (tX1_readClock_26 kb) kb) 63 bX1_readClock_26 [(3, 1, a0), (0, 0, a1), (0, 0, a2), (2, 2, a3), (2, 6, a4)] [] s = fX1_readClock_26 kb a0 a1 a2 a3 a4 s := rfl
noncomputable def bX1_readClock_63 : List En := [c_aload 4, c_getI 182 6 13, c_iconst (-1), c_icmp .ne 32 101, c_aload_n 3, c_iload_n 2, c_invv 114 [] gX2_isOut mdX2_isOut, c_if .eq 24 101, c_aload_n 0, c_iload_n 1, c_iconst 1, c_iadd, c_aload 4, c_invv 178 [] gX1_isOwner mdX1_isOwner, c_if .ne 12 101, c_aload 4, c_aload_n 0, c_getI 42 1 3, c_putI 182 6 13]
theorem eX1_readClock_63 (kb : Co) (a0 a1 a2 a3 a4 : Int) (s : St) : exb (famH (tX1_readClock_63 kb) kb) 101 bX1_readClock_63 [(3, 1, a0), (0, 0, a1), (0, 0, a2), (2, 2, a3), (2, 6, a4)] [] s = fX1_readClock_63 kb a0 a1 a2 a3 a4 s := rfl
noncomputable def bX1_readClock_101 : List En := [c_return]
theorem eX1_readClock_101 (kb : Co) (s : St) : exb (famH (tX1_readClock_101 kb) kb) 0 bX1_readClock_101 [(7, 0, 0), (7, 0, 0), (7, 0, 0), (7, 0, 0), (7, 0, 0)] [] s = fX1_readClock_101 kb s := rfl
-- Floatparade$Line.passHolds()V
noncomputable def bX1_passHolds_0 : List En := [c_iconst 0, c_istore_n 1]
theorem eX1_passHolds_0 (kb : Co) (a0 : Int) (s : St) : exb (famH (tX1_passHolds_0 kb) kb) 2 bX1_passHolds_0 [(3, 1, a0), (7, 0, 0), (7, 0, 0)] [] s = fX1_passHolds_0 kb a0 s := rfl
noncomputable def bX1_passHolds_2 : List En := [c_iload_n 1, c_aload_n 0, c_getI 35 1 2, c_icmp .ge 33 40, c_aload_n 0, c_iload_n 1, c_invv 85 [] gX1_partAt mdX1_partAt, c_astore_n 2, c_aload_n 2, c_ifnull 17 34, c_aload_n 2, c_iconst 0, c_aload_n 2, c_getI 185 2 4, c_iconst 1, c_isub, c_invs 146 [] gJ9_max_7cf53 mdJ9_max_7cf53, c_putI 185 2 4]
theorem eX1_passHolds_2 (kb : Co) (a0 a1 : Int) (s : St) : exb (famH (tX1_passHolds_2 kb) kb) 34 bX1_passHolds_2 [(3, 1, a0), (0, 0, a1), (7, 0, 0)] [] s = fX1_passHolds_2 kb a0 a1 s := rfl
noncomputable def bX1_passHolds_34 : List En := [c_iinc 1 1, c_goto (-35) 2]
theorem eX1_passHolds_34 (kb : Co) (a0 a1 : Int) (s : St) : exb (famH (tX1_passHolds_34 kb) kb) 0 bX1_passHolds_34 [(3, 1, a0), (0, 0, a1), (7, 0, 0)] [] s = fX1_passHolds_34 kb a0 a1 s := rfl
noncomputable def bX1_passHolds_40 : List En := [c_iconst 0, c_istore_n 1]
theorem eX1_passHolds_40 (kb : Co) (a0 : Int) (s : St) : exb (famH (tX1_passHolds_40 kb) kb) 42 bX1_passHolds_40 [(3, 1, a0), (7, 0, 0), (7, 0, 0)] [] s = fX1_passHolds_40 kb a0 s := rfl
noncomputable def bX1_passHolds_42 : List En := [c_iload_n 1, c_aload_n 0, c_getC 17 1 29 1, c_alen 29 12, c_icmp .ge 27 75, c_aload_n 0, c_getC 17 1 29 1, c_iload_n 1, c_iconst 0, c_aload_n 0, c_getC 17 1 29 1, c_iload_n 1, c_iald 29 12, c_iconst 1, c_isub, c_invs 146 [] gJ9_max_7cf53 mdJ9_max_7cf53, c_iast 29 12, c_iinc 1 1, c_goto (-30) 42]
theorem eX1_passHolds_42 (kb : Co) (a0 a1 : Int) (s : St) : exb (famH (tX1_passHolds_42 kb) kb) 0 bX1_passHolds_42 [(3, 1, a0), (0, 0, a1), (7, 0, 0)] [] s = fX1_passHolds_42 kb a0 a1 s := rfl
noncomputable def bX1_passHolds_75 : List En := [c_return]
theorem eX1_passHolds_75 (kb : Co) (s : St) : exb (famH (tX1_passHolds_75 kb) kb) 0 bX1_passHolds_75 [(7, 0, 0), (7, 0, 0), (7, 0, 0)] [] s = fX1_passHolds_75 kb s := rfl
-- Floatparade$Society.time()I
noncomputable def bX6_time_0 : List En := [c_aload_n 0, c_getI 35 6 13, c_iconst (-1), c_icmp .ne 7 12, c_iconst (-1), c_goto 14 23]
theorem eX6_time_0 (kb : Co) (a0 : Int) (s : St) : exb (famH (tX6_time_0 kb) kb) 0 bX6_time_0 [(3, 6, a0)] [] s = fX6_time_0 kb a0 s := rfl
noncomputable def bX6_time_12 : List En := [c_aload_n 0, c_getI 35 6 13, c_aload_n 0, c_getI 31 6 12, c_isub, c_iconst 1, c_iadd]
theorem eX6_time_12 (kb : Co) (a0 : Int) (s : St) : exb (famH (tX6_time_12 kb) kb) 23 bX6_time_12 [(3, 6, a0)] [] s = fX6_time_12 kb a0 s := rfl
noncomputable def bX6_time_23 : List En := [c_ireturn]
theorem eX6_time_23 (kb : Co) (y0 : Int) (s : St) : exb (famH (tX6_time_23 kb) kb) 0 bX6_time_23 [(7, 0, 0)] [(0, 0, y0)] s = fX6_time_23 kb y0 s := rfl
-- Floatparade$Score.punish(II)V
noncomputable def bX5_punish_0 : List En := [c_aload_n 0, c_getI 41 5 4, c_istore_n 3, c_iload_n 3, c_iconst 0, c_bipush 19, c_invs 45 [] gX11_isWithin mdX11_isWithin, c_if .ne 4 16, c_return]
theorem eX5_punish_0 (kb : Co) (a0 a1 a2 : Int) (s : St) : exb (famH (tX5_punish_0 kb) kb) 0 bX5_punish_0 [(3, 5, a0), (0, 0, a1), (0, 0, a2), (7, 0, 0)] [] s = fX5_punish_0 kb a0 a1 a2 s := rfl
noncomputable def bX5_punish_16 : List En := [c_aload_n 0, c_getC 15 5 19 1, c_iload_n 3, c_iload_n 1, c_iast 19 20, c_aload_n 0, c_getC 18 5 20 2, c_iload_n 3, c_iload_n 2, c_iast 20 20, c_aload_n 0, c_getC 21 5 21 3, c_iload_n 3, c_iconst 0, c_bast 21 20, c_aload_n 0, c_iload_n 3, c_iconst 1, c_iadd, c_putI 41 5 4, c_return]
theorem eX5_punish_16 (kb : Co) (a0 a1 a2 a3 : Int) (s : St) : exb (famH (tX5_punish_16 kb) kb) 0 bX5_punish_16 [(3, 5, a0), (0, 0, a1), (0, 0, a2), (0, 0, a3)] [] s = fX5_punish_16 kb a0 a1 a2 a3 s := rfl
-- Floatparade$Society.punishIfAny(II)V
noncomputable def bX6_punishIfAny_0 : List En := [c_iload_n 2, c_if .le 12 13, c_aload_n 0, c_getC 21 6 5 3, c_iload_n 1, c_iload_n 2, c_invv 102 [] gX5_punish mdX5_punish]
theorem eX6_punishIfAny_0 (kb : Co) (a0 a1 a2 : Int) (s : St) : exb (famH (tX6_punishIfAny_0 kb) kb) 13 bX6_punishIfAny_0 [(3, 6, a0), (0, 0, a1), (0, 0, a2)] [] s = fX6_punishIfAny_0 kb a0 a1 a2 s := rfl
noncomputable def bX6_punishIfAny_13 : List En := [c_return]
theorem eX6_punishIfAny_13 (kb : Co) (s : St) : exb (famH (tX6_punishIfAny_13 kb) kb) 0 bX6_punishIfAny_13 [(7, 0, 0), (7, 0, 0), (7, 0, 0)] [] s = fX6_punishIfAny_13 kb s := rfl
-- Floatparade$Society.punishForMarch(II)V
noncomputable def bX6_punishForMarch_0 : List En := [c_aload_n 0, c_invv 92 [] gX6_time mdX6_time, c_istore_n 3, c_aload_n 0, c_iconst 1, c_iconst 2, c_iload_n 1, c_iload_n 3, c_isub, c_imul, c_invv 95 [] gX6_punishIfAny mdX6_punishIfAny, c_aload_n 0, c_iconst 2, c_iconst 2, c_iload_n 3, c_iload_n 2, c_isub, c_imul, c_invv 95 [] gX6_punishIfAny mdX6_punishIfAny, c_aload_n 0, c_iconst 3, c_aload_n 0, c_getI 99 6 14, c_invv 95 [] gX6_punishIfAny mdX6_punishIfAny, c_return]
theorem eX6_punishForMarch_0 (kb : Co) (a0 a1 a2 : Int) (s : St) : exb (famH (tX6_punishForMarch_0 kb) kb) 0 bX6_punishForMarch_0 [(3, 6, a0), (0, 0, a1), (0, 0, a2), (7, 0, 0)] [] s = fX6_punishForMarch_0 kb a0 a1 a2 s := rfl
-- Floatparade$Line.end()V
noncomputable def bX1_end_0 : List En := [c_aload_n 0, c_iconst 1, c_putZ 32 1 7, c_iconst 0, c_istore_n 1]
theorem eX1_end_0 (kb : Co) (a0 : Int) (s : St) : exb (famH (tX1_end_0 kb) kb) 7 bX1_end_0 [(3, 1, a0), (7, 0, 0), (7, 0, 0)] [] s = fX1_end_0 kb a0 s := rfl
noncomputable def bX1_end_7 : List En := [c_iload_n 1, c_aload_n 0, c_getI 35 1 2, c_icmp .ge 55 67, c_aload_n 0, c_iload_n 1, c_invv 85 [] gX1_partAt mdX1_partAt, c_astore_n 2, c_aload_n 2, c_ifnull 39 61, c_aload_n 2, c_getR 168 2 6 0, c_ifnull 32 61, c_aload_n 0, c_iload_n 1, c_iconst 1, c_isub, c_aload_n 2, c_getR 168 2 6 0, c_invv 178 [] gX1_isOwner mdX1_isOwner, c_if .ne 18 61, c_aload_n 2, c_getR 168 2 6 0, c_aload_n 0, c_getI 21 1 4, c_aload_n 0, c_getI 25 1 5, c_invv 188 [] gX6_punishForMarch mdX6_punishForMarch]
theorem eX1_end_7 (kb : Co) (a0 a1 : Int) (s : St) : exb (famH (tX1_end_7 kb) kb) 61 bX1_end_7 [(3, 1, a0), (0, 0, a1), (7, 0, 0)] [] s = fX1_end_7 kb a0 a1 s := rfl
noncomputable def bX1_end_61 : List En := [c_iinc 1 1, c_goto (-57) 7]
theorem eX1_end_61 (kb : Co) (a0 a1 : Int) (s : St) : exb (famH (tX1_end_61 kb) kb) 0 bX1_end_61 [(3, 1, a0), (0, 0, a1), (7, 0, 0)] [] s = fX1_end_61 kb a0 a1 s := rfl
noncomputable def bX1_end_67 : List En := [c_return]
theorem eX1_end_67 (kb : Co) (s : St) : exb (famH (tX1_end_67 kb) kb) 0 bX1_end_67 [(7, 0, 0), (7, 0, 0), (7, 0, 0)] [] s = fX1_end_67 kb s := rfl
-- Floatparade$Line.passMinute(LFloatparade$Route;LFloatparade$Town;Z)V
noncomputable def bX1_passMinute_0 : List En := [c_aload_n 0, c_dup, c_getI 42 1 3, c_iconst 1, c_iadd, c_putI 42 1 3, c_aload_n 1, c_invv 95 [] gX3_cells mdX3_cells, c_istore 4, c_iconst 0, c_istore 5]
theorem eX1_passMinute_0 (kb : Co) (a0 a1 a2 a3 : Int) (s : St) : exb (famH (tX1_passMinute_0 kb) kb) 19 bX1_passMinute_0 [(3, 1, a0), (3, 3, a1), (3, 9, a2), (0, 0, a3), (7, 0, 0), (7, 0, 0)] [] s = fX1_passMinute_0 kb a0 a1 a2 a3 s := rfl
noncomputable def bX1_passMinute_19 : List En := [c_iload 5, c_aload_n 0, c_getI 35 1 2, c_icmp .ge 18 43, c_aload_n 0, c_iload 5, c_aload_n 1, c_aload_n 2, c_iload_n 3, c_invv 100 [] gX1_advance mdX1_advance, c_iinc 5 1, c_goto (-21) 19]
theorem eX1_passMinute_19 (kb : Co) (a0 a1 a2 a3 a4 a5 : Int) (s : St) : exb (famH (tX1_passMinute_19 kb) kb) 0 bX1_passMinute_19 [(3, 1, a0), (3, 3, a1), (3, 9, a2), (0, 0, a3), (0, 0, a4), (0, 0, a5)] [] s = fX1_passMinute_19 kb a0 a1 a2 a3 a4 a5 s := rfl
noncomputable def bX1_passMinute_43 : List En := [c_iconst 0, c_istore 5]
theorem eX1_passMinute_43 (kb : Co) (a0 a4 : Int) (s : St) : exb (famH (tX1_passMinute_43 kb) kb) 46 bX1_passMinute_43 [(3, 1, a0), (7, 0, 0), (7, 0, 0), (7, 0, 0), (0, 0, a4), (7, 0, 0)] [] s = fX1_passMinute_43 kb a0 a4 s := rfl
noncomputable def bX1_passMinute_46 : List En := [c_iload 5, c_aload_n 0, c_getI 35 1 2, c_icmp .ge 25 77, c_aload_n 0, c_iload 5, c_iload 4, c_invv 104 [] gX1_countGap mdX1_countGap, c_aload_n 0, c_iload 5, c_iload 4, c_invv 108 [] gX1_readClock mdX1_readClock, c_iinc 5 1, c_goto (-28) 46]
theorem eX1_passMinute_46 (kb : Co) (a0 a4 a5 : Int) (s : St) : exb (famH (tX1_passMinute_46 kb) kb) 0 bX1_passMinute_46 [(3, 1, a0), (7, 0, 0), (7, 0, 0), (7, 0, 0), (0, 0, a4), (0, 0, a5)] [] s = fX1_passMinute_46 kb a0 a4 a5 s := rfl
noncomputable def bX1_passMinute_77 : List En := [c_aload_n 0, c_invv 111 [] gX1_passHolds mdX1_passHolds, c_aload_n 0, c_aload_n 0, c_getI 35 1 2, c_iconst 1, c_isub, c_invv 85 [] gX1_partAt mdX1_partAt, c_astore 5, c_aload 5, c_ifnull 13 108, c_aload 5, c_iload 4, c_invv 114 [] gX2_isOut mdX2_isOut, c_if .eq 7 112]
theorem eX1_passMinute_77 (kb : Co) (a0 a4 : Int) (s : St) : exb (famH (tX1_passMinute_77 kb) kb) 108 bX1_passMinute_77 [(3, 1, a0), (7, 0, 0), (7, 0, 0), (7, 0, 0), (0, 0, a4), (7, 0, 0)] [] s = fX1_passMinute_77 kb a0 a4 s := rfl
noncomputable def bX1_passMinute_108 : List En := [c_aload_n 0, c_invv 118 [] gX1_end mdX1_end]
theorem eX1_passMinute_108 (kb : Co) (a0 : Int) (s : St) : exb (famH (tX1_passMinute_108 kb) kb) 112 bX1_passMinute_108 [(3, 1, a0), (7, 0, 0), (7, 0, 0), (7, 0, 0), (7, 0, 0), (7, 0, 0)] [] s = fX1_passMinute_108 kb a0 s := rfl
noncomputable def bX1_passMinute_112 : List En := [c_return]
theorem eX1_passMinute_112 (kb : Co) (s : St) : exb (famH (tX1_passMinute_112 kb) kb) 0 bX1_passMinute_112 [(7, 0, 0), (7, 0, 0), (7, 0, 0), (7, 0, 0), (7, 0, 0), (7, 0, 0)] [] s = fX1_passMinute_112 kb s := rfl
-- Floatparade$Part.tell(II)I
noncomputable def bX2_tell_0 : List En := [c_iload_n 1, c_tsw (.tableswitch 65 0 3 #[31, 50, 55, 60]) (fun _ _ _ _ _ _ _ => rfl) 31 66 [0, 1, 2, 3] [32, 51, 56, 61]]
theorem eX2_tell_0 (kb : Co) (a0 a1 a2 : Int) (s : St) : exb (famH (tX2_tell_0 kb) kb) 0 bX2_tell_0 [(3, 2, a0), (0, 0, a1), (0, 0, a2)] [] s = fX2_tell_0 kb a0 a1 a2 s := rfl
noncomputable def bX2_tell_32 : List En := [c_aload_n 0, c_getR 9 2 6 0, c_ifnonnull 7 43, c_iconst (-1), c_goto 10 50]
theorem eX2_tell_32 (kb : Co) (a0 : Int) (s : St) : exb (famH (tX2_tell_32 kb) kb) 0 bX2_tell_32 [(3, 2, a0), (7, 0, 0), (7, 0, 0)] [] s = fX2_tell_32 kb a0 s := rfl
noncomputable def bX2_tell_43 : List En := [c_aload_n 0, c_getR 9 2 6 0, c_getI 36 6 0]
theorem eX2_tell_43 (kb : Co) (a0 : Int) (s : St) : exb (famH (tX2_tell_43 kb) kb) 50 bX2_tell_43 [(3, 2, a0), (7, 0, 0), (7, 0, 0)] [] s = fX2_tell_43 kb a0 s := rfl
noncomputable def bX2_tell_50 : List En := [c_ireturn]
theorem eX2_tell_50 (kb : Co) (y0 : Int) (s : St) : exb (famH (tX2_tell_50 kb) kb) 0 bX2_tell_50 [(7, 0, 0), (7, 0, 0), (7, 0, 0)] [(0, 0, y0)] s = fX2_tell_50 kb y0 s := rfl
noncomputable def bX2_tell_51 : List En := [c_aload_n 0, c_getI 15 2 1, c_ireturn]
theorem eX2_tell_51 (kb : Co) (a0 : Int) (s : St) : exb (famH (tX2_tell_51 kb) kb) 0 bX2_tell_51 [(3, 2, a0), (7, 0, 0), (7, 0, 0)] [] s = fX2_tell_51 kb a0 s := rfl
noncomputable def bX2_tell_56 : List En := [c_aload_n 0, c_getI 22 2 2, c_ireturn]
theorem eX2_tell_56 (kb : Co) (a0 : Int) (s : St) : exb (famH (tX2_tell_56 kb) kb) 0 bX2_tell_56 [(3, 2, a0), (7, 0, 0), (7, 0, 0)] [] s = fX2_tell_56 kb a0 s := rfl
noncomputable def bX2_tell_61 : List En := [c_aload_n 0, c_getI 19 2 3, c_ireturn]
theorem eX2_tell_61 (kb : Co) (a0 : Int) (s : St) : exb (famH (tX2_tell_61 kb) kb) 0 bX2_tell_61 [(3, 2, a0), (7, 0, 0), (7, 0, 0)] [] s = fX2_tell_61 kb a0 s := rfl
noncomputable def bX2_tell_66 : List En := [c_aload_n 0, c_iload_n 2, c_invv 41 [] gX2_isOut mdX2_isOut, c_if .eq 7 78, c_iconst 1, c_goto 4 79]
theorem eX2_tell_66 (kb : Co) (a0 a2 : Int) (s : St) : exb (famH (tX2_tell_66 kb) kb) 0 bX2_tell_66 [(3, 2, a0), (7, 0, 0), (0, 0, a2)] [] s = fX2_tell_66 kb a0 a2 s := rfl
noncomputable def bX2_tell_78 : List En := [c_iconst 0]
theorem eX2_tell_78 (kb : Co) (s : St) : exb (famH (tX2_tell_78 kb) kb) 79 bX2_tell_78 [(7, 0, 0), (7, 0, 0), (7, 0, 0)] [] s = fX2_tell_78 kb s := rfl
noncomputable def bX2_tell_79 : List En := [c_ireturn]
theorem eX2_tell_79 (kb : Co) (y0 : Int) (s : St) : exb (famH (tX2_tell_79 kb) kb) 0 bX2_tell_79 [(7, 0, 0), (7, 0, 0), (7, 0, 0)] [(0, 0, y0)] s = fX2_tell_79 kb y0 s := rfl
-- Floatparade$Route.startAt(I)V
noncomputable def bX3_startAt_0 : List En := [c_aload_n 0, c_getC 9 3 24 0, c_iconst 0, c_iload_n 1, c_iast 24 10, c_aload_n 0, c_iconst 1, c_putI 24 3 3, c_return]
theorem eX3_startAt_0 (kb : Co) (a0 a1 : Int) (s : St) : exb (famH (tX3_startAt_0 kb) kb) 0 bX3_startAt_0 [(3, 3, a0), (0, 0, a1)] [] s = fX3_startAt_0 kb a0 a1 s := rfl
-- Floatparade$Route.streetTo(I)LFloatparade$Street;
noncomputable def bX3_streetTo_0 : List En := [c_iload_n 1, c_iconst 1, c_aload_n 0, c_getI 24 3 3, c_iconst 1, c_isub, c_invs 28 [] gX11_isWithin mdX11_isWithin, c_if .eq 21 32, c_iload_n 1, c_aload_n 0, c_getC 20 3 26 2, c_alen 26 10, c_icmp .ge 12 32, c_aload_n 0, c_getC 20 3 26 2, c_iload_n 1, c_aald 26 8 10, c_goto 4 33]
theorem eX3_streetTo_0 (kb : Co) (a0 a1 : Int) (s : St) : exb (famH (tX3_streetTo_0 kb) kb) 0 bX3_streetTo_0 [(3, 3, a0), (0, 0, a1)] [] s = fX3_streetTo_0 kb a0 a1 s := rfl
noncomputable def bX3_streetTo_32 : List En := [c_null 8]
theorem eX3_streetTo_32 (kb : Co) (s : St) : exb (famH (tX3_streetTo_32 kb) kb) 33 bX3_streetTo_32 [(7, 0, 0), (7, 0, 0)] [] s = fX3_streetTo_32 kb s := rfl
noncomputable def bX3_streetTo_33 : List En := [c_areturn 8]
theorem eX3_streetTo_33 (kb : Co) (y0 : Int) (s : St) : exb (famH (tX3_streetTo_33 kb) kb) 0 bX3_streetTo_33 [(7, 0, 0), (7, 0, 0)] [(2, 8, y0)] s = fX3_streetTo_33 kb y0 s := rfl
-- Floatparade$Route.lastCorner()I
noncomputable def bX3_lastCorner_0 : List En := [c_aload_n 0, c_aload_n 0, c_getI 24 3 3, c_iconst 1, c_isub, c_invv 32 [] gX3_cornerAt mdX3_cornerAt, c_ireturn]
theorem eX3_lastCorner_0 (kb : Co) (a0 : Int) (s : St) : exb (famH (tX3_lastCorner_0 kb) kb) 0 bX3_lastCorner_0 [(3, 3, a0)] [] s = fX3_lastCorner_0 kb a0 s := rfl
-- Floatparade$Route.placeOf(I)I
noncomputable def bX3_placeOf_0 : List En := [c_iconst 0, c_istore_n 2]
theorem eX3_placeOf_0 (kb : Co) (a0 a1 : Int) (s : St) : exb (famH (tX3_placeOf_0 kb) kb) 2 bX3_placeOf_0 [(3, 3, a0), (0, 0, a1), (7, 0, 0)] [] s = fX3_placeOf_0 kb a0 a1 s := rfl
noncomputable def bX3_placeOf_2 : List En := [c_iload_n 2, c_aload_n 0, c_getI 24 3 3, c_icmp .ge 20 27, c_aload_n 0, c_iload_n 2, c_invv 32 [] gX3_cornerAt mdX3_cornerAt, c_iload_n 1, c_icmp .ne 5 21, c_iload_n 2, c_ireturn]
theorem eX3_placeOf_2 (kb : Co) (a0 a1 a2 : Int) (s : St) : exb (famH (tX3_placeOf_2 kb) kb) 0 bX3_placeOf_2 [(3, 3, a0), (0, 0, a1), (0, 0, a2)] [] s = fX3_placeOf_2 kb a0 a1 a2 s := rfl
noncomputable def bX3_placeOf_21 : List En := [c_iinc 2 1, c_goto (-22) 2]
theorem eX3_placeOf_21 (kb : Co) (a0 a1 a2 : Int) (s : St) : exb (famH (tX3_placeOf_21 kb) kb) 0 bX3_placeOf_21 [(3, 3, a0), (0, 0, a1), (0, 0, a2)] [] s = fX3_placeOf_21 kb a0 a1 a2 s := rfl
noncomputable def bX3_placeOf_27 : List En := [c_iconst (-1), c_ireturn]
theorem eX3_placeOf_27 (kb : Co) (s : St) : exb (famH (tX3_placeOf_27 kb) kb) 0 bX3_placeOf_27 [(7, 0, 0), (7, 0, 0), (7, 0, 0)] [] s = fX3_placeOf_27 kb s := rfl
-- Floatparade$Route.mayTake(I)Z
noncomputable def bX3_mayTake_0 : List En := [c_aload_n 0, c_getI 24 3 3, c_if .le 25 29, c_aload_n 0, c_getI 24 3 3, c_bipush 10, c_icmp .ge 16 29, c_aload_n 0, c_iload_n 1, c_invv 36 [] gX3_placeOf mdX3_placeOf, c_iconst (-1), c_icmp .ne 7 29, c_iconst 1, c_goto 4 30]
theorem eX3_mayTake_0 (kb : Co) (a0 a1 : Int) (s : St) : exb (famH (tX3_mayTake_0 kb) kb) 0 bX3_mayTake_0 [(3, 3, a0), (0, 0, a1)] [] s = fX3_mayTake_0 kb a0 a1 s := rfl
noncomputable def bX3_mayTake_29 : List En := [c_iconst 0]
theorem eX3_mayTake_29 (kb : Co) (s : St) : exb (famH (tX3_mayTake_29 kb) kb) 30 bX3_mayTake_29 [(7, 0, 0), (7, 0, 0)] [] s = fX3_mayTake_29 kb s := rfl
noncomputable def bX3_mayTake_30 : List En := [c_zreturn]
theorem eX3_mayTake_30 (kb : Co) (y0 : Int) (s : St) : exb (famH (tX3_mayTake_30 kb) kb) 0 bX3_mayTake_30 [(7, 0, 0), (7, 0, 0)] [(0, 0, y0)] s = fX3_mayTake_30 kb y0 s := rfl
-- Floatparade$Route.lead(ILFloatparade$Street;)I
noncomputable def bX3_lead_0 : List En := [c_aload_n 0, c_getI 24 3 3, c_istore_n 3, c_iload_n 3, c_iconst 1, c_bipush 9, c_invs 28 [] gX11_isWithin mdX11_isWithin, c_if .eq 43 55, c_aload_n 0, c_getC 9 3 24 0, c_iload_n 3, c_iload_n 1, c_iast 24 10, c_aload_n 0, c_getC 20 3 26 2, c_iload_n 3, c_aload_n 2, c_aast 26 8 10, c_aload_n 0, c_getC 15 3 25 1, c_iload_n 3, c_aload_n 0, c_getC 15 3 25 1, c_iload_n 3, c_iconst 1, c_isub, c_iald 25 10, c_aload_n 2, c_getI 39 8 2, c_iadd, c_iast 25 10, c_aload_n 0, c_iload_n 3, c_iconst 1, c_iadd, c_putI 24 3 3]
theorem eX3_lead_0 (kb : Co) (a0 a1 a2 : Int) (s : St) : exb (famH (tX3_lead_0 kb) kb) 55 bX3_lead_0 [(3, 3, a0), (0, 0, a1), (2, 8, a2), (7, 0, 0)] [] s = fX3_lead_0 kb a0 a1 a2 s := rfl
noncomputable def bX3_lead_55 : List En := [c_aload_n 0, c_invv 42 [] gX3_cells mdX3_cells, c_ireturn]
theorem eX3_lead_55 (kb : Co) (a0 : Int) (s : St) : exb (famH (tX3_lead_55 kb) kb) 0 bX3_lead_55 [(3, 3, a0), (7, 0, 0), (7, 0, 0), (7, 0, 0)] [] s = fX3_lead_55 kb a0 s := rfl
-- Floatparade$Route.cellOf(I)I
noncomputable def bX3_cellOf_0 : List En := [c_aload_n 0, c_iload_n 1, c_invv 36 [] gX3_placeOf mdX3_placeOf, c_istore_n 2, c_iload_n 2, c_iconst (-1), c_icmp .ne 7 15, c_iconst (-1), c_goto 8 20]
theorem eX3_cellOf_0 (kb : Co) (a0 a1 : Int) (s : St) : exb (famH (tX3_cellOf_0 kb) kb) 0 bX3_cellOf_0 [(3, 3, a0), (0, 0, a1), (7, 0, 0)] [] s = fX3_cellOf_0 kb a0 a1 s := rfl
noncomputable def bX3_cellOf_15 : List En := [c_aload_n 0, c_iload_n 2, c_invv 49 [] gX3_cellAt mdX3_cellAt]
theorem eX3_cellOf_15 (kb : Co) (a0 a2 : Int) (s : St) : exb (famH (tX3_cellOf_15 kb) kb) 20 bX3_cellOf_15 [(3, 3, a0), (7, 0, 0), (0, 0, a2)] [] s = fX3_cellOf_15 kb a0 a2 s := rfl
noncomputable def bX3_cellOf_20 : List En := [c_ireturn]
theorem eX3_cellOf_20 (kb : Co) (y0 : Int) (s : St) : exb (famH (tX3_cellOf_20 kb) kb) 0 bX3_cellOf_20 [(7, 0, 0), (7, 0, 0), (7, 0, 0)] [(0, 0, y0)] s = fX3_cellOf_20 kb y0 s := rfl
-- Floatparade$Street.lets(LFloatparade$Wagon;)Z
noncomputable def bX8_lets_0 : List En := [c_aload_n 1, c_getI 28 10 0, c_aload_n 0, c_getI 19 8 3, c_iconst 2, c_isub, c_icmp .gt 31 41, c_aload_n 1, c_getI 31 10 1, c_aload_n 0, c_getI 22 8 4, c_iconst 1, c_isub, c_icmp .gt 18 41, c_aload_n 1, c_getI 34 10 2, c_aload_n 0, c_getI 25 8 5, c_icmp .gt 7 41, c_iconst 1, c_goto 4 42]
theorem eX8_lets_0 (kb : Co) (a0 a1 : Int) (s : St) : exb (famH (tX8_lets_0 kb) kb) 0 bX8_lets_0 [(3, 8, a0), (2, 10, a1)] [] s = fX8_lets_0 kb a0 a1 s := rfl
noncomputable def bX8_lets_41 : List En := [c_iconst 0]
theorem eX8_lets_41 (kb : Co) (s : St) : exb (famH (tX8_lets_41 kb) kb) 42 bX8_lets_41 [(7, 0, 0), (7, 0, 0)] [] s = fX8_lets_41 kb s := rfl
noncomputable def bX8_lets_42 : List En := [c_zreturn]
theorem eX8_lets_42 (kb : Co) (y0 : Int) (s : St) : exb (famH (tX8_lets_42 kb) kb) 0 bX8_lets_42 [(7, 0, 0), (7, 0, 0)] [(0, 0, y0)] s = fX8_lets_42 kb y0 s := rfl
-- Floatparade$Route.lets(LFloatparade$Wagon;)Z
noncomputable def bX3_lets_0 : List En := [c_iconst 1, c_istore_n 2]
theorem eX3_lets_0 (kb : Co) (a0 a1 : Int) (s : St) : exb (famH (tX3_lets_0 kb) kb) 2 bX3_lets_0 [(3, 3, a0), (2, 10, a1), (7, 0, 0), (7, 0, 0), (7, 0, 0)] [] s = fX3_lets_0 kb a0 a1 s := rfl
noncomputable def bX3_lets_2 : List En := [c_iload_n 2, c_aload_n 0, c_getI 24 3 3, c_icmp .ge 60 67, c_aload_n 0, c_iload_n 2, c_invv 52 [] gX3_streetTo mdX3_streetTo, c_astore_n 3, c_aload_n 0, c_iload_n 2, c_iconst 1, c_isub, c_invv 52 [] gX3_streetTo mdX3_streetTo, c_astore 4, c_aload_n 3, c_ifnull 33 59, c_aload_n 3, c_aload_n 1, c_invv 56 [] gX8_lets mdX8_lets, c_if .eq 25 59, c_aload 4, c_ifnull 22 61, c_aload_n 1, c_getI 60 10 3, c_aload 4, c_getI 63 8 3, c_aload_n 3, c_getI 63 8 3, c_iadd, c_icmp .le 5 61]
theorem eX3_lets_2 (kb : Co) (a0 a1 a2 : Int) (s : St) : exb (famH (tX3_lets_2 kb) kb) 59 bX3_lets_2 [(3, 3, a0), (2, 10, a1), (0, 0, a2), (7, 0, 0), (7, 0, 0)] [] s = fX3_lets_2 kb a0 a1 a2 s := rfl
noncomputable def bX3_lets_59 : List En := [c_iconst 0, c_zreturn]
theorem eX3_lets_59 (kb : Co) (s : St) : exb (famH (tX3_lets_59 kb) kb) 0 bX3_lets_59 [(7, 0, 0), (7, 0, 0), (7, 0, 0), (7, 0, 0), (7, 0, 0)] [] s = fX3_lets_59 kb s := rfl
noncomputable def bX3_lets_61 : List En := [c_iinc 2 1, c_goto (-62) 2]
theorem eX3_lets_61 (kb : Co) (a0 a1 a2 : Int) (s : St) : exb (famH (tX3_lets_61 kb) kb) 0 bX3_lets_61 [(3, 3, a0), (2, 10, a1), (0, 0, a2), (7, 0, 0), (7, 0, 0)] [] s = fX3_lets_61 kb a0 a1 a2 s := rfl
noncomputable def bX3_lets_67 : List En := [c_aload_n 0, c_getI 24 3 3, c_iconst 1, c_icmp .le 7 79, c_iconst 1, c_goto 4 80]
theorem eX3_lets_67 (kb : Co) (a0 : Int) (s : St) : exb (famH (tX3_lets_67 kb) kb) 0 bX3_lets_67 [(3, 3, a0), (7, 0, 0), (7, 0, 0), (7, 0, 0), (7, 0, 0)] [] s = fX3_lets_67 kb a0 s := rfl
noncomputable def bX3_lets_79 : List En := [c_iconst 0]
theorem eX3_lets_79 (kb : Co) (s : St) : exb (famH (tX3_lets_79 kb) kb) 80 bX3_lets_79 [(7, 0, 0), (7, 0, 0), (7, 0, 0), (7, 0, 0), (7, 0, 0)] [] s = fX3_lets_79 kb s := rfl
noncomputable def bX3_lets_80 : List En := [c_zreturn]
theorem eX3_lets_80 (kb : Co) (y0 : Int) (s : St) : exb (famH (tX3_lets_80 kb) kb) 0 bX3_lets_80 [(7, 0, 0), (7, 0, 0), (7, 0, 0), (7, 0, 0), (7, 0, 0)] [(0, 0, y0)] s = fX3_lets_80 kb y0 s := rfl
-- Floatparade$Route.letsAll(LFloatparade$Society;)Z
noncomputable def bX3_letsAll_0 : List En := [c_iconst 0, c_istore_n 2]
theorem eX3_letsAll_0 (kb : Co) (a0 a1 : Int) (s : St) : exb (famH (tX3_letsAll_0 kb) kb) 2 bX3_letsAll_0 [(3, 3, a0), (2, 6, a1), (7, 0, 0), (7, 0, 0)] [] s = fX3_letsAll_0 kb a0 a1 s := rfl
noncomputable def bX3_letsAll_2 : List En := [c_iload_n 2, c_aload_n 1, c_getI 66 6 10, c_icmp .ge 29 36, c_aload_n 1, c_iload_n 2, c_invv 71 [] gX6_wagonAt mdX6_wagonAt, c_astore_n 3, c_aload_n 3, c_ifnull 13 30, c_aload_n 0, c_aload_n 3, c_invv 75 [] gX3_lets mdX3_lets, c_if .ne 5 30, c_iconst 0, c_zreturn]
theorem eX3_letsAll_2 (kb : Co) (a0 a1 a2 : Int) (s : St) : exb (famH (tX3_letsAll_2 kb) kb) 0 bX3_letsAll_2 [(3, 3, a0), (2, 6, a1), (0, 0, a2), (7, 0, 0)] [] s = fX3_letsAll_2 kb a0 a1 a2 s := rfl
noncomputable def bX3_letsAll_30 : List En := [c_iinc 2 1, c_goto (-31) 2]
theorem eX3_letsAll_30 (kb : Co) (a0 a1 a2 : Int) (s : St) : exb (famH (tX3_letsAll_30 kb) kb) 0 bX3_letsAll_30 [(3, 3, a0), (2, 6, a1), (0, 0, a2), (7, 0, 0)] [] s = fX3_letsAll_30 kb a0 a1 a2 s := rfl
noncomputable def bX3_letsAll_36 : List En := [c_aload_n 0, c_getI 24 3 3, c_iconst 1, c_icmp .le 7 48, c_iconst 1, c_goto 4 49]
theorem eX3_letsAll_36 (kb : Co) (a0 : Int) (s : St) : exb (famH (tX3_letsAll_36 kb) kb) 0 bX3_letsAll_36 [(3, 3, a0), (7, 0, 0), (7, 0, 0), (7, 0, 0)] [] s = fX3_letsAll_36 kb a0 s := rfl
noncomputable def bX3_letsAll_48 : List En := [c_iconst 0]
theorem eX3_letsAll_48 (kb : Co) (s : St) : exb (famH (tX3_letsAll_48 kb) kb) 49 bX3_letsAll_48 [(7, 0, 0), (7, 0, 0), (7, 0, 0), (7, 0, 0)] [] s = fX3_letsAll_48 kb s := rfl
noncomputable def bX3_letsAll_49 : List En := [c_zreturn]
theorem eX3_letsAll_49 (kb : Co) (y0 : Int) (s : St) : exb (famH (tX3_letsAll_49 kb) kb) 0 bX3_letsAll_49 [(7, 0, 0), (7, 0, 0), (7, 0, 0), (7, 0, 0)] [(0, 0, y0)] s = fX3_letsAll_49 kb y0 s := rfl
-- Floatparade$Row.placeOf(LFloatparade$Society;)I
noncomputable def bX4_placeOf_0 : List En := [c_iconst 0, c_istore_n 2]
theorem eX4_placeOf_0 (kb : Co) (a0 a1 : Int) (s : St) : exb (famH (tX4_placeOf_0 kb) kb) 2 bX4_placeOf_0 [(3, 4, a0), (2, 6, a1), (7, 0, 0)] [] s = fX4_placeOf_0 kb a0 a1 s := rfl
noncomputable def bX4_placeOf_2 : List En := [c_iload_n 2, c_aload_n 0, c_getI 17 4 1, c_icmp .ge 20 27, c_aload_n 0, c_iload_n 2, c_invv 25 [] gX4_at mdX4_at, c_aload_n 1, c_acmpne 5 21, c_iload_n 2, c_ireturn]
theorem eX4_placeOf_2 (kb : Co) (a0 a1 a2 : Int) (s : St) : exb (famH (tX4_placeOf_2 kb) kb) 0 bX4_placeOf_2 [(3, 4, a0), (2, 6, a1), (0, 0, a2)] [] s = fX4_placeOf_2 kb a0 a1 a2 s := rfl
noncomputable def bX4_placeOf_21 : List En := [c_iinc 2 1, c_goto (-22) 2]
theorem eX4_placeOf_21 (kb : Co) (a0 a1 a2 : Int) (s : St) : exb (famH (tX4_placeOf_21 kb) kb) 0 bX4_placeOf_21 [(3, 4, a0), (2, 6, a1), (0, 0, a2)] [] s = fX4_placeOf_21 kb a0 a1 a2 s := rfl
noncomputable def bX4_placeOf_27 : List En := [c_iconst (-1), c_ireturn]
theorem eX4_placeOf_27 (kb : Co) (s : St) : exb (famH (tX4_placeOf_27 kb) kb) 0 bX4_placeOf_27 [(7, 0, 0), (7, 0, 0), (7, 0, 0)] [] s = fX4_placeOf_27 kb s := rfl
-- Floatparade$Row.placeBefore(III)I
noncomputable def bX4_placeBefore_0 : List En := [c_iload_n 0, c_iload_n 1, c_icmp .ne 5 7, c_iload_n 2, c_ireturn]
theorem eX4_placeBefore_0 (kb : Co) (a0 a1 a2 : Int) (s : St) : exb (famH (tX4_placeBefore_0 kb) kb) 0 bX4_placeBefore_0 [(0, 0, a0), (0, 0, a1), (0, 0, a2)] [] s = fX4_placeBefore_0 kb a0 a1 a2 s := rfl
noncomputable def bX4_placeBefore_7 : List En := [c_iload_n 0, c_iload_n 2, c_icmp .ne 7 16, c_iload_n 1, c_goto 4 17]
theorem eX4_placeBefore_7 (kb : Co) (a0 a1 a2 : Int) (s : St) : exb (famH (tX4_placeBefore_7 kb) kb) 0 bX4_placeBefore_7 [(0, 0, a0), (0, 0, a1), (0, 0, a2)] [] s = fX4_placeBefore_7 kb a0 a1 a2 s := rfl
noncomputable def bX4_placeBefore_16 : List En := [c_iload_n 0]
theorem eX4_placeBefore_16 (kb : Co) (a0 : Int) (s : St) : exb (famH (tX4_placeBefore_16 kb) kb) 17 bX4_placeBefore_16 [(0, 0, a0), (7, 0, 0), (7, 0, 0)] [] s = fX4_placeBefore_16 kb a0 s := rfl
noncomputable def bX4_placeBefore_17 : List En := [c_ireturn]
theorem eX4_placeBefore_17 (kb : Co) (y0 : Int) (s : St) : exb (famH (tX4_placeBefore_17 kb) kb) 0 bX4_placeBefore_17 [(7, 0, 0), (7, 0, 0), (7, 0, 0)] [(0, 0, y0)] s = fX4_placeBefore_17 kb y0 s := rfl
-- java/lang/Math.abs(I)I
noncomputable def bJ9_abs_0f7a4_0 : List En := [c_iload_n 0, c_if .ge 8 9, c_iload_n 0, c_ineg, c_goto 4 10]
theorem eJ9_abs_0f7a4_0 (kb : Co) (a0 : Int) (s : St) : exb (famH (tJ9_abs_0f7a4_0 kb) kb) 0 bJ9_abs_0f7a4_0 [(0, 0, a0)] [] s = fJ9_abs_0f7a4_0 kb a0 s := rfl
noncomputable def bJ9_abs_0f7a4_9 : List En := [c_iload_n 0]
theorem eJ9_abs_0f7a4_9 (kb : Co) (a0 : Int) (s : St) : exb (famH (tJ9_abs_0f7a4_9 kb) kb) 10 bJ9_abs_0f7a4_9 [(0, 0, a0)] [] s = fJ9_abs_0f7a4_9 kb a0 s := rfl
noncomputable def bJ9_abs_0f7a4_10 : List En := [c_ireturn]
theorem eJ9_abs_0f7a4_10 (kb : Co) (y0 : Int) (s : St) : exb (famH (tJ9_abs_0f7a4_10 kb) kb) 0 bJ9_abs_0f7a4_10 [(7, 0, 0)] [(0, 0, y0)] s = fJ9_abs_0f7a4_10 kb y0 s := rfl
-- Floatparade$Row.changePlaces(LFloatparade$Society;LFloatparade$Society;)Z
noncomputable def bX4_changePlaces_0 : List En := [c_aload_n 0, c_aload_n 1, c_invv 48 [] gX4_placeOf mdX4_placeOf, c_istore_n 3, c_aload_n 0, c_aload_n 2, c_invv 48 [] gX4_placeOf mdX4_placeOf, c_istore 4, c_aload_n 0, c_iload_n 3, c_iload 4, c_invv 44 [] gX4_swap mdX4_swap, c_iconst 0, c_istore 5]
theorem eX4_changePlaces_0 (kb : Co) (a0 a1 a2 : Int) (s : St) : exb (famH (tX4_changePlaces_0 kb) kb) 23 bX4_changePlaces_0 [(3, 4, a0), (2, 6, a1), (2, 6, a2), (7, 0, 0), (7, 0, 0), (7, 0, 0), (7, 0, 0), (7, 0, 0)] [] s = fX4_changePlaces_0 kb a0 a1 a2 s := rfl
noncomputable def bX4_changePlaces_23 : List En := [c_iload 5, c_iconst 1, c_iadd, c_aload_n 0, c_getI 17 4 1, c_icmp .ge 61 92, c_iload 5, c_iload_n 3, c_iload 4, c_invs 52 [] gX4_placeBefore mdX4_placeBefore, c_istore 6, c_iload 5, c_iconst 1, c_iadd, c_iload_n 3, c_iload 4, c_invs 52 [] gX4_placeBefore mdX4_placeBefore, c_istore 7, c_aload_n 0, c_iload 5, c_invv 36 [] gX4_isFeudAt mdX4_isFeudAt, c_if .eq 24 86, c_iload 6, c_iload 7, c_isub, c_invs 56 [] gJ9_abs_0f7a4 mdJ9_abs_0f7a4, c_iconst 1, c_icmp .eq 12 86, c_aload_n 0, c_iload_n 3, c_iload 4, c_invv 44 [] gX4_swap mdX4_swap, c_iconst 0, c_zreturn]
theorem eX4_changePlaces_23 (kb : Co) (a0 a3 a4 a5 : Int) (s : St) : exb (famH (tX4_changePlaces_23 kb) kb) 0 bX4_changePlaces_23 [(3, 4, a0), (7, 0, 0), (7, 0, 0), (0, 0, a3), (0, 0, a4), (0, 0, a5), (7, 0, 0), (7, 0, 0)] [] s = fX4_changePlaces_23 kb a0 a3 a4 a5 s := rfl
noncomputable def bX4_changePlaces_86 : List En := [c_iinc 5 1, c_goto (-66) 23]
theorem eX4_changePlaces_86 (kb : Co) (a0 a3 a4 a5 : Int) (s : St) : exb (famH (tX4_changePlaces_86 kb) kb) 0 bX4_changePlaces_86 [(3, 4, a0), (7, 0, 0), (7, 0, 0), (0, 0, a3), (0, 0, a4), (0, 0, a5), (7, 0, 0), (7, 0, 0)] [] s = fX4_changePlaces_86 kb a0 a3 a4 a5 s := rfl
noncomputable def bX4_changePlaces_92 : List En := [c_iconst 1, c_zreturn]
theorem eX4_changePlaces_92 (kb : Co) (s : St) : exb (famH (tX4_changePlaces_92 kb) kb) 0 bX4_changePlaces_92 [(7, 0, 0), (7, 0, 0), (7, 0, 0), (7, 0, 0), (7, 0, 0), (7, 0, 0), (7, 0, 0), (7, 0, 0)] [] s = fX4_changePlaces_92 kb s := rfl
-- Floatparade$Score.setNote(III)V
noncomputable def bX5_setNote_0 : List En := [c_iload_n 1, c_iconst 5, c_imul, c_iload_n 2, c_iadd, c_istore 4, c_iload 4, c_if .lt 21 30, c_iload 4, c_aload_n 0, c_getC 9 5 18 0, c_alen 18 20, c_icmp .ge 11 30, c_aload_n 0, c_getC 9 5 18 0, c_iload 4, c_iload_n 3, c_iast 18 20]
theorem eX5_setNote_0 (kb : Co) (a0 a1 a2 a3 : Int) (s : St) : exb (famH (tX5_setNote_0 kb) kb) 30 bX5_setNote_0 [(3, 5, a0), (0, 0, a1), (0, 0, a2), (0, 0, a3), (7, 0, 0)] [] s = fX5_setNote_0 kb a0 a1 a2 a3 s := rfl
noncomputable def bX5_setNote_30 : List En := [c_return]
theorem eX5_setNote_30 (kb : Co) (s : St) : exb (famH (tX5_setNote_30 kb) kb) 0 bX5_setNote_30 [(7, 0, 0), (7, 0, 0), (7, 0, 0), (7, 0, 0), (7, 0, 0)] [] s = fX5_setNote_30 kb s := rfl
-- Floatparade$Score.isDoubtful(II)Z
noncomputable def bX5_isDoubtful_0 : List En := [c_iconst 0, c_istore_n 3, c_iconst 0, c_istore 4, c_iconst 0, c_istore 5]
theorem eX5_isDoubtful_0 (kb : Co) (a0 a1 a2 : Int) (s : St) : exb (famH (tX5_isDoubtful_0 kb) kb) 8 bX5_isDoubtful_0 [(3, 5, a0), (0, 0, a1), (0, 0, a2), (7, 0, 0), (7, 0, 0), (7, 0, 0), (7, 0, 0)] [] s = fX5_isDoubtful_0 kb a0 a1 a2 s := rfl
noncomputable def bX5_isDoubtful_8 : List En := [c_iload 5, c_iconst 4, c_icmp .ge 37 48, c_aload_n 0, c_iload 5, c_iload_n 2, c_invv 25 [] gX5_noteBy mdX5_noteBy, c_istore 6, c_iload 5, c_iload_n 1, c_icmp .eq 16 42, c_iload 6, c_if .le 11 42, c_iload_n 3, c_iload 6, c_iadd, c_istore_n 3, c_iinc 4 1]
theorem eX5_isDoubtful_8 (kb : Co) (a0 a1 a2 a3 a4 a5 : Int) (s : St) : exb (famH (tX5_isDoubtful_8 kb) kb) 42 bX5_isDoubtful_8 [(3, 5, a0), (0, 0, a1), (0, 0, a2), (0, 0, a3), (0, 0, a4), (0, 0, a5), (7, 0, 0)] [] s = fX5_isDoubtful_8 kb a0 a1 a2 a3 a4 a5 s := rfl
noncomputable def bX5_isDoubtful_42 : List En := [c_iinc 5 1, c_goto (-37) 8]
theorem eX5_isDoubtful_42 (kb : Co) (a0 a1 a2 a3 a4 a5 : Int) (s : St) : exb (famH (tX5_isDoubtful_42 kb) kb) 0 bX5_isDoubtful_42 [(3, 5, a0), (0, 0, a1), (0, 0, a2), (0, 0, a3), (0, 0, a4), (0, 0, a5), (7, 0, 0)] [] s = fX5_isDoubtful_42 kb a0 a1 a2 a3 a4 a5 s := rfl
noncomputable def bX5_isDoubtful_48 : List En := [c_iload 4, c_if .le 23 73, c_aload_n 0, c_iload_n 1, c_iload_n 2, c_invv 25 [] gX5_noteBy mdX5_noteBy, c_iload_n 3, c_iload 4, c_idiv, c_bipush 15, c_iadd, c_icmp .lt 7 73, c_iconst 1, c_goto 4 74]
theorem eX5_isDoubtful_48 (kb : Co) (a0 a1 a2 a3 a4 : Int) (s : St) : exb (famH (tX5_isDoubtful_48 kb) kb) 0 bX5_isDoubtful_48 [(3, 5, a0), (0, 0, a1), (0, 0, a2), (0, 0, a3), (0, 0, a4), (7, 0, 0), (7, 0, 0)] [] s = fX5_isDoubtful_48 kb a0 a1 a2 a3 a4 s := rfl
noncomputable def bX5_isDoubtful_73 : List En := [c_iconst 0]
theorem eX5_isDoubtful_73 (kb : Co) (s : St) : exb (famH (tX5_isDoubtful_73 kb) kb) 74 bX5_isDoubtful_73 [(7, 0, 0), (7, 0, 0), (7, 0, 0), (7, 0, 0), (7, 0, 0), (7, 0, 0), (7, 0, 0)] [] s = fX5_isDoubtful_73 kb s := rfl
noncomputable def bX5_isDoubtful_74 : List En := [c_zreturn]
theorem eX5_isDoubtful_74 (kb : Co) (y0 : Int) (s : St) : exb (famH (tX5_isDoubtful_74 kb) kb) 0 bX5_isDoubtful_74 [(7, 0, 0), (7, 0, 0), (7, 0, 0), (7, 0, 0), (7, 0, 0), (7, 0, 0), (7, 0, 0)] [(0, 0, y0)] s = fX5_isDoubtful_74 kb y0 s := rfl
-- Floatparade$Score.castsDoubtOn(I)Z
noncomputable def bX5_castsDoubtOn_0 : List En := [c_iconst 0, c_istore_n 2, c_iconst 0, c_istore_n 3]
theorem eX5_castsDoubtOn_0 (kb : Co) (a0 a1 : Int) (s : St) : exb (famH (tX5_castsDoubtOn_0 kb) kb) 4 bX5_castsDoubtOn_0 [(3, 5, a0), (0, 0, a1), (7, 0, 0), (7, 0, 0)] [] s = fX5_castsDoubtOn_0 kb a0 a1 s := rfl
noncomputable def bX5_castsDoubtOn_4 : List En := [c_iload_n 3, c_iconst 5, c_icmp .ge 26 32, c_iload_n 2, c_aload_n 0, c_iload_n 1, c_iload_n 3, c_invv 37 [] gX5_isDoubtful mdX5_isDoubtful, c_if .eq 7 23, c_iconst 1, c_goto 4 24]
theorem eX5_castsDoubtOn_4 (kb : Co) (a0 a1 a2 a3 : Int) (s : St) : exb (famH (tX5_castsDoubtOn_4 kb) kb) 0 bX5_castsDoubtOn_4 [(3, 5, a0), (0, 0, a1), (0, 0, a2), (0, 0, a3)] [] s = fX5_castsDoubtOn_4 kb a0 a1 a2 a3 s := rfl
noncomputable def bX5_castsDoubtOn_23 : List En := [c_iconst 0]
theorem eX5_castsDoubtOn_23 (kb : Co) (a0 a1 a3 y0 : Int) (s : St) : exb (famH (tX5_castsDoubtOn_23 kb) kb) 24 bX5_castsDoubtOn_23 [(3, 5, a0), (0, 0, a1), (7, 0, 0), (0, 0, a3)] [(0, 0, y0)] s = fX5_castsDoubtOn_23 kb a0 a1 a3 y0 s := rfl
noncomputable def bX5_castsDoubtOn_24 : List En := [c_iadd, c_istore_n 2, c_iinc 3 1, c_goto (-25) 4]
theorem eX5_castsDoubtOn_24 (kb : Co) (a0 a1 a3 y0 y1 : Int) (s : St) : exb (famH (tX5_castsDoubtOn_24 kb) kb) 0 bX5_castsDoubtOn_24 [(3, 5, a0), (0, 0, a1), (7, 0, 0), (0, 0, a3)] [(0, 0, y0), (0, 0, y1)] s = fX5_castsDoubtOn_24 kb a0 a1 a3 y0 y1 s := rfl
noncomputable def bX5_castsDoubtOn_32 : List En := [c_iload_n 2, c_iconst 3, c_icmp .lt 7 41, c_iconst 1, c_goto 4 42]
theorem eX5_castsDoubtOn_32 (kb : Co) (a2 : Int) (s : St) : exb (famH (tX5_castsDoubtOn_32 kb) kb) 0 bX5_castsDoubtOn_32 [(7, 0, 0), (7, 0, 0), (0, 0, a2), (7, 0, 0)] [] s = fX5_castsDoubtOn_32 kb a2 s := rfl
noncomputable def bX5_castsDoubtOn_41 : List En := [c_iconst 0]
theorem eX5_castsDoubtOn_41 (kb : Co) (s : St) : exb (famH (tX5_castsDoubtOn_41 kb) kb) 42 bX5_castsDoubtOn_41 [(7, 0, 0), (7, 0, 0), (7, 0, 0), (7, 0, 0)] [] s = fX5_castsDoubtOn_41 kb s := rfl
noncomputable def bX5_castsDoubtOn_42 : List En := [c_zreturn]
theorem eX5_castsDoubtOn_42 (kb : Co) (y0 : Int) (s : St) : exb (famH (tX5_castsDoubtOn_42 kb) kb) 0 bX5_castsDoubtOn_42 [(7, 0, 0), (7, 0, 0), (7, 0, 0), (7, 0, 0)] [(0, 0, y0)] s = fX5_castsDoubtOn_42 kb y0 s := rfl
-- Floatparade$Score.isFull()Z
noncomputable def bX5_isFull_0 : List En := [c_aload_n 0, c_getI 41 5 4, c_bipush 20, c_icmp .lt 7 13, c_iconst 1, c_goto 4 14]
theorem eX5_isFull_0 (kb : Co) (a0 : Int) (s : St) : exb (famH (tX5_isFull_0 kb) kb) 0 bX5_isFull_0 [(3, 5, a0)] [] s = fX5_isFull_0 kb a0 s := rfl
noncomputable def bX5_isFull_13 : List En := [c_iconst 0]
theorem eX5_isFull_13 (kb : Co) (s : St) : exb (famH (tX5_isFull_13 kb) kb) 14 bX5_isFull_13 [(7, 0, 0)] [] s = fX5_isFull_13 kb s := rfl
noncomputable def bX5_isFull_14 : List En := [c_zreturn]
theorem eX5_isFull_14 (kb : Co) (y0 : Int) (s : St) : exb (famH (tX5_isFull_14 kb) kb) 0 bX5_isFull_14 [(7, 0, 0)] [(0, 0, y0)] s = fX5_isFull_14 kb y0 s := rfl
-- Floatparade$Score.isAppealed(I)Z
noncomputable def bX5_isAppealed_0 : List En := [c_aload_n 0, c_iload_n 1, c_invv 49 [] gX5_hasPenalty mdX5_hasPenalty, c_if .eq 16 21, c_aload_n 0, c_getC 21 5 21 3, c_iload_n 1, c_bald 21 20, c_if .eq 7 21, c_iconst 1, c_goto 4 22]
theorem eX5_isAppealed_0 (kb : Co) (a0 a1 : Int) (s : St) : exb (famH (tX5_isAppealed_0 kb) kb) 0 bX5_isAppealed_0 [(3, 5, a0), (0, 0, a1)] [] s = fX5_isAppealed_0 kb a0 a1 s := rfl
noncomputable def bX5_isAppealed_21 : List En := [c_iconst 0]
theorem eX5_isAppealed_21 (kb : Co) (s : St) : exb (famH (tX5_isAppealed_21 kb) kb) 22 bX5_isAppealed_21 [(7, 0, 0), (7, 0, 0)] [] s = fX5_isAppealed_21 kb s := rfl
noncomputable def bX5_isAppealed_22 : List En := [c_zreturn]
theorem eX5_isAppealed_22 (kb : Co) (y0 : Int) (s : St) : exb (famH (tX5_isAppealed_22 kb) kb) 0 bX5_isAppealed_22 [(7, 0, 0), (7, 0, 0)] [(0, 0, y0)] s = fX5_isAppealed_22 kb y0 s := rfl
-- Floatparade$Score.appealAway(I)V
noncomputable def bX5_appealAway_0 : List En := [c_aload_n 0, c_iload_n 1, c_invv 49 [] gX5_hasPenalty mdX5_hasPenalty, c_if .eq 10 15, c_aload_n 0, c_getC 21 5 21 3, c_iload_n 1, c_iconst 1, c_bast 21 20]
theorem eX5_appealAway_0 (kb : Co) (a0 a1 : Int) (s : St) : exb (famH (tX5_appealAway_0 kb) kb) 15 bX5_appealAway_0 [(3, 5, a0), (0, 0, a1)] [] s = fX5_appealAway_0 kb a0 a1 s := rfl
noncomputable def bX5_appealAway_15 : List En := [c_return]
theorem eX5_appealAway_15 (kb : Co) (s : St) : exb (famH (tX5_appealAway_15 kb) kb) 0 bX5_appealAway_15 [(7, 0, 0), (7, 0, 0)] [] s = fX5_appealAway_15 kb s := rfl
-- Floatparade$Score.tellPenalty(II)I
noncomputable def bX5_tellPenalty_0 : List En := [c_aload_n 0, c_iload_n 1, c_invv 49 [] gX5_hasPenalty mdX5_hasPenalty, c_if .ne 5 10, c_iconst (-1), c_ireturn]
theorem eX5_tellPenalty_0 (kb : Co) (a0 a1 a2 : Int) (s : St) : exb (famH (tX5_tellPenalty_0 kb) kb) 0 bX5_tellPenalty_0 [(3, 5, a0), (0, 0, a1), (0, 0, a2)] [] s = fX5_tellPenalty_0 kb a0 a1 a2 s := rfl
noncomputable def bX5_tellPenalty_10 : List En := [c_iload_n 2, c_tsw (.lookupswitch 39 #[(0, 25), (1, 32)]) (fun _ _ _ _ _ _ _ => rfl) 25 50 [0, 1] [36, 43]]
theorem eX5_tellPenalty_10 (kb : Co) (a0 a1 a2 : Int) (s : St) : exb (famH (tX5_tellPenalty_10 kb) kb) 0 bX5_tellPenalty_10 [(3, 5, a0), (0, 0, a1), (0, 0, a2)] [] s = fX5_tellPenalty_10 kb a0 a1 a2 s := rfl
noncomputable def bX5_tellPenalty_36 : List En := [c_aload_n 0, c_getC 15 5 19 1, c_iload_n 1, c_iald 19 20, c_ireturn]
theorem eX5_tellPenalty_36 (kb : Co) (a0 a1 : Int) (s : St) : exb (famH (tX5_tellPenalty_36 kb) kb) 0 bX5_tellPenalty_36 [(3, 5, a0), (0, 0, a1), (7, 0, 0)] [] s = fX5_tellPenalty_36 kb a0 a1 s := rfl
noncomputable def bX5_tellPenalty_43 : List En := [c_aload_n 0, c_getC 18 5 20 2, c_iload_n 1, c_iald 20 20, c_ireturn]
theorem eX5_tellPenalty_43 (kb : Co) (a0 a1 : Int) (s : St) : exb (famH (tX5_tellPenalty_43 kb) kb) 0 bX5_tellPenalty_43 [(3, 5, a0), (0, 0, a1), (7, 0, 0)] [] s = fX5_tellPenalty_43 kb a0 a1 s := rfl
noncomputable def bX5_tellPenalty_50 : List En := [c_aload_n 0, c_getC 21 5 21 3, c_iload_n 1, c_bald 21 20, c_if .eq 7 63, c_iconst 1, c_goto 4 64]
theorem eX5_tellPenalty_50 (kb : Co) (a0 a1 : Int) (s : St) : exb (famH (tX5_tellPenalty_50 kb) kb) 0 bX5_tellPenalty_50 [(3, 5, a0), (0, 0, a1), (7, 0, 0)] [] s = fX5_tellPenalty_50 kb a0 a1 s := rfl
noncomputable def bX5_tellPenalty_63 : List En := [c_iconst 0]
theorem eX5_tellPenalty_63 (kb : Co) (s : St) : exb (famH (tX5_tellPenalty_63 kb) kb) 64 bX5_tellPenalty_63 [(7, 0, 0), (7, 0, 0), (7, 0, 0)] [] s = fX5_tellPenalty_63 kb s := rfl
noncomputable def bX5_tellPenalty_64 : List En := [c_ireturn]
theorem eX5_tellPenalty_64 (kb : Co) (y0 : Int) (s : St) : exb (famH (tX5_tellPenalty_64 kb) kb) 0 bX5_tellPenalty_64 [(7, 0, 0), (7, 0, 0), (7, 0, 0)] [(0, 0, y0)] s = fX5_tellPenalty_64 kb y0 s := rfl
-- Floatparade$Score.clear()V
noncomputable def bX5_clear_0 : List En := [c_iconst 0, c_istore_n 1]
theorem eX5_clear_0 (kb : Co) (a0 : Int) (s : St) : exb (famH (tX5_clear_0 kb) kb) 2 bX5_clear_0 [(3, 5, a0), (7, 0, 0)] [] s = fX5_clear_0 kb a0 s := rfl
noncomputable def bX5_clear_2 : List En := [c_iload_n 1, c_aload_n 0, c_getC 9 5 18 0, c_alen 18 20, c_icmp .ge 16 24, c_aload_n 0, c_getC 9 5 18 0, c_iload_n 1, c_iconst 0, c_iast 18 20, c_iinc 1 1, c_goto (-19) 2]
theorem eX5_clear_2 (kb : Co) (a0 a1 : Int) (s : St) : exb (famH (tX5_clear_2 kb) kb) 0 bX5_clear_2 [(3, 5, a0), (0, 0, a1)] [] s = fX5_clear_2 kb a0 a1 s := rfl
noncomputable def bX5_clear_24 : List En := [c_aload_n 0, c_iconst 0, c_putI 41 5 4, c_return]
theorem eX5_clear_24 (kb : Co) (a0 : Int) (s : St) : exb (famH (tX5_clear_24 kb) kb) 0 bX5_clear_24 [(3, 5, a0), (7, 0, 0)] [] s = fX5_clear_24 kb a0 s := rfl
-- Floatparade$Society.setFeud(LFloatparade$Society;Z)V
noncomputable def bX6_setFeud_0 : List En := [c_iconst 1, c_aload_n 1, c_getI 38 6 0, c_ishl, c_istore_n 3, c_aload_n 0, c_iload_n 2, c_if .eq 12 21, c_aload_n 0, c_getI 47 6 7, c_iload_n 3, c_ior, c_goto 11 29]
theorem eX6_setFeud_0 (kb : Co) (a0 a1 a2 : Int) (s : St) : exb (famH (tX6_setFeud_0 kb) kb) 0 bX6_setFeud_0 [(3, 6, a0), (2, 6, a1), (0, 0, a2), (7, 0, 0)] [] s = fX6_setFeud_0 kb a0 a1 a2 s := rfl
noncomputable def bX6_setFeud_21 : List En := [c_aload_n 0, c_getI 47 6 7, c_iload_n 3, c_iconst (-1), c_ixor, c_iand]
theorem eX6_setFeud_21 (kb : Co) (a0 a3 y0 : Int) (s : St) : exb (famH (tX6_setFeud_21 kb) kb) 29 bX6_setFeud_21 [(3, 6, a0), (7, 0, 0), (7, 0, 0), (0, 0, a3)] [(3, 6, y0)] s = fX6_setFeud_21 kb a0 a3 y0 s := rfl
noncomputable def bX6_setFeud_29 : List En := [c_putI 47 6 7, c_return]
theorem eX6_setFeud_29 (kb : Co) (y0 y1 : Int) (s : St) : exb (famH (tX6_setFeud_29 kb) kb) 0 bX6_setFeud_29 [(7, 0, 0), (7, 0, 0), (7, 0, 0), (7, 0, 0)] [(0, 0, y0), (3, 6, y1)] s = fX6_setFeud_29 kb y0 y1 s := rfl
-- java/lang/Integer.bitCount(I)I
noncomputable def bJ6_bitCount_0f7a4_0 : List En := [c_iload_n 0, c_iload_n 0, c_iconst 1, c_iushr, c_ldcw 265 1431655765, c_iand, c_isub, c_istore_n 0, c_iload_n 0, c_ldcw 266 858993459, c_iand, c_iload_n 0, c_iconst 2, c_iushr, c_ldcw 266 858993459, c_iand, c_iadd, c_istore_n 0, c_iload_n 0, c_iload_n 0, c_iconst 4, c_iushr, c_iadd, c_ldcw 267 252645135, c_iand, c_istore_n 0, c_iload_n 0, c_iload_n 0, c_bipush 8, c_iushr, c_iadd, c_istore_n 0, c_iload_n 0, c_iload_n 0, c_bipush 16, c_iushr, c_iadd, c_istore_n 0, c_iload_n 0, c_bipush 63, c_iand, c_ireturn]
theorem eJ6_bitCount_0f7a4_0 (kb : Co) (a0 : Int) (s : St) : exb (famH (tJ6_bitCount_0f7a4_0 kb) kb) 0 bJ6_bitCount_0f7a4_0 [(0, 0, a0)] [] s = fJ6_bitCount_0f7a4_0 kb a0 s := rfl
-- Floatparade$Society.isThemeLike(I)Z
noncomputable def bX6_isThemeLike_0 : List En := [c_aload_n 0, c_getI 50 6 8, c_iload_n 1, c_iand, c_invs 53 [] gJ6_bitCount_0f7a4 mdJ6_bitCount_0f7a4, c_iconst 3, c_icmp .lt 7 17, c_iconst 1, c_goto 4 18]
theorem eX6_isThemeLike_0 (kb : Co) (a0 a1 : Int) (s : St) : exb (famH (tX6_isThemeLike_0 kb) kb) 0 bX6_isThemeLike_0 [(3, 6, a0), (0, 0, a1)] [] s = fX6_isThemeLike_0 kb a0 a1 s := rfl
noncomputable def bX6_isThemeLike_17 : List En := [c_iconst 0]
theorem eX6_isThemeLike_17 (kb : Co) (s : St) : exb (famH (tX6_isThemeLike_17 kb) kb) 18 bX6_isThemeLike_17 [(7, 0, 0), (7, 0, 0)] [] s = fX6_isThemeLike_17 kb s := rfl
noncomputable def bX6_isThemeLike_18 : List En := [c_zreturn]
theorem eX6_isThemeLike_18 (kb : Co) (y0 : Int) (s : St) : exb (famH (tX6_isThemeLike_18 kb) kb) 0 bX6_isThemeLike_18 [(7, 0, 0), (7, 0, 0)] [(0, 0, y0)] s = fX6_isThemeLike_18 kb y0 s := rfl
-- Floatparade$Society.addWagon(LFloatparade$Wagon;)I
noncomputable def bX6_addWagon_0 : List En := [c_aload_n 0, c_getI 59 6 10, c_istore_n 2, c_iload_n 2, c_iconst 0, c_aload_n 0, c_getC 27 6 15 4, c_alen 15 3, c_iconst 1, c_isub, c_invs 62 [] gX11_isWithin mdX11_isWithin, c_if .ne 5 22, c_iconst (-1), c_ireturn]
theorem eX6_addWagon_0 (kb : Co) (a0 a1 : Int) (s : St) : exb (famH (tX6_addWagon_0 kb) kb) 0 bX6_addWagon_0 [(3, 6, a0), (2, 10, a1), (7, 0, 0)] [] s = fX6_addWagon_0 kb a0 a1 s := rfl
noncomputable def bX6_addWagon_22 : List En := [c_aload_n 0, c_getC 27 6 15 4, c_iload_n 2, c_aload_n 1, c_aast 15 10 3, c_aload_n 0, c_iload_n 2, c_iconst 1, c_iadd, c_putI 59 6 10, c_iload_n 2, c_ireturn]
theorem eX6_addWagon_22 (kb : Co) (a0 a1 a2 : Int) (s : St) : exb (famH (tX6_addWagon_22 kb) kb) 0 bX6_addWagon_22 [(3, 6, a0), (2, 10, a1), (0, 0, a2)] [] s = fX6_addWagon_22 kb a0 a1 a2 s := rfl
-- Floatparade$Songs.has(I)Z
noncomputable def bX7_has_0 : List En := [c_iload_n 1, c_iconst 0, c_aload_n 0, c_getI 19 7 2, c_iconst 1, c_isub, c_invs 23 [] gX11_isWithin mdX11_isWithin, c_if .eq 25 36, c_iload_n 1, c_aload_n 0, c_getC 9 7 16 0, c_alen 16 6, c_icmp .ge 16 36, c_iload_n 1, c_aload_n 0, c_getC 15 7 17 1, c_alen 17 6, c_icmp .ge 7 36, c_iconst 1, c_goto 4 37]
theorem eX7_has_0 (kb : Co) (a0 a1 : Int) (s : St) : exb (famH (tX7_has_0 kb) kb) 0 bX7_has_0 [(3, 7, a0), (0, 0, a1)] [] s = fX7_has_0 kb a0 a1 s := rfl
noncomputable def bX7_has_36 : List En := [c_iconst 0]
theorem eX7_has_36 (kb : Co) (s : St) : exb (famH (tX7_has_36 kb) kb) 37 bX7_has_36 [(7, 0, 0), (7, 0, 0)] [] s = fX7_has_36 kb s := rfl
noncomputable def bX7_has_37 : List En := [c_zreturn]
theorem eX7_has_37 (kb : Co) (y0 : Int) (s : St) : exb (famH (tX7_has_37 kb) kb) 0 bX7_has_37 [(7, 0, 0), (7, 0, 0)] [(0, 0, y0)] s = fX7_has_37 kb y0 s := rfl
-- Floatparade$Songs.isStruck(I)Z
noncomputable def bX7_isStruck_0 : List En := [c_aload_n 0, c_iload_n 1, c_invv 31 [] gX7_has mdX7_has, c_if .eq 16 21, c_aload_n 0, c_getC 15 7 17 1, c_iload_n 1, c_bald 17 6, c_if .eq 7 21, c_iconst 1, c_goto 4 22]
theorem eX7_isStruck_0 (kb : Co) (a0 a1 : Int) (s : St) : exb (famH (tX7_isStruck_0 kb) kb) 0 bX7_isStruck_0 [(3, 7, a0), (0, 0, a1)] [] s = fX7_isStruck_0 kb a0 a1 s := rfl
noncomputable def bX7_isStruck_21 : List En := [c_iconst 0]
theorem eX7_isStruck_21 (kb : Co) (s : St) : exb (famH (tX7_isStruck_21 kb) kb) 22 bX7_isStruck_21 [(7, 0, 0), (7, 0, 0)] [] s = fX7_isStruck_21 kb s := rfl
noncomputable def bX7_isStruck_22 : List En := [c_zreturn]
theorem eX7_isStruck_22 (kb : Co) (y0 : Int) (s : St) : exb (famH (tX7_isStruck_22 kb) kb) 0 bX7_isStruck_22 [(7, 0, 0), (7, 0, 0)] [(0, 0, y0)] s = fX7_isStruck_22 kb y0 s := rfl
-- Floatparade$Songs.left()I
noncomputable def bX7_left_0 : List En := [c_iconst 0, c_istore_n 1, c_iconst 0, c_istore_n 2]
theorem eX7_left_0 (kb : Co) (a0 : Int) (s : St) : exb (famH (tX7_left_0 kb) kb) 4 bX7_left_0 [(3, 7, a0), (7, 0, 0), (7, 0, 0)] [] s = fX7_left_0 kb a0 s := rfl
noncomputable def bX7_left_4 : List En := [c_iload_n 2, c_aload_n 0, c_getI 19 7 2, c_icmp .ge 25 34, c_iload_n 1, c_aload_n 0, c_iload_n 2, c_invv 35 [] gX7_isStruck mdX7_isStruck, c_if .eq 7 25, c_iconst 0, c_goto 4 26]
theorem eX7_left_4 (kb : Co) (a0 a1 a2 : Int) (s : St) : exb (famH (tX7_left_4 kb) kb) 0 bX7_left_4 [(3, 7, a0), (0, 0, a1), (0, 0, a2)] [] s = fX7_left_4 kb a0 a1 a2 s := rfl
noncomputable def bX7_left_25 : List En := [c_iconst 1]
theorem eX7_left_25 (kb : Co) (a0 a2 y0 : Int) (s : St) : exb (famH (tX7_left_25 kb) kb) 26 bX7_left_25 [(3, 7, a0), (7, 0, 0), (0, 0, a2)] [(0, 0, y0)] s = fX7_left_25 kb a0 a2 y0 s := rfl
noncomputable def bX7_left_26 : List En := [c_iadd, c_istore_n 1, c_iinc 2 1, c_goto (-27) 4]
theorem eX7_left_26 (kb : Co) (a0 a2 y0 y1 : Int) (s : St) : exb (famH (tX7_left_26 kb) kb) 0 bX7_left_26 [(3, 7, a0), (7, 0, 0), (0, 0, a2)] [(0, 0, y0), (0, 0, y1)] s = fX7_left_26 kb a0 a2 y0 y1 s := rfl
noncomputable def bX7_left_34 : List En := [c_iload_n 1, c_ireturn]
theorem eX7_left_34 (kb : Co) (a1 : Int) (s : St) : exb (famH (tX7_left_34 kb) kb) 0 bX7_left_34 [(7, 0, 0), (0, 0, a1), (7, 0, 0)] [] s = fX7_left_34 kb a1 s := rfl
-- Floatparade$Songs.chosen()I
noncomputable def bX7_chosen_0 : List En := [c_aload_n 0, c_invv 38 [] gX7_left mdX7_left, c_iconst 1, c_icmp .eq 5 10, c_iconst (-1), c_ireturn]
theorem eX7_chosen_0 (kb : Co) (a0 : Int) (s : St) : exb (famH (tX7_chosen_0 kb) kb) 0 bX7_chosen_0 [(3, 7, a0), (7, 0, 0), (7, 0, 0)] [] s = fX7_chosen_0 kb a0 s := rfl
noncomputable def bX7_chosen_10 : List En := [c_iconst (-1), c_istore_n 1, c_iconst 0, c_istore_n 2]
theorem eX7_chosen_10 (kb : Co) (a0 : Int) (s : St) : exb (famH (tX7_chosen_10 kb) kb) 14 bX7_chosen_10 [(3, 7, a0), (7, 0, 0), (7, 0, 0)] [] s = fX7_chosen_10 kb a0 s := rfl
noncomputable def bX7_chosen_14 : List En := [c_iload_n 2, c_aload_n 0, c_getI 19 7 2, c_icmp .ge 23 42, c_aload_n 0, c_iload_n 2, c_invv 35 [] gX7_isStruck mdX7_isStruck, c_if .eq 7 34, c_iload_n 1, c_goto 4 35]
theorem eX7_chosen_14 (kb : Co) (a0 a1 a2 : Int) (s : St) : exb (famH (tX7_chosen_14 kb) kb) 0 bX7_chosen_14 [(3, 7, a0), (0, 0, a1), (0, 0, a2)] [] s = fX7_chosen_14 kb a0 a1 a2 s := rfl
noncomputable def bX7_chosen_34 : List En := [c_iload_n 2]
theorem eX7_chosen_34 (kb : Co) (a0 a2 : Int) (s : St) : exb (famH (tX7_chosen_34 kb) kb) 35 bX7_chosen_34 [(3, 7, a0), (7, 0, 0), (0, 0, a2)] [] s = fX7_chosen_34 kb a0 a2 s := rfl
noncomputable def bX7_chosen_35 : List En := [c_istore_n 1, c_iinc 2 1, c_goto (-25) 14]
theorem eX7_chosen_35 (kb : Co) (a0 a2 y0 : Int) (s : St) : exb (famH (tX7_chosen_35 kb) kb) 0 bX7_chosen_35 [(3, 7, a0), (7, 0, 0), (0, 0, a2)] [(0, 0, y0)] s = fX7_chosen_35 kb a0 a2 y0 s := rfl
noncomputable def bX7_chosen_42 : List En := [c_iload_n 1, c_ireturn]
theorem eX7_chosen_42 (kb : Co) (a1 : Int) (s : St) : exb (famH (tX7_chosen_42 kb) kb) 0 bX7_chosen_42 [(7, 0, 0), (0, 0, a1), (7, 0, 0)] [] s = fX7_chosen_42 kb a1 s := rfl
-- Floatparade$Society.tell(I)I
noncomputable def bX6_tell_0 : List En := [c_iload_n 1, c_tsw (.tableswitch 101 0 7 #[47, 52, 57, 62, 70, 75, 83, 88]) (fun _ _ _ _ _ _ _ => rfl) 47 102 [0, 1, 2, 3, 4, 5, 6, 7] [48, 53, 58, 63, 71, 76, 84, 89]]
theorem eX6_tell_0 (kb : Co) (a0 a1 : Int) (s : St) : exb (famH (tX6_tell_0 kb) kb) 0 bX6_tell_0 [(3, 6, a0), (0, 0, a1)] [] s = fX6_tell_0 kb a0 a1 s := rfl
noncomputable def bX6_tell_48 : List En := [c_aload_n 0, c_getI 41 6 5, c_ireturn]
theorem eX6_tell_48 (kb : Co) (a0 : Int) (s : St) : exb (famH (tX6_tell_48 kb) kb) 0 bX6_tell_48 [(3, 6, a0), (7, 0, 0)] [] s = fX6_tell_48 kb a0 s := rfl
noncomputable def bX6_tell_53 : List En := [c_aload_n 0, c_getI 44 6 1, c_ireturn]
theorem eX6_tell_53 (kb : Co) (a0 : Int) (s : St) : exb (famH (tX6_tell_53 kb) kb) 0 bX6_tell_53 [(3, 6, a0), (7, 0, 0)] [] s = fX6_tell_53 kb a0 s := rfl
noncomputable def bX6_tell_58 : List En := [c_aload_n 0, c_getI 50 6 8, c_ireturn]
theorem eX6_tell_58 (kb : Co) (a0 : Int) (s : St) : exb (famH (tX6_tell_58 kb) kb) 0 bX6_tell_58 [(3, 6, a0), (7, 0, 0)] [] s = fX6_tell_58 kb a0 s := rfl
noncomputable def bX6_tell_63 : List En := [c_aload_n 0, c_getC 12 6 7 2, c_invv 72 [] gX7_chosen mdX7_chosen, c_ireturn]
theorem eX6_tell_63 (kb : Co) (a0 : Int) (s : St) : exb (famH (tX6_tell_63 kb) kb) 0 bX6_tell_63 [(3, 6, a0), (7, 0, 0)] [] s = fX6_tell_63 kb a0 s := rfl
noncomputable def bX6_tell_71 : List En := [c_aload_n 0, c_getI 59 6 10, c_ireturn]
theorem eX6_tell_71 (kb : Co) (a0 : Int) (s : St) : exb (famH (tX6_tell_71 kb) kb) 0 bX6_tell_71 [(3, 6, a0), (7, 0, 0)] [] s = fX6_tell_71 kb a0 s := rfl
noncomputable def bX6_tell_76 : List En := [c_aload_n 0, c_getC 21 6 5 3, c_invv 76 [] gX5_points mdX5_points, c_ireturn]
theorem eX6_tell_76 (kb : Co) (a0 : Int) (s : St) : exb (famH (tX6_tell_76 kb) kb) 0 bX6_tell_76 [(3, 6, a0), (7, 0, 0)] [] s = fX6_tell_76 kb a0 s := rfl
noncomputable def bX6_tell_84 : List En := [c_aload_n 0, c_getI 79 6 6, c_ireturn]
theorem eX6_tell_84 (kb : Co) (a0 : Int) (s : St) : exb (famH (tX6_tell_84 kb) kb) 0 bX6_tell_84 [(3, 6, a0), (7, 0, 0)] [] s = fX6_tell_84 kb a0 s := rfl
noncomputable def bX6_tell_89 : List En := [c_aload_n 0, c_getI 82 6 15, c_if .eq 7 100, c_iconst 1, c_goto 4 101]
theorem eX6_tell_89 (kb : Co) (a0 : Int) (s : St) : exb (famH (tX6_tell_89 kb) kb) 0 bX6_tell_89 [(3, 6, a0), (7, 0, 0)] [] s = fX6_tell_89 kb a0 s := rfl
noncomputable def bX6_tell_100 : List En := [c_iconst 0]
theorem eX6_tell_100 (kb : Co) (s : St) : exb (famH (tX6_tell_100 kb) kb) 101 bX6_tell_100 [(7, 0, 0), (7, 0, 0)] [] s = fX6_tell_100 kb s := rfl
noncomputable def bX6_tell_101 : List En := [c_ireturn]
theorem eX6_tell_101 (kb : Co) (y0 : Int) (s : St) : exb (famH (tX6_tell_101 kb) kb) 0 bX6_tell_101 [(7, 0, 0), (7, 0, 0)] [(0, 0, y0)] s = fX6_tell_101 kb y0 s := rfl
noncomputable def bX6_tell_102 : List En := [c_aload_n 0, c_getC 21 6 5 3, c_getI 86 5 4, c_ireturn]
theorem eX6_tell_102 (kb : Co) (a0 : Int) (s : St) : exb (famH (tX6_tell_102 kb) kb) 0 bX6_tell_102 [(3, 6, a0), (7, 0, 0)] [] s = fX6_tell_102 kb a0 s := rfl
-- Floatparade$Songs.clear()V
noncomputable def bX7_clear_0 : List En := [c_aload_n 0, c_iconst 0, c_putI 19 7 2, c_aload_n 0, c_iconst 0, c_putZ 27 7 3, c_return]
theorem eX7_clear_0 (kb : Co) (a0 : Int) (s : St) : exb (famH (tX7_clear_0 kb) kb) 0 bX7_clear_0 [(3, 7, a0)] [] s = fX7_clear_0 kb a0 s := rfl
-- Floatparade$Society.forgetYear()V
noncomputable def bX6_forgetYear_0 : List En := [c_aload_n 0, c_getC 12 6 7 2, c_invv 105 [] gX7_clear mdX7_clear, c_aload_n 0, c_getC 21 6 5 3, c_invv 108 [] gX5_clear mdX5_clear, c_aload_n 0, c_iconst 0, c_putI 50 6 8, c_aload_n 0, c_iconst 0, c_putI 109 6 9, c_aload_n 0, c_iconst 0, c_putI 59 6 10, c_aload_n 0, c_iconst 0, c_putI 112 6 11, c_aload_n 0, c_iconst (-1), c_putI 31 6 12, c_aload_n 0, c_iconst (-1), c_putI 35 6 13, c_aload_n 0, c_iconst 0, c_putI 99 6 14, c_aload_n 0, c_iconst 0, c_putZ 82 6 15, c_return]
theorem eX6_forgetYear_0 (kb : Co) (a0 : Int) (s : St) : exb (famH (tX6_forgetYear_0 kb) kb) 0 bX6_forgetYear_0 [(3, 6, a0)] [] s = fX6_forgetYear_0 kb a0 s := rfl
-- Floatparade$Songs.mayGrow()Z
noncomputable def bX7_mayGrow_0 : List En := [c_aload_n 0, c_getI 19 7 2, c_bipush 6, c_icmp .ge 14 20, c_aload_n 0, c_getI 27 7 3, c_if .ne 7 20, c_iconst 1, c_goto 4 21]
theorem eX7_mayGrow_0 (kb : Co) (a0 : Int) (s : St) : exb (famH (tX7_mayGrow_0 kb) kb) 0 bX7_mayGrow_0 [(3, 7, a0)] [] s = fX7_mayGrow_0 kb a0 s := rfl
noncomputable def bX7_mayGrow_20 : List En := [c_iconst 0]
theorem eX7_mayGrow_20 (kb : Co) (s : St) : exb (famH (tX7_mayGrow_20 kb) kb) 21 bX7_mayGrow_20 [(7, 0, 0)] [] s = fX7_mayGrow_20 kb s := rfl
noncomputable def bX7_mayGrow_21 : List En := [c_zreturn]
theorem eX7_mayGrow_21 (kb : Co) (y0 : Int) (s : St) : exb (famH (tX7_mayGrow_21 kb) kb) 0 bX7_mayGrow_21 [(7, 0, 0)] [(0, 0, y0)] s = fX7_mayGrow_21 kb y0 s := rfl
-- Floatparade$Songs.add()I
noncomputable def bX7_add_0 : List En := [c_aload_n 0, c_getI 19 7 2, c_istore_n 1, c_aload_n 0, c_dup, c_getI 19 7 2, c_iconst 1, c_iadd, c_putI 19 7 2, c_aload_n 0, c_iload_n 1, c_invv 31 [] gX7_has mdX7_has, c_if .eq 17 37, c_aload_n 0, c_getC 9 7 16 0, c_iload_n 1, c_iconst 0, c_iast 16 6, c_aload_n 0, c_getC 15 7 17 1, c_iload_n 1, c_iconst 0, c_bast 17 6]
theorem eX7_add_0 (kb : Co) (a0 : Int) (s : St) : exb (famH (tX7_add_0 kb) kb) 37 bX7_add_0 [(3, 7, a0), (7, 0, 0)] [] s = fX7_add_0 kb a0 s := rfl
noncomputable def bX7_add_37 : List En := [c_iload_n 1, c_ireturn]
theorem eX7_add_37 (kb : Co) (a1 : Int) (s : St) : exb (famH (tX7_add_37 kb) kb) 0 bX7_add_37 [(7, 0, 0), (0, 0, a1)] [] s = fX7_add_37 kb a1 s := rfl
-- Floatparade$Songs.addVotes(II)I
noncomputable def bX7_addVotes_0 : List En := [c_aload_n 0, c_iload_n 1, c_invv 31 [] gX7_has mdX7_has, c_if .ne 5 10, c_iconst 0, c_ireturn]
theorem eX7_addVotes_0 (kb : Co) (a0 a1 a2 : Int) (s : St) : exb (famH (tX7_addVotes_0 kb) kb) 0 bX7_addVotes_0 [(3, 7, a0), (0, 0, a1), (0, 0, a2)] [] s = fX7_addVotes_0 kb a0 a1 a2 s := rfl
noncomputable def bX7_addVotes_10 : List En := [c_aload_n 0, c_getC 9 7 16 0, c_iload_n 1, c_dup2, c_iald 16 6, c_iload_n 2, c_iadd, c_iast 16 6, c_aload_n 0, c_getC 9 7 16 0, c_iload_n 1, c_iald 16 6, c_ireturn]
theorem eX7_addVotes_10 (kb : Co) (a0 a1 a2 : Int) (s : St) : exb (famH (tX7_addVotes_10 kb) kb) 0 bX7_addVotes_10 [(3, 7, a0), (0, 0, a1), (0, 0, a2)] [] s = fX7_addVotes_10 kb a0 a1 a2 s := rfl
-- Floatparade$Songs.strikeWeakest()I
noncomputable def bX7_strikeWeakest_0 : List En := [c_iconst (-1), c_istore_n 1, c_iconst 0, c_istore_n 2]
theorem eX7_strikeWeakest_0 (kb : Co) (a0 : Int) (s : St) : exb (famH (tX7_strikeWeakest_0 kb) kb) 4 bX7_strikeWeakest_0 [(3, 7, a0), (7, 0, 0), (7, 0, 0)] [] s = fX7_strikeWeakest_0 kb a0 s := rfl
noncomputable def bX7_strikeWeakest_4 : List En := [c_iload_n 2, c_aload_n 0, c_getI 19 7 2, c_icmp .ge 51 60, c_aload_n 0, c_iload_n 2, c_invv 31 [] gX7_has mdX7_has, c_if .eq 37 54, c_aload_n 0, c_getC 15 7 17 1, c_iload_n 2, c_bald 17 6, c_if .ne 28 54, c_aload_n 0, c_iload_n 1, c_invv 31 [] gX7_has mdX7_has, c_if .eq 18 52, c_aload_n 0, c_getC 9 7 16 0, c_iload_n 2, c_iald 16 6, c_aload_n 0, c_getC 9 7 16 0, c_iload_n 1, c_iald 16 6, c_icmp .gt 5 54]
theorem eX7_strikeWeakest_4 (kb : Co) (a0 a1 a2 : Int) (s : St) : exb (famH (tX7_strikeWeakest_4 kb) kb) 52 bX7_strikeWeakest_4 [(3, 7, a0), (0, 0, a1), (0, 0, a2)] [] s = fX7_strikeWeakest_4 kb a0 a1 a2 s := rfl
noncomputable def bX7_strikeWeakest_52 : List En := [c_iload_n 2, c_istore_n 1]
theorem eX7_strikeWeakest_52 (kb : Co) (a0 a2 : Int) (s : St) : exb (famH (tX7_strikeWeakest_52 kb) kb) 54 bX7_strikeWeakest_52 [(3, 7, a0), (7, 0, 0), (0, 0, a2)] [] s = fX7_strikeWeakest_52 kb a0 a2 s := rfl
noncomputable def bX7_strikeWeakest_54 : List En := [c_iinc 2 1, c_goto (-53) 4]
theorem eX7_strikeWeakest_54 (kb : Co) (a0 a1 a2 : Int) (s : St) : exb (famH (tX7_strikeWeakest_54 kb) kb) 0 bX7_strikeWeakest_54 [(3, 7, a0), (0, 0, a1), (0, 0, a2)] [] s = fX7_strikeWeakest_54 kb a0 a1 a2 s := rfl
noncomputable def bX7_strikeWeakest_60 : List En := [c_aload_n 0, c_iload_n 1, c_invv 31 [] gX7_has mdX7_has, c_if .eq 10 75, c_aload_n 0, c_getC 15 7 17 1, c_iload_n 1, c_iconst 1, c_bast 17 6]
theorem eX7_strikeWeakest_60 (kb : Co) (a0 a1 : Int) (s : St) : exb (famH (tX7_strikeWeakest_60 kb) kb) 75 bX7_strikeWeakest_60 [(3, 7, a0), (0, 0, a1), (7, 0, 0)] [] s = fX7_strikeWeakest_60 kb a0 a1 s := rfl
noncomputable def bX7_strikeWeakest_75 : List En := [c_iconst 0, c_istore_n 2]
theorem eX7_strikeWeakest_75 (kb : Co) (a0 a1 : Int) (s : St) : exb (famH (tX7_strikeWeakest_75 kb) kb) 77 bX7_strikeWeakest_75 [(3, 7, a0), (0, 0, a1), (7, 0, 0)] [] s = fX7_strikeWeakest_75 kb a0 a1 s := rfl
noncomputable def bX7_strikeWeakest_77 : List En := [c_iload_n 2, c_aload_n 0, c_getC 9 7 16 0, c_alen 16 6, c_icmp .ge 16 99, c_aload_n 0, c_getC 9 7 16 0, c_iload_n 2, c_iconst 0, c_iast 16 6, c_iinc 2 1, c_goto (-19) 77]
theorem eX7_strikeWeakest_77 (kb : Co) (a0 a1 a2 : Int) (s : St) : exb (famH (tX7_strikeWeakest_77 kb) kb) 0 bX7_strikeWeakest_77 [(3, 7, a0), (0, 0, a1), (0, 0, a2)] [] s = fX7_strikeWeakest_77 kb a0 a1 a2 s := rfl
noncomputable def bX7_strikeWeakest_99 : List En := [c_aload_n 0, c_iconst 1, c_putZ 27 7 3, c_iload_n 1, c_ireturn]
theorem eX7_strikeWeakest_99 (kb : Co) (a0 a1 : Int) (s : St) : exb (famH (tX7_strikeWeakest_99 kb) kb) 0 bX7_strikeWeakest_99 [(3, 7, a0), (0, 0, a1), (7, 0, 0)] [] s = fX7_strikeWeakest_99 kb a0 a1 s := rfl
-- Floatparade$Street.joins(II)Z
noncomputable def bX8_joins_0 : List En := [c_aload_n 0, c_getI 7 8 0, c_iload_n 1, c_icmp .ne 11 16, c_aload_n 0, c_getI 13 8 1, c_iload_n 2, c_icmp .eq 19 32]
theorem eX8_joins_0 (kb : Co) (a0 a1 a2 : Int) (s : St) : exb (famH (tX8_joins_0 kb) kb) 16 bX8_joins_0 [(3, 8, a0), (0, 0, a1), (0, 0, a2)] [] s = fX8_joins_0 kb a0 a1 a2 s := rfl
noncomputable def bX8_joins_16 : List En := [c_aload_n 0, c_getI 7 8 0, c_iload_n 2, c_icmp .ne 15 36, c_aload_n 0, c_getI 13 8 1, c_iload_n 1, c_icmp .ne 7 36]
theorem eX8_joins_16 (kb : Co) (a0 a1 a2 : Int) (s : St) : exb (famH (tX8_joins_16 kb) kb) 32 bX8_joins_16 [(3, 8, a0), (0, 0, a1), (0, 0, a2)] [] s = fX8_joins_16 kb a0 a1 a2 s := rfl
noncomputable def bX8_joins_32 : List En := [c_iconst 1, c_goto 4 37]
theorem eX8_joins_32 (kb : Co) (s : St) : exb (famH (tX8_joins_32 kb) kb) 0 bX8_joins_32 [(7, 0, 0), (7, 0, 0), (7, 0, 0)] [] s = fX8_joins_32 kb s := rfl
noncomputable def bX8_joins_36 : List En := [c_iconst 0]
theorem eX8_joins_36 (kb : Co) (s : St) : exb (famH (tX8_joins_36 kb) kb) 37 bX8_joins_36 [(7, 0, 0), (7, 0, 0), (7, 0, 0)] [] s = fX8_joins_36 kb s := rfl
noncomputable def bX8_joins_37 : List En := [c_zreturn]
theorem eX8_joins_37 (kb : Co) (y0 : Int) (s : St) : exb (famH (tX8_joins_37 kb) kb) 0 bX8_joins_37 [(7, 0, 0), (7, 0, 0), (7, 0, 0)] [(0, 0, y0)] s = fX8_joins_37 kb y0 s := rfl
-- Floatparade$Town.isFull()Z
noncomputable def bX9_isFull_0 : List En := [c_aload_n 0, c_getI 21 9 2, c_aload_n 0, c_getC 11 9 22 0, c_alen 22 16, c_icmp .lt 7 16, c_iconst 1, c_goto 4 17]
theorem eX9_isFull_0 (kb : Co) (a0 : Int) (s : St) : exb (famH (tX9_isFull_0 kb) kb) 0 bX9_isFull_0 [(3, 9, a0)] [] s = fX9_isFull_0 kb a0 s := rfl
noncomputable def bX9_isFull_16 : List En := [c_iconst 0]
theorem eX9_isFull_16 (kb : Co) (s : St) : exb (famH (tX9_isFull_16 kb) kb) 17 bX9_isFull_16 [(7, 0, 0)] [] s = fX9_isFull_16 kb s := rfl
noncomputable def bX9_isFull_17 : List En := [c_zreturn]
theorem eX9_isFull_17 (kb : Co) (y0 : Int) (s : St) : exb (famH (tX9_isFull_17 kb) kb) 0 bX9_isFull_17 [(7, 0, 0)] [(0, 0, y0)] s = fX9_isFull_17 kb y0 s := rfl
-- Floatparade$Town.between(II)LFloatparade$Street;
noncomputable def bX9_between_0 : List En := [c_iconst 0, c_istore_n 3]
theorem eX9_between_0 (kb : Co) (a0 a1 a2 : Int) (s : St) : exb (famH (tX9_between_0 kb) kb) 2 bX9_between_0 [(3, 9, a0), (0, 0, a1), (0, 0, a2), (7, 0, 0), (7, 0, 0)] [] s = fX9_between_0 kb a0 a1 a2 s := rfl
noncomputable def bX9_between_2 : List En := [c_iload_n 3, c_aload_n 0, c_getC 11 9 22 0, c_alen 22 16, c_icmp .ge 35 43, c_aload_n 0, c_getC 11 9 22 0, c_iload_n 3, c_aald 22 8 16, c_astore 4, c_aload 4, c_ifnull 16 37, c_aload 4, c_iload_n 1, c_iload_n 2, c_invv 25 [] gX8_joins mdX8_joins, c_if .eq 6 37, c_aload 4, c_areturn 8]
theorem eX9_between_2 (kb : Co) (a0 a1 a2 a3 : Int) (s : St) : exb (famH (tX9_between_2 kb) kb) 0 bX9_between_2 [(3, 9, a0), (0, 0, a1), (0, 0, a2), (0, 0, a3), (7, 0, 0)] [] s = fX9_between_2 kb a0 a1 a2 a3 s := rfl
noncomputable def bX9_between_37 : List En := [c_iinc 3 1, c_goto (-38) 2]
theorem eX9_between_37 (kb : Co) (a0 a1 a2 a3 : Int) (s : St) : exb (famH (tX9_between_37 kb) kb) 0 bX9_between_37 [(3, 9, a0), (0, 0, a1), (0, 0, a2), (0, 0, a3), (7, 0, 0)] [] s = fX9_between_37 kb a0 a1 a2 a3 s := rfl
noncomputable def bX9_between_43 : List En := [c_null 8, c_areturn 8]
theorem eX9_between_43 (kb : Co) (s : St) : exb (famH (tX9_between_43 kb) kb) 0 bX9_between_43 [(7, 0, 0), (7, 0, 0), (7, 0, 0), (7, 0, 0), (7, 0, 0)] [] s = fX9_between_43 kb s := rfl
-- Floatparade$Town.lay(LFloatparade$Street;)I
noncomputable def bX9_lay_0 : List En := [c_aload_n 0, c_getI 21 9 2, c_iconst 0, c_aload_n 0, c_getC 11 9 22 0, c_alen 22 16, c_iconst 1, c_isub, c_invs 29 [] gX11_isWithin mdX11_isWithin, c_if .eq 23 38, c_aload_n 0, c_getC 11 9 22 0, c_aload_n 0, c_getI 21 9 2, c_aload_n 1, c_aast 22 8 16, c_aload_n 0, c_dup, c_getI 21 9 2, c_iconst 1, c_iadd, c_putI 21 9 2]
theorem eX9_lay_0 (kb : Co) (a0 a1 : Int) (s : St) : exb (famH (tX9_lay_0 kb) kb) 38 bX9_lay_0 [(3, 9, a0), (2, 8, a1)] [] s = fX9_lay_0 kb a0 a1 s := rfl
noncomputable def bX9_lay_38 : List En := [c_aload_n 0, c_getI 21 9 2, c_ireturn]
theorem eX9_lay_38 (kb : Co) (a0 : Int) (s : St) : exb (famH (tX9_lay_38 kb) kb) 0 bX9_lay_38 [(3, 9, a0), (7, 0, 0)] [] s = fX9_lay_38 kb a0 s := rfl
-- Floatparade$Town.setJury(IZ)Z
noncomputable def bX9_setJury_0 : List En := [c_aload_n 0, c_iload_n 1, c_invv 33 [] gX9_hasJury mdX9_hasJury, c_istore_n 3, c_iload_n 1, c_iconst 0, c_aload_n 0, c_getC 17 9 23 1, c_alen 23 12, c_iconst 1, c_isub, c_invs 29 [] gX11_isWithin mdX11_isWithin, c_if .eq 10 28, c_aload_n 0, c_getC 17 9 23 1, c_iload_n 1, c_iload_n 2, c_bast 23 12]
theorem eX9_setJury_0 (kb : Co) (a0 a1 a2 : Int) (s : St) : exb (famH (tX9_setJury_0 kb) kb) 28 bX9_setJury_0 [(3, 9, a0), (0, 0, a1), (0, 0, a2), (7, 0, 0)] [] s = fX9_setJury_0 kb a0 a1 a2 s := rfl
noncomputable def bX9_setJury_28 : List En := [c_iload_n 3, c_zreturn]
theorem eX9_setJury_28 (kb : Co) (a3 : Int) (s : St) : exb (famH (tX9_setJury_28 kb) kb) 0 bX9_setJury_28 [(7, 0, 0), (7, 0, 0), (7, 0, 0), (0, 0, a3)] [] s = fX9_setJury_28 kb a3 s := rfl
-- Floatparade$Wagon.sum()I
noncomputable def bX10_sum_0 : List En := [c_aload_n 0, c_getI 7 10 0, c_aload_n 0, c_getI 13 10 1, c_iadd, c_aload_n 0, c_getI 16 10 2, c_iadd, c_aload_n 0, c_getI 19 10 3, c_iadd, c_ireturn]
theorem eX10_sum_0 (kb : Co) (a0 : Int) (s : St) : exb (famH (tX10_sum_0 kb) kb) 0 bX10_sum_0 [(3, 10, a0)] [] s = fX10_sum_0 kb a0 s := rfl
-- Floatparade$Wagon.shrink(IIII)I
noncomputable def bX10_shrink_0 : List En := [c_aload_n 0, c_invv 22 [] gX10_sum mdX10_sum, c_istore 5, c_aload_n 0, c_iload_n 1, c_putI 7 10 0, c_aload_n 0, c_iload_n 2, c_putI 13 10 1, c_aload_n 0, c_iload_n 3, c_putI 16 10 2, c_aload_n 0, c_iload 4, c_putI 19 10 3, c_iload 5, c_aload_n 0, c_invv 22 [] gX10_sum mdX10_sum, c_isub, c_ireturn]
theorem eX10_shrink_0 (kb : Co) (a0 a1 a2 a3 a4 : Int) (s : St) : exb (famH (tX10_shrink_0 kb) kb) 0 bX10_shrink_0 [(3, 10, a0), (0, 0, a1), (0, 0, a2), (0, 0, a3), (0, 0, a4), (7, 0, 0)] [] s = fX10_shrink_0 kb a0 a1 a2 a3 a4 s := rfl
-- Floatparade.isLeague(I)Z
noncomputable def bX11_isLeague_0 : List En := [c_iload_n 0, c_iconst 0, c_iconst 1, c_invs 39 [] gX11_isWithin mdX11_isWithin, c_zreturn]
theorem eX11_isLeague_0 (kb : Co) (a0 : Int) (s : St) : exb (famH (tX11_isLeague_0 kb) kb) 0 bX11_isLeague_0 [(0, 0, a0)] [] s = fX11_isLeague_0 kb a0 s := rfl
-- Floatparade.society(II)I
noncomputable def bX11_society_0 : List En := [c_iload_n 1, c_invs 35 [] gX11_isLeague mdX11_isLeague, c_if .eq 14 18, c_iload_n 2, c_iconst 1, c_sipush 200, c_invs 39 [] gX11_isWithin mdX11_isWithin, c_if .ne 13 28]
theorem eX11_society_0 (kb : Co) (a0 a1 a2 : Int) (s : St) : exb (famH (tX11_society_0 kb) kb) 18 bX11_society_0 [(3, 11, a0), (0, 0, a1), (0, 0, a2), (7, 0, 0)] [] s = fX11_society_0 kb a0 a1 a2 s := rfl
noncomputable def bX11_society_18 : List En := [c_throw 43 10 1]
theorem eX11_society_18 (kb : Co) (s : St) : exb (famH (tX11_society_18 kb) kb) 0 bX11_society_18 [(7, 0, 0), (7, 0, 0), (7, 0, 0), (7, 0, 0)] [] s = fX11_society_18 kb s := rfl
noncomputable def bX11_society_28 : List En := [c_aload_n 0, c_getI 50 11 3, c_istore_n 3, c_iload_n 3, c_if .lt 12 46, c_iload_n 3, c_aload_n 0, c_getC 11 11 13 0, c_alen 13 10, c_icmp .lt 13 56]
theorem eX11_society_28 (kb : Co) (a0 a1 a2 : Int) (s : St) : exb (famH (tX11_society_28 kb) kb) 46 bX11_society_28 [(3, 11, a0), (0, 0, a1), (0, 0, a2), (7, 0, 0)] [] s = fX11_society_28 kb a0 a1 a2 s := rfl
noncomputable def bX11_society_46 : List En := [c_throw 53 10 2]
theorem eX11_society_46 (kb : Co) (s : St) : exb (famH (tX11_society_46 kb) kb) 0 bX11_society_46 [(7, 0, 0), (7, 0, 0), (7, 0, 0), (7, 0, 0)] [] s = fX11_society_46 kb s := rfl
noncomputable def bX11_society_56 : List En := [c_aload_n 0, c_getC 11 11 13 0, c_iload_n 3, c_alloc 9 10 6 (by decide) [3, 1, 2], c_aast 13 6 10, c_aload_n 0, c_iload_n 3, c_iconst 1, c_iadd, c_putI 50 11 3, c_iload_n 3, c_ireturn]
theorem eX11_society_56 (kb : Co) (a0 a1 a2 a3 : Int) (s : St) : exb (famH (tX11_society_56 kb) kb) 0 bX11_society_56 [(3, 11, a0), (0, 0, a1), (0, 0, a2), (0, 0, a3)] [] s = fX11_society_56 kb a0 a1 a2 a3 s := rfl
-- Floatparade.societyAt(I)LFloatparade$Society;
noncomputable def bX11_societyAt_0 : List En := [c_iload_n 1, c_iconst 0, c_aload_n 0, c_getC 11 11 13 0, c_alen 13 10, c_iconst 1, c_isub, c_invs 39 [] gX11_isWithin mdX11_isWithin, c_if .eq 12 24, c_aload_n 0, c_getC 11 11 13 0, c_iload_n 1, c_aald 13 6 10, c_goto 4 25]
theorem eX11_societyAt_0 (kb : Co) (a0 a1 : Int) (s : St) : exb (famH (tX11_societyAt_0 kb) kb) 0 bX11_societyAt_0 [(3, 11, a0), (0, 0, a1)] [] s = fX11_societyAt_0 kb a0 a1 s := rfl
noncomputable def bX11_societyAt_24 : List En := [c_null 6]
theorem eX11_societyAt_24 (kb : Co) (s : St) : exb (famH (tX11_societyAt_24 kb) kb) 25 bX11_societyAt_24 [(7, 0, 0), (7, 0, 0)] [] s = fX11_societyAt_24 kb s := rfl
noncomputable def bX11_societyAt_25 : List En := [c_areturn 6]
theorem eX11_societyAt_25 (kb : Co) (y0 : Int) (s : St) : exb (famH (tX11_societyAt_25 kb) kb) 0 bX11_societyAt_25 [(7, 0, 0), (7, 0, 0)] [(2, 6, y0)] s = fX11_societyAt_25 kb y0 s := rfl
-- Floatparade.feud(IIZ)Z
noncomputable def bX11_feud_0 : List En := [c_aload_n 0, c_iload_n 1, c_invv 61 [] gX11_societyAt mdX11_societyAt, c_astore 4, c_aload_n 0, c_iload_n 2, c_invv 61 [] gX11_societyAt mdX11_societyAt, c_astore 5, c_aload 4, c_ifnull 8 24, c_aload 5, c_ifnonnull 13 34]
theorem eX11_feud_0 (kb : Co) (a0 a1 a2 a3 : Int) (s : St) : exb (famH (tX11_feud_0 kb) kb) 24 bX11_feud_0 [(3, 11, a0), (0, 0, a1), (0, 0, a2), (0, 0, a3), (7, 0, 0), (7, 0, 0), (7, 0, 0)] [] s = fX11_feud_0 kb a0 a1 a2 a3 s := rfl
noncomputable def bX11_feud_24 : List En := [c_throw 65 10 3]
theorem eX11_feud_24 (kb : Co) (s : St) : exb (famH (tX11_feud_24 kb) kb) 0 bX11_feud_24 [(7, 0, 0), (7, 0, 0), (7, 0, 0), (7, 0, 0), (7, 0, 0), (7, 0, 0), (7, 0, 0)] [] s = fX11_feud_24 kb s := rfl
noncomputable def bX11_feud_34 : List En := [c_iload_n 1, c_iload_n 2, c_icmp .ne 13 49, c_throw 43 10 1]
theorem eX11_feud_34 (kb : Co) (a1 a2 a3 a4 a5 : Int) (s : St) : exb (famH (tX11_feud_34 kb) kb) 0 bX11_feud_34 [(7, 0, 0), (0, 0, a1), (0, 0, a2), (0, 0, a3), (2, 6, a4), (2, 6, a5), (7, 0, 0)] [] s = fX11_feud_34 kb a1 a2 a3 a4 a5 s := rfl
noncomputable def bX11_feud_49 : List En := [c_aload 4, c_aload 5, c_invv 72 [] gX6_hasFeudWith mdX6_hasFeudWith, c_istore 6, c_aload 4, c_aload 5, c_iload_n 3, c_invv 76 [] gX6_setFeud mdX6_setFeud, c_aload 5, c_aload 4, c_iload_n 3, c_invv 76 [] gX6_setFeud mdX6_setFeud, c_iload 6, c_zreturn]
theorem eX11_feud_49 (kb : Co) (a3 a4 a5 : Int) (s : St) : exb (famH (tX11_feud_49 kb) kb) 0 bX11_feud_49 [(7, 0, 0), (7, 0, 0), (7, 0, 0), (0, 0, a3), (2, 6, a4), (2, 6, a5), (7, 0, 0)] [] s = fX11_feud_49 kb a3 a4 a5 s := rfl
-- Floatparade.isThemeRefused(II)Z
noncomputable def bX11_isThemeRefused_0 : List En := [c_iconst 0, c_istore_n 3]
theorem eX11_isThemeRefused_0 (kb : Co) (a0 a1 a2 : Int) (s : St) : exb (famH (tX11_isThemeRefused_0 kb) kb) 2 bX11_isThemeRefused_0 [(3, 11, a0), (0, 0, a1), (0, 0, a2), (7, 0, 0), (7, 0, 0)] [] s = fX11_isThemeRefused_0 kb a0 a1 a2 s := rfl
noncomputable def bX11_isThemeRefused_2 : List En := [c_iload_n 3, c_aload_n 0, c_getC 11 11 13 0, c_alen 13 10, c_icmp .ge 42 50, c_aload_n 0, c_getC 11 11 13 0, c_iload_n 3, c_aald 13 6 10, c_astore 4, c_aload 4, c_ifnull 23 44, c_aload 4, c_iload_n 1, c_invv 465 [] gX6_isThemeLike mdX6_isThemeLike, c_if .eq 14 44, c_aload 4, c_getI 93 6 9, c_iload_n 2, c_icmp .gt 5 44, c_iconst 1, c_zreturn]
theorem eX11_isThemeRefused_2 (kb : Co) (a0 a1 a2 a3 : Int) (s : St) : exb (famH (tX11_isThemeRefused_2 kb) kb) 0 bX11_isThemeRefused_2 [(3, 11, a0), (0, 0, a1), (0, 0, a2), (0, 0, a3), (7, 0, 0)] [] s = fX11_isThemeRefused_2 kb a0 a1 a2 a3 s := rfl
noncomputable def bX11_isThemeRefused_44 : List En := [c_iinc 3 1, c_goto (-45) 2]
theorem eX11_isThemeRefused_44 (kb : Co) (a0 a1 a2 a3 : Int) (s : St) : exb (famH (tX11_isThemeRefused_44 kb) kb) 0 bX11_isThemeRefused_44 [(3, 11, a0), (0, 0, a1), (0, 0, a2), (0, 0, a3), (7, 0, 0)] [] s = fX11_isThemeRefused_44 kb a0 a1 a2 a3 s := rfl
noncomputable def bX11_isThemeRefused_50 : List En := [c_iconst 0, c_zreturn]
theorem eX11_isThemeRefused_50 (kb : Co) (s : St) : exb (famH (tX11_isThemeRefused_50 kb) kb) 0 bX11_isThemeRefused_50 [(7, 0, 0), (7, 0, 0), (7, 0, 0), (7, 0, 0), (7, 0, 0)] [] s = fX11_isThemeRefused_50 kb s := rfl
-- Floatparade.takeThemesAway(I)I
noncomputable def bX11_takeThemesAway_0 : List En := [c_iconst 0, c_istore_n 2, c_iconst 0, c_istore_n 3]
theorem eX11_takeThemesAway_0 (kb : Co) (a0 a1 : Int) (s : St) : exb (famH (tX11_takeThemesAway_0 kb) kb) 4 bX11_takeThemesAway_0 [(3, 11, a0), (0, 0, a1), (7, 0, 0), (7, 0, 0), (7, 0, 0)] [] s = fX11_takeThemesAway_0 kb a0 a1 s := rfl
noncomputable def bX11_takeThemesAway_4 : List En := [c_iload_n 3, c_aload_n 0, c_getC 11 11 13 0, c_alen 13 10, c_icmp .ge 40 50, c_aload_n 0, c_getC 11 11 13 0, c_iload_n 3, c_aald 13 6 10, c_astore 4, c_aload 4, c_ifnull 21 44, c_aload 4, c_iload_n 1, c_invv 465 [] gX6_isThemeLike mdX6_isThemeLike, c_if .eq 12 44, c_aload 4, c_iconst 0, c_putI 82 6 8, c_iinc 2 1]
theorem eX11_takeThemesAway_4 (kb : Co) (a0 a1 a2 a3 : Int) (s : St) : exb (famH (tX11_takeThemesAway_4 kb) kb) 44 bX11_takeThemesAway_4 [(3, 11, a0), (0, 0, a1), (0, 0, a2), (0, 0, a3), (7, 0, 0)] [] s = fX11_takeThemesAway_4 kb a0 a1 a2 a3 s := rfl
noncomputable def bX11_takeThemesAway_44 : List En := [c_iinc 3 1, c_goto (-43) 4]
theorem eX11_takeThemesAway_44 (kb : Co) (a0 a1 a2 a3 : Int) (s : St) : exb (famH (tX11_takeThemesAway_44 kb) kb) 0 bX11_takeThemesAway_44 [(3, 11, a0), (0, 0, a1), (0, 0, a2), (0, 0, a3), (7, 0, 0)] [] s = fX11_takeThemesAway_44 kb a0 a1 a2 a3 s := rfl
noncomputable def bX11_takeThemesAway_50 : List En := [c_iload_n 2, c_ireturn]
theorem eX11_takeThemesAway_50 (kb : Co) (a2 : Int) (s : St) : exb (famH (tX11_takeThemesAway_50 kb) kb) 0 bX11_takeThemesAway_50 [(7, 0, 0), (7, 0, 0), (0, 0, a2), (7, 0, 0), (7, 0, 0)] [] s = fX11_takeThemesAway_50 kb a2 s := rfl
-- Floatparade.theme(III)I
noncomputable def bX11_theme_0 : List En := [c_aload_n 0, c_iload_n 1, c_invv 61 [] gX11_societyAt mdX11_societyAt, c_astore 4, c_aload 4, c_ifnonnull 13 22, c_throw 65 10 3]
theorem eX11_theme_0 (kb : Co) (a0 a1 a2 a3 : Int) (s : St) : exb (famH (tX11_theme_0 kb) kb) 0 bX11_theme_0 [(3, 11, a0), (0, 0, a1), (0, 0, a2), (0, 0, a3), (7, 0, 0), (7, 0, 0)] [] s = fX11_theme_0 kb a0 a1 a2 a3 s := rfl
noncomputable def bX11_theme_22 : List En := [c_iload_n 2, c_iconst 1, c_sipush 4095, c_invs 39 [] gX11_isWithin mdX11_isWithin, c_if .eq 13 43, c_iload_n 3, c_iconst 1, c_bipush 99, c_invs 39 [] gX11_isWithin mdX11_isWithin, c_if .ne 13 53]
theorem eX11_theme_22 (kb : Co) (a0 a2 a3 a4 : Int) (s : St) : exb (famH (tX11_theme_22 kb) kb) 43 bX11_theme_22 [(3, 11, a0), (7, 0, 0), (0, 0, a2), (0, 0, a3), (2, 6, a4), (7, 0, 0)] [] s = fX11_theme_22 kb a0 a2 a3 a4 s := rfl
noncomputable def bX11_theme_43 : List En := [c_throw 43 10 1]
theorem eX11_theme_43 (kb : Co) (s : St) : exb (famH (tX11_theme_43 kb) kb) 0 bX11_theme_43 [(7, 0, 0), (7, 0, 0), (7, 0, 0), (7, 0, 0), (7, 0, 0), (7, 0, 0)] [] s = fX11_theme_43 kb s := rfl
noncomputable def bX11_theme_53 : List En := [c_aload 4, c_iconst 0, c_putI 82 6 8, c_aload_n 0, c_iload_n 2, c_iload_n 3, c_invv 85 [] gX11_isThemeRefused mdX11_isThemeRefused, c_if .eq 5 70, c_iconst (-1), c_ireturn]
theorem eX11_theme_53 (kb : Co) (a0 a2 a3 a4 : Int) (s : St) : exb (famH (tX11_theme_53 kb) kb) 0 bX11_theme_53 [(3, 11, a0), (7, 0, 0), (0, 0, a2), (0, 0, a3), (2, 6, a4), (7, 0, 0)] [] s = fX11_theme_53 kb a0 a2 a3 a4 s := rfl
noncomputable def bX11_theme_70 : List En := [c_aload_n 0, c_iload_n 2, c_invv 89 [] gX11_takeThemesAway mdX11_takeThemesAway, c_istore 5, c_aload 4, c_iload_n 2, c_putI 82 6 8, c_aload 4, c_iload_n 3, c_putI 93 6 9, c_iload 5, c_ireturn]
theorem eX11_theme_70 (kb : Co) (a0 a2 a3 a4 : Int) (s : St) : exb (famH (tX11_theme_70 kb) kb) 0 bX11_theme_70 [(3, 11, a0), (7, 0, 0), (0, 0, a2), (0, 0, a3), (2, 6, a4), (7, 0, 0)] [] s = fX11_theme_70 kb a0 a2 a3 a4 s := rfl
-- Floatparade.song(I)I
noncomputable def bX11_song_0 : List En := [c_aload_n 0, c_iload_n 1, c_invv 61 [] gX11_societyAt mdX11_societyAt, c_astore_n 2, c_aload_n 2, c_ifnonnull 13 20, c_throw 65 10 3]
theorem eX11_song_0 (kb : Co) (a0 a1 : Int) (s : St) : exb (famH (tX11_song_0 kb) kb) 0 bX11_song_0 [(3, 11, a0), (0, 0, a1), (7, 0, 0)] [] s = fX11_song_0 kb a0 a1 s := rfl
noncomputable def bX11_song_20 : List En := [c_aload_n 2, c_getC 96 6 7 2, c_invv 100 [] gX7_mayGrow mdX7_mayGrow, c_if .ne 13 40, c_throw 53 10 2]
theorem eX11_song_20 (kb : Co) (a2 : Int) (s : St) : exb (famH (tX11_song_20 kb) kb) 0 bX11_song_20 [(7, 0, 0), (7, 0, 0), (2, 6, a2)] [] s = fX11_song_20 kb a2 s := rfl
noncomputable def bX11_song_40 : List En := [c_aload_n 2, c_getC 96 6 7 2, c_invv 108 [] gX7_add mdX7_add, c_ireturn]
theorem eX11_song_40 (kb : Co) (a2 : Int) (s : St) : exb (famH (tX11_song_40 kb) kb) 0 bX11_song_40 [(7, 0, 0), (7, 0, 0), (2, 6, a2)] [] s = fX11_song_40 kb a2 s := rfl
-- Floatparade.vote(III)I
noncomputable def bX11_vote_0 : List En := [c_aload_n 0, c_iload_n 1, c_invv 61 [] gX11_societyAt mdX11_societyAt, c_astore 4, c_aload 4, c_ifnull 15 24, c_aload 4, c_getC 96 6 7 2, c_iload_n 2, c_invv 112 [] gX7_has mdX7_has, c_if .ne 13 34]
theorem eX11_vote_0 (kb : Co) (a0 a1 a2 a3 : Int) (s : St) : exb (famH (tX11_vote_0 kb) kb) 24 bX11_vote_0 [(3, 11, a0), (0, 0, a1), (0, 0, a2), (0, 0, a3), (7, 0, 0)] [] s = fX11_vote_0 kb a0 a1 a2 a3 s := rfl
noncomputable def bX11_vote_24 : List En := [c_throw 65 10 3]
theorem eX11_vote_24 (kb : Co) (s : St) : exb (famH (tX11_vote_24 kb) kb) 0 bX11_vote_24 [(7, 0, 0), (7, 0, 0), (7, 0, 0), (7, 0, 0), (7, 0, 0)] [] s = fX11_vote_24 kb s := rfl
noncomputable def bX11_vote_34 : List En := [c_iload_n 3, c_iconst 1, c_bipush 99, c_invs 39 [] gX11_isWithin mdX11_isWithin, c_if .ne 13 54, c_throw 43 10 1]
theorem eX11_vote_34 (kb : Co) (a2 a3 a4 : Int) (s : St) : exb (famH (tX11_vote_34 kb) kb) 0 bX11_vote_34 [(7, 0, 0), (7, 0, 0), (0, 0, a2), (0, 0, a3), (2, 6, a4)] [] s = fX11_vote_34 kb a2 a3 a4 s := rfl
noncomputable def bX11_vote_54 : List En := [c_aload 4, c_getC 96 6 7 2, c_iload_n 2, c_invv 119 [] gX7_isStruck mdX7_isStruck, c_if .ne 15 78, c_aload 4, c_getC 96 6 7 2, c_invv 122 [] gX7_chosen mdX7_chosen, c_iconst (-1), c_icmp .eq 13 88]
theorem eX11_vote_54 (kb : Co) (a2 a3 a4 : Int) (s : St) : exb (famH (tX11_vote_54 kb) kb) 78 bX11_vote_54 [(7, 0, 0), (7, 0, 0), (0, 0, a2), (0, 0, a3), (2, 6, a4)] [] s = fX11_vote_54 kb a2 a3 a4 s := rfl
noncomputable def bX11_vote_78 : List En := [c_throw 53 10 2]
theorem eX11_vote_78 (kb : Co) (s : St) : exb (famH (tX11_vote_78 kb) kb) 0 bX11_vote_78 [(7, 0, 0), (7, 0, 0), (7, 0, 0), (7, 0, 0), (7, 0, 0)] [] s = fX11_vote_78 kb s := rfl
noncomputable def bX11_vote_88 : List En := [c_aload 4, c_getC 96 6 7 2, c_iload_n 2, c_iload_n 3, c_invv 127 [] gX7_addVotes mdX7_addVotes, c_ireturn]
theorem eX11_vote_88 (kb : Co) (a2 a3 a4 : Int) (s : St) : exb (famH (tX11_vote_88 kb) kb) 0 bX11_vote_88 [(7, 0, 0), (7, 0, 0), (0, 0, a2), (0, 0, a3), (2, 6, a4)] [] s = fX11_vote_88 kb a2 a3 a4 s := rfl
-- Floatparade.round(I)I
noncomputable def bX11_round_0 : List En := [c_aload_n 0, c_iload_n 1, c_invv 61 [] gX11_societyAt mdX11_societyAt, c_astore_n 2, c_aload_n 2, c_ifnonnull 13 20, c_throw 65 10 3]
theorem eX11_round_0 (kb : Co) (a0 a1 : Int) (s : St) : exb (famH (tX11_round_0 kb) kb) 0 bX11_round_0 [(3, 11, a0), (0, 0, a1), (7, 0, 0)] [] s = fX11_round_0 kb a0 a1 s := rfl
noncomputable def bX11_round_20 : List En := [c_aload_n 2, c_getC 96 6 7 2, c_invv 131 [] gX7_left mdX7_left, c_iconst 2, c_icmp .ge 13 41, c_throw 53 10 2]
theorem eX11_round_20 (kb : Co) (a2 : Int) (s : St) : exb (famH (tX11_round_20 kb) kb) 0 bX11_round_20 [(7, 0, 0), (7, 0, 0), (2, 6, a2)] [] s = fX11_round_20 kb a2 s := rfl
noncomputable def bX11_round_41 : List En := [c_aload_n 2, c_getC 96 6 7 2, c_invv 136 [] gX7_strikeWeakest mdX7_strikeWeakest, c_ireturn]
theorem eX11_round_41 (kb : Co) (a2 : Int) (s : St) : exb (famH (tX11_round_41 kb) kb) 0 bX11_round_41 [(7, 0, 0), (7, 0, 0), (2, 6, a2)] [] s = fX11_round_41 kb a2 s := rfl
-- Floatparade.isCorner(I)Z
noncomputable def bX11_isCorner_0 : List En := [c_iload_n 0, c_iconst 0, c_bipush 11, c_invs 39 [] gX11_isWithin mdX11_isWithin, c_zreturn]
theorem eX11_isCorner_0 (kb : Co) (a0 : Int) (s : St) : exb (famH (tX11_isCorner_0 kb) kb) 0 bX11_isCorner_0 [(0, 0, a0)] [] s = fX11_isCorner_0 kb a0 s := rfl
-- Floatparade.street(IIIIII)I
noncomputable def bX11_street_0 : List En := [c_iload_n 1, c_invs 139 [] gX11_isCorner mdX11_isCorner, c_if .eq 10 14, c_iload_n 2, c_invs 139 [] gX11_isCorner mdX11_isCorner, c_if .ne 13 24]
theorem eX11_street_0 (kb : Co) (a0 a1 a2 a3 a4 a5 a6 : Int) (s : St) : exb (famH (tX11_street_0 kb) kb) 14 bX11_street_0 [(3, 11, a0), (0, 0, a1), (0, 0, a2), (0, 0, a3), (0, 0, a4), (0, 0, a5), (0, 0, a6)] [] s = fX11_street_0 kb a0 a1 a2 a3 a4 a5 a6 s := rfl
noncomputable def bX11_street_14 : List En := [c_throw 65 10 3]
theorem eX11_street_14 (kb : Co) (s : St) : exb (famH (tX11_street_14 kb) kb) 0 bX11_street_14 [(7, 0, 0), (7, 0, 0), (7, 0, 0), (7, 0, 0), (7, 0, 0), (7, 0, 0), (7, 0, 0)] [] s = fX11_street_14 kb s := rfl
noncomputable def bX11_street_24 : List En := [c_iload_n 1, c_iload_n 2, c_icmp .eq 46 72, c_iload_n 3, c_iconst 1, c_bipush 30, c_invs 39 [] gX11_isWithin mdX11_isWithin, c_if .eq 36 72, c_iload 4, c_iconst 3, c_bipush 30, c_invs 39 [] gX11_isWithin mdX11_isWithin, c_if .eq 25 72, c_iload 5, c_iconst 2, c_bipush 30, c_invs 39 [] gX11_isWithin mdX11_isWithin, c_if .eq 14 72, c_iload 6, c_iconst 1, c_bipush 99, c_invs 39 [] gX11_isWithin mdX11_isWithin, c_if .ne 13 82]
theorem eX11_street_24 (kb : Co) (a0 a1 a2 a3 a4 a5 a6 : Int) (s : St) : exb (famH (tX11_street_24 kb) kb) 72 bX11_street_24 [(3, 11, a0), (0, 0, a1), (0, 0, a2), (0, 0, a3), (0, 0, a4), (0, 0, a5), (0, 0, a6)] [] s = fX11_street_24 kb a0 a1 a2 a3 a4 a5 a6 s := rfl
noncomputable def bX11_street_72 : List En := [c_throw 43 10 1]
theorem eX11_street_72 (kb : Co) (s : St) : exb (famH (tX11_street_72 kb) kb) 0 bX11_street_72 [(7, 0, 0), (7, 0, 0), (7, 0, 0), (7, 0, 0), (7, 0, 0), (7, 0, 0), (7, 0, 0)] [] s = fX11_street_72 kb s := rfl
noncomputable def bX11_street_82 : List En := [c_aload_n 0, c_getC 24 11 9 2, c_invv 146 [] gX9_isFull mdX9_isFull, c_if .ne 15 104, c_aload_n 0, c_getC 24 11 9 2, c_iload_n 1, c_iload_n 2, c_invv 149 [] gX9_between mdX9_between, c_ifnull 13 114]
theorem eX11_street_82 (kb : Co) (a0 a1 a2 a3 a4 a5 a6 : Int) (s : St) : exb (famH (tX11_street_82 kb) kb) 104 bX11_street_82 [(3, 11, a0), (0, 0, a1), (0, 0, a2), (0, 0, a3), (0, 0, a4), (0, 0, a5), (0, 0, a6)] [] s = fX11_street_82 kb a0 a1 a2 a3 a4 a5 a6 s := rfl
noncomputable def bX11_street_104 : List En := [c_throw 53 10 2]
theorem eX11_street_104 (kb : Co) (s : St) : exb (famH (tX11_street_104 kb) kb) 0 bX11_street_104 [(7, 0, 0), (7, 0, 0), (7, 0, 0), (7, 0, 0), (7, 0, 0), (7, 0, 0), (7, 0, 0)] [] s = fX11_street_104 kb s := rfl
noncomputable def bX11_street_114 : List En := [c_aload_n 0, c_getC 24 11 9 2, c_alloc 155 16 8 (by decide) [1, 2, 3, 4, 5, 6], c_invv 160 [] gX9_lay mdX9_lay, c_ireturn]
theorem eX11_street_114 (kb : Co) (a0 a1 a2 a3 a4 a5 a6 : Int) (s : St) : exb (famH (tX11_street_114 kb) kb) 0 bX11_street_114 [(3, 11, a0), (0, 0, a1), (0, 0, a2), (0, 0, a3), (0, 0, a4), (0, 0, a5), (0, 0, a6)] [] s = fX11_street_114 kb a0 a1 a2 a3 a4 a5 a6 s := rfl
-- Floatparade.leagueAt(I)LFloatparade$League;
noncomputable def bX11_leagueAt_0 : List En := [c_iload_n 1, c_iconst 0, c_aload_n 0, c_getC 17 11 14 1, c_alen 14 2, c_iconst 1, c_isub, c_invs 39 [] gX11_isWithin mdX11_isWithin, c_if .eq 12 24, c_aload_n 0, c_getC 17 11 14 1, c_iload_n 1, c_aald 14 0 2, c_goto 4 25]
theorem eX11_leagueAt_0 (kb : Co) (a0 a1 : Int) (s : St) : exb (famH (tX11_leagueAt_0 kb) kb) 0 bX11_leagueAt_0 [(3, 11, a0), (0, 0, a1)] [] s = fX11_leagueAt_0 kb a0 a1 s := rfl
noncomputable def bX11_leagueAt_24 : List En := [c_null 0]
theorem eX11_leagueAt_24 (kb : Co) (s : St) : exb (famH (tX11_leagueAt_24 kb) kb) 25 bX11_leagueAt_24 [(7, 0, 0), (7, 0, 0)] [] s = fX11_leagueAt_24 kb s := rfl
noncomputable def bX11_leagueAt_25 : List En := [c_areturn 0]
theorem eX11_leagueAt_25 (kb : Co) (y0 : Int) (s : St) : exb (famH (tX11_leagueAt_25 kb) kb) 0 bX11_leagueAt_25 [(7, 0, 0), (7, 0, 0)] [(2, 0, y0)] s = fX11_leagueAt_25 kb y0 s := rfl
-- Floatparade.route(II)V
noncomputable def bX11_route_0 : List En := [c_iload_n 2, c_invs 139 [] gX11_isCorner mdX11_isCorner, c_if .ne 13 17, c_throw 65 10 3]
theorem eX11_route_0 (kb : Co) (a0 a1 a2 : Int) (s : St) : exb (famH (tX11_route_0 kb) kb) 0 bX11_route_0 [(3, 11, a0), (0, 0, a1), (0, 0, a2), (7, 0, 0)] [] s = fX11_route_0 kb a0 a1 a2 s := rfl
noncomputable def bX11_route_17 : List En := [c_aload_n 0, c_iload_n 1, c_invv 164 [] gX11_leagueAt mdX11_leagueAt, c_astore_n 3, c_aload_n 3, c_ifnonnull 13 37, c_throw 43 10 1]
theorem eX11_route_17 (kb : Co) (a0 a1 a2 : Int) (s : St) : exb (famH (tX11_route_17 kb) kb) 0 bX11_route_17 [(3, 11, a0), (0, 0, a1), (0, 0, a2), (7, 0, 0)] [] s = fX11_route_17 kb a0 a1 a2 s := rfl
noncomputable def bX11_route_37 : List En := [c_aload_n 3, c_invv 170 [] gX0_isRouteFixed mdX0_isRouteFixed, c_if .eq 13 54, c_throw 53 10 2]
theorem eX11_route_37 (kb : Co) (a2 a3 : Int) (s : St) : exb (famH (tX11_route_37 kb) kb) 0 bX11_route_37 [(7, 0, 0), (7, 0, 0), (0, 0, a2), (2, 0, a3)] [] s = fX11_route_37 kb a2 a3 s := rfl
noncomputable def bX11_route_54 : List En := [c_aload_n 3, c_getC 175 0 3 1, c_iload_n 2, c_invv 179 [] gX3_startAt mdX3_startAt, c_return]
theorem eX11_route_54 (kb : Co) (a2 a3 : Int) (s : St) : exb (famH (tX11_route_54 kb) kb) 0 bX11_route_54 [(7, 0, 0), (7, 0, 0), (0, 0, a2), (2, 0, a3)] [] s = fX11_route_54 kb a2 a3 s := rfl
-- Floatparade.goOn(II)I
noncomputable def bX11_goOn_0 : List En := [c_iload_n 2, c_invs 139 [] gX11_isCorner mdX11_isCorner, c_if .ne 13 17, c_throw 65 10 3]
theorem eX11_goOn_0 (kb : Co) (a0 a1 a2 : Int) (s : St) : exb (famH (tX11_goOn_0 kb) kb) 0 bX11_goOn_0 [(3, 11, a0), (0, 0, a1), (0, 0, a2), (7, 0, 0), (7, 0, 0)] [] s = fX11_goOn_0 kb a0 a1 a2 s := rfl
noncomputable def bX11_goOn_17 : List En := [c_aload_n 0, c_iload_n 1, c_invv 164 [] gX11_leagueAt mdX11_leagueAt, c_astore_n 3, c_aload_n 3, c_ifnonnull 13 37, c_throw 43 10 1]
theorem eX11_goOn_17 (kb : Co) (a0 a1 a2 : Int) (s : St) : exb (famH (tX11_goOn_17 kb) kb) 0 bX11_goOn_17 [(3, 11, a0), (0, 0, a1), (0, 0, a2), (7, 0, 0), (7, 0, 0)] [] s = fX11_goOn_17 kb a0 a1 a2 s := rfl
noncomputable def bX11_goOn_37 : List En := [c_aload_n 0, c_getC 24 11 9 2, c_aload_n 3, c_getC 175 0 3 1, c_invv 184 [] gX3_lastCorner mdX3_lastCorner, c_iload_n 2, c_invv 149 [] gX9_between mdX9_between, c_astore 4, c_aload_n 3, c_invv 170 [] gX0_isRouteFixed mdX0_isRouteFixed, c_if .ne 19 77, c_aload_n 3, c_getC 175 0 3 1, c_iload_n 2, c_invv 187 [] gX3_mayTake mdX3_mayTake, c_if .eq 8 77, c_aload 4, c_ifnonnull 13 87]
theorem eX11_goOn_37 (kb : Co) (a0 a2 a3 : Int) (s : St) : exb (famH (tX11_goOn_37 kb) kb) 77 bX11_goOn_37 [(3, 11, a0), (7, 0, 0), (0, 0, a2), (2, 0, a3), (7, 0, 0)] [] s = fX11_goOn_37 kb a0 a2 a3 s := rfl
noncomputable def bX11_goOn_77 : List En := [c_throw 53 10 2]
theorem eX11_goOn_77 (kb : Co) (s : St) : exb (famH (tX11_goOn_77 kb) kb) 0 bX11_goOn_77 [(7, 0, 0), (7, 0, 0), (7, 0, 0), (7, 0, 0), (7, 0, 0)] [] s = fX11_goOn_77 kb s := rfl
noncomputable def bX11_goOn_87 : List En := [c_aload_n 3, c_getC 175 0 3 1, c_iload_n 2, c_aload 4, c_invv 192 [] gX3_lead mdX3_lead, c_ireturn]
theorem eX11_goOn_87 (kb : Co) (a2 a3 a4 : Int) (s : St) : exb (famH (tX11_goOn_87 kb) kb) 0 bX11_goOn_87 [(7, 0, 0), (7, 0, 0), (0, 0, a2), (2, 0, a3), (2, 8, a4)] [] s = fX11_goOn_87 kb a2 a3 a4 s := rfl
-- Floatparade.jury(IZ)Z
noncomputable def bX11_jury_0 : List En := [c_iload_n 1, c_invs 139 [] gX11_isCorner mdX11_isCorner, c_if .ne 13 17, c_throw 65 10 3]
theorem eX11_jury_0 (kb : Co) (a0 a1 a2 : Int) (s : St) : exb (famH (tX11_jury_0 kb) kb) 0 bX11_jury_0 [(3, 11, a0), (0, 0, a1), (0, 0, a2)] [] s = fX11_jury_0 kb a0 a1 a2 s := rfl
noncomputable def bX11_jury_17 : List En := [c_aload_n 0, c_getC 24 11 9 2, c_iload_n 1, c_iload_n 2, c_invv 196 [] gX9_setJury mdX9_setJury, c_zreturn]
theorem eX11_jury_17 (kb : Co) (a0 a1 a2 : Int) (s : St) : exb (famH (tX11_jury_17 kb) kb) 0 bX11_jury_17 [(3, 11, a0), (0, 0, a1), (0, 0, a2)] [] s = fX11_jury_17 kb a0 a1 a2 s := rfl
-- Floatparade.build(IIIII)I
noncomputable def bX11_build_0 : List En := [c_aload_n 0, c_iload_n 1, c_invv 61 [] gX11_societyAt mdX11_societyAt, c_astore 6, c_aload 6, c_ifnonnull 13 22, c_throw 65 10 3]
theorem eX11_build_0 (kb : Co) (a0 a1 a2 a3 a4 a5 : Int) (s : St) : exb (famH (tX11_build_0 kb) kb) 0 bX11_build_0 [(3, 11, a0), (0, 0, a1), (0, 0, a2), (0, 0, a3), (0, 0, a4), (0, 0, a5), (7, 0, 0)] [] s = fX11_build_0 kb a0 a1 a2 a3 a4 a5 s := rfl
noncomputable def bX11_build_22 : List En := [c_iload_n 2, c_iconst 1, c_bipush 20, c_invs 39 [] gX11_isWithin mdX11_isWithin, c_if .eq 35 64, c_iload_n 3, c_iconst 1, c_bipush 20, c_invs 39 [] gX11_isWithin mdX11_isWithin, c_if .eq 25 64, c_iload 4, c_iconst 1, c_bipush 99, c_invs 39 [] gX11_isWithin mdX11_isWithin, c_if .eq 14 64, c_iload 5, c_iconst 1, c_bipush 20, c_invs 39 [] gX11_isWithin mdX11_isWithin, c_if .ne 13 74]
theorem eX11_build_22 (kb : Co) (a2 a3 a4 a5 a6 : Int) (s : St) : exb (famH (tX11_build_22 kb) kb) 64 bX11_build_22 [(7, 0, 0), (7, 0, 0), (0, 0, a2), (0, 0, a3), (0, 0, a4), (0, 0, a5), (2, 6, a6)] [] s = fX11_build_22 kb a2 a3 a4 a5 a6 s := rfl
noncomputable def bX11_build_64 : List En := [c_throw 43 10 1]
theorem eX11_build_64 (kb : Co) (s : St) : exb (famH (tX11_build_64 kb) kb) 0 bX11_build_64 [(7, 0, 0), (7, 0, 0), (7, 0, 0), (7, 0, 0), (7, 0, 0), (7, 0, 0), (7, 0, 0)] [] s = fX11_build_64 kb s := rfl
noncomputable def bX11_build_74 : List En := [c_aload 6, c_getI 202 6 10, c_iconst 3, c_icmp .ge 11 91, c_aload 6, c_getI 205 6 15, c_if .eq 13 101]
theorem eX11_build_74 (kb : Co) (a2 a3 a4 a5 a6 : Int) (s : St) : exb (famH (tX11_build_74 kb) kb) 91 bX11_build_74 [(7, 0, 0), (7, 0, 0), (0, 0, a2), (0, 0, a3), (0, 0, a4), (0, 0, a5), (2, 6, a6)] [] s = fX11_build_74 kb a2 a3 a4 a5 a6 s := rfl
noncomputable def bX11_build_91 : List En := [c_throw 53 10 2]
theorem eX11_build_91 (kb : Co) (s : St) : exb (famH (tX11_build_91 kb) kb) 0 bX11_build_91 [(7, 0, 0), (7, 0, 0), (7, 0, 0), (7, 0, 0), (7, 0, 0), (7, 0, 0), (7, 0, 0)] [] s = fX11_build_91 kb s := rfl
noncomputable def bX11_build_101 : List En := [c_aload 6, c_alloc 211 13 10 (by decide) [2, 3, 4, 5], c_invv 216 [] gX6_addWagon mdX6_addWagon, c_ireturn]
theorem eX11_build_101 (kb : Co) (a2 a3 a4 a5 a6 : Int) (s : St) : exb (famH (tX11_build_101 kb) kb) 0 bX11_build_101 [(7, 0, 0), (7, 0, 0), (0, 0, a2), (0, 0, a3), (0, 0, a4), (0, 0, a5), (2, 6, a6)] [] s = fX11_build_101 kb a2 a3 a4 a5 a6 s := rfl
-- Floatparade.cut(IIIIII)I
noncomputable def bX11_cut_0 : List En := [c_aload_n 0, c_iload_n 1, c_invv 61 [] gX11_societyAt mdX11_societyAt, c_astore 7, c_aload 7, c_ifnonnull 7 16, c_null 10, c_goto 9 22]
theorem eX11_cut_0 (kb : Co) (a0 a1 a2 a3 a4 a5 a6 : Int) (s : St) : exb (famH (tX11_cut_0 kb) kb) 0 bX11_cut_0 [(3, 11, a0), (0, 0, a1), (0, 0, a2), (0, 0, a3), (0, 0, a4), (0, 0, a5), (0, 0, a6), (7, 0, 0), (7, 0, 0)] [] s = fX11_cut_0 kb a0 a1 a2 a3 a4 a5 a6 s := rfl
noncomputable def bX11_cut_16 : List En := [c_aload 7, c_iload_n 2, c_invv 220 [] gX6_wagonAt mdX6_wagonAt]
theorem eX11_cut_16 (kb : Co) (a2 a3 a4 a5 a6 a7 : Int) (s : St) : exb (famH (tX11_cut_16 kb) kb) 22 bX11_cut_16 [(7, 0, 0), (7, 0, 0), (0, 0, a2), (0, 0, a3), (0, 0, a4), (0, 0, a5), (0, 0, a6), (2, 6, a7), (7, 0, 0)] [] s = fX11_cut_16 kb a2 a3 a4 a5 a6 a7 s := rfl
noncomputable def bX11_cut_22 : List En := [c_astore 8, c_aload 7, c_ifnull 8 34, c_aload 8, c_ifnonnull 13 44]
theorem eX11_cut_22 (kb : Co) (a3 a4 a5 a6 a7 y0 : Int) (s : St) : exb (famH (tX11_cut_22 kb) kb) 34 bX11_cut_22 [(7, 0, 0), (7, 0, 0), (7, 0, 0), (0, 0, a3), (0, 0, a4), (0, 0, a5), (0, 0, a6), (2, 6, a7), (7, 0, 0)] [(2, 10, y0)] s = fX11_cut_22 kb a3 a4 a5 a6 a7 y0 s := rfl
noncomputable def bX11_cut_34 : List En := [c_throw 65 10 3]
theorem eX11_cut_34 (kb : Co) (s : St) : exb (famH (tX11_cut_34 kb) kb) 0 bX11_cut_34 [(7, 0, 0), (7, 0, 0), (7, 0, 0), (7, 0, 0), (7, 0, 0), (7, 0, 0), (7, 0, 0), (7, 0, 0), (7, 0, 0)] [] s = fX11_cut_34 kb s := rfl
noncomputable def bX11_cut_44 : List En := [c_iload_n 3, c_iconst 1, c_aload 8, c_getI 226 10 0, c_invs 39 [] gX11_isWithin mdX11_isWithin, c_if .eq 45 99, c_iload 4, c_iconst 1, c_aload 8, c_getI 229 10 1, c_invs 39 [] gX11_isWithin mdX11_isWithin, c_if .eq 31 99, c_iload 5, c_iconst 1, c_aload 8, c_getI 232 10 2, c_invs 39 [] gX11_isWithin mdX11_isWithin, c_if .eq 17 99, c_iload 6, c_iconst 1, c_aload 8, c_getI 235 10 3, c_invs 39 [] gX11_isWithin mdX11_isWithin, c_if .ne 13 109]
theorem eX11_cut_44 (kb : Co) (a3 a4 a5 a6 a7 a8 : Int) (s : St) : exb (famH (tX11_cut_44 kb) kb) 99 bX11_cut_44 [(7, 0, 0), (7, 0, 0), (7, 0, 0), (0, 0, a3), (0, 0, a4), (0, 0, a5), (0, 0, a6), (2, 6, a7), (2, 10, a8)] [] s = fX11_cut_44 kb a3 a4 a5 a6 a7 a8 s := rfl
noncomputable def bX11_cut_99 : List En := [c_throw 43 10 1]
theorem eX11_cut_99 (kb : Co) (s : St) : exb (famH (tX11_cut_99 kb) kb) 0 bX11_cut_99 [(7, 0, 0), (7, 0, 0), (7, 0, 0), (7, 0, 0), (7, 0, 0), (7, 0, 0), (7, 0, 0), (7, 0, 0), (7, 0, 0)] [] s = fX11_cut_99 kb s := rfl
noncomputable def bX11_cut_109 : List En := [c_aload 7, c_getI 205 6 15, c_if .eq 13 127, c_throw 53 10 2]
theorem eX11_cut_109 (kb : Co) (a3 a4 a5 a6 a7 a8 : Int) (s : St) : exb (famH (tX11_cut_109 kb) kb) 0 bX11_cut_109 [(7, 0, 0), (7, 0, 0), (7, 0, 0), (0, 0, a3), (0, 0, a4), (0, 0, a5), (0, 0, a6), (2, 6, a7), (2, 10, a8)] [] s = fX11_cut_109 kb a3 a4 a5 a6 a7 a8 s := rfl
noncomputable def bX11_cut_127 : List En := [c_aload 8, c_iload_n 3, c_iload 4, c_iload 5, c_iload 6, c_invv 240 [] gX10_shrink mdX10_shrink, c_ireturn]
theorem eX11_cut_127 (kb : Co) (a3 a4 a5 a6 a8 : Int) (s : St) : exb (famH (tX11_cut_127 kb) kb) 0 bX11_cut_127 [(7, 0, 0), (7, 0, 0), (7, 0, 0), (0, 0, a3), (0, 0, a4), (0, 0, a5), (0, 0, a6), (7, 0, 0), (2, 10, a8)] [] s = fX11_cut_127 kb a3 a4 a5 a6 a8 s := rfl
-- Floatparade.fits(II)Z
noncomputable def bX11_fits_0 : List En := [c_aload_n 0, c_iload_n 1, c_invv 61 [] gX11_societyAt mdX11_societyAt, c_astore_n 3, c_aload_n 3, c_ifnonnull 7 14, c_null 10, c_goto 8 19]
theorem eX11_fits_0 (kb : Co) (a0 a1 a2 : Int) (s : St) : exb (famH (tX11_fits_0 kb) kb) 0 bX11_fits_0 [(3, 11, a0), (0, 0, a1), (0, 0, a2), (7, 0, 0), (7, 0, 0), (7, 0, 0)] [] s = fX11_fits_0 kb a0 a1 a2 s := rfl
noncomputable def bX11_fits_14 : List En := [c_aload_n 3, c_iload_n 2, c_invv 220 [] gX6_wagonAt mdX6_wagonAt]
theorem eX11_fits_14 (kb : Co) (a0 a2 a3 : Int) (s : St) : exb (famH (tX11_fits_14 kb) kb) 19 bX11_fits_14 [(3, 11, a0), (7, 0, 0), (0, 0, a2), (2, 6, a3), (7, 0, 0), (7, 0, 0)] [] s = fX11_fits_14 kb a0 a2 a3 s := rfl
noncomputable def bX11_fits_19 : List En := [c_astore 4, c_aload_n 3, c_ifnull 8 30, c_aload 4, c_ifnonnull 13 40]
theorem eX11_fits_19 (kb : Co) (a0 a3 y0 : Int) (s : St) : exb (famH (tX11_fits_19 kb) kb) 30 bX11_fits_19 [(3, 11, a0), (7, 0, 0), (7, 0, 0), (2, 6, a3), (7, 0, 0), (7, 0, 0)] [(2, 10, y0)] s = fX11_fits_19 kb a0 a3 y0 s := rfl
noncomputable def bX11_fits_30 : List En := [c_throw 65 10 3]
theorem eX11_fits_30 (kb : Co) (s : St) : exb (famH (tX11_fits_30 kb) kb) 0 bX11_fits_30 [(7, 0, 0), (7, 0, 0), (7, 0, 0), (7, 0, 0), (7, 0, 0), (7, 0, 0)] [] s = fX11_fits_30 kb s := rfl
noncomputable def bX11_fits_40 : List En := [c_aload_n 0, c_aload_n 3, c_getI 244 6 5, c_invv 164 [] gX11_leagueAt mdX11_leagueAt, c_astore 5, c_aload 5, c_ifnull 20 72, c_aload 5, c_getC 175 0 3 1, c_aload 4, c_invv 247 [] gX3_lets mdX3_lets, c_if .eq 7 72, c_iconst 1, c_goto 4 73]
theorem eX11_fits_40 (kb : Co) (a0 a3 a4 : Int) (s : St) : exb (famH (tX11_fits_40 kb) kb) 0 bX11_fits_40 [(3, 11, a0), (7, 0, 0), (7, 0, 0), (2, 6, a3), (2, 10, a4), (7, 0, 0)] [] s = fX11_fits_40 kb a0 a3 a4 s := rfl
noncomputable def bX11_fits_72 : List En := [c_iconst 0]
theorem eX11_fits_72 (kb : Co) (s : St) : exb (famH (tX11_fits_72 kb) kb) 73 bX11_fits_72 [(7, 0, 0), (7, 0, 0), (7, 0, 0), (7, 0, 0), (7, 0, 0), (7, 0, 0)] [] s = fX11_fits_72 kb s := rfl
noncomputable def bX11_fits_73 : List En := [c_zreturn]
theorem eX11_fits_73 (kb : Co) (y0 : Int) (s : St) : exb (famH (tX11_fits_73 kb) kb) 0 bX11_fits_73 [(7, 0, 0), (7, 0, 0), (7, 0, 0), (7, 0, 0), (7, 0, 0), (7, 0, 0)] [(0, 0, y0)] s = fX11_fits_73 kb y0 s := rfl
-- Floatparade.enter(II)I
noncomputable def bX11_enter_0 : List En := [c_aload_n 0, c_iload_n 1, c_invv 61 [] gX11_societyAt mdX11_societyAt, c_astore_n 3, c_aload_n 3, c_ifnonnull 13 20, c_throw 65 10 3]
theorem eX11_enter_0 (kb : Co) (a0 a1 a2 : Int) (s : St) : exb (famH (tX11_enter_0 kb) kb) 0 bX11_enter_0 [(3, 11, a0), (0, 0, a1), (0, 0, a2), (7, 0, 0), (7, 0, 0)] [] s = fX11_enter_0 kb a0 a1 a2 s := rfl
noncomputable def bX11_enter_20 : List En := [c_iload_n 2, c_iconst 0, c_bipush 99, c_invs 39 [] gX11_isWithin mdX11_isWithin, c_if .ne 13 40, c_throw 43 10 1]
theorem eX11_enter_20 (kb : Co) (a0 a2 a3 : Int) (s : St) : exb (famH (tX11_enter_20 kb) kb) 0 bX11_enter_20 [(3, 11, a0), (7, 0, 0), (0, 0, a2), (2, 6, a3), (7, 0, 0)] [] s = fX11_enter_20 kb a0 a2 a3 s := rfl
noncomputable def bX11_enter_40 : List En := [c_aload_n 0, c_aload_n 3, c_getI 244 6 5, c_invv 164 [] gX11_leagueAt mdX11_leagueAt, c_astore 4, c_aload 4, c_ifnull 33 85, c_aload_n 3, c_getI 205 6 15, c_if .ne 26 85, c_aload 4, c_getC 253 0 1 4, c_getI 257 1 6, c_if .ne 15 85, c_aload 4, c_getC 175 0 3 1, c_aload_n 3, c_invv 262 [] gX3_letsAll mdX3_letsAll, c_if .ne 14 96]
theorem eX11_enter_40 (kb : Co) (a0 a2 a3 : Int) (s : St) : exb (famH (tX11_enter_40 kb) kb) 85 bX11_enter_40 [(3, 11, a0), (7, 0, 0), (0, 0, a2), (2, 6, a3), (7, 0, 0)] [] s = fX11_enter_40 kb a0 a2 a3 s := rfl
noncomputable def bX11_enter_85 : List En := [c_throw 53 11 2]
theorem eX11_enter_85 (kb : Co) (s : St) : exb (famH (tX11_enter_85 kb) kb) 0 bX11_enter_85 [(7, 0, 0), (7, 0, 0), (7, 0, 0), (7, 0, 0), (7, 0, 0)] [] s = fX11_enter_85 kb s := rfl
noncomputable def bX11_enter_96 : List En := [c_aload_n 3, c_iconst 1, c_putZ 205 6 15, c_aload_n 3, c_iload_n 2, c_putI 267 6 11, c_aload 4, c_aload_n 0, c_getC 11 11 13 0, c_aload_n 0, c_getI 28 11 5, c_invv 270 [] gX0_findOrder mdX0_findOrder, c_aload 4, c_get2 274 0 4 2, c_getI 278 4 1, c_ireturn]
theorem eX11_enter_96 (kb : Co) (a0 a2 a3 a4 : Int) (s : St) : exb (famH (tX11_enter_96 kb) kb) 0 bX11_enter_96 [(3, 11, a0), (7, 0, 0), (0, 0, a2), (2, 6, a3), (2, 0, a4)] [] s = fX11_enter_96 kb a0 a2 a3 a4 s := rfl
-- Floatparade.change(II)Z
noncomputable def bX11_change_0 : List En := [c_aload_n 0, c_iload_n 1, c_invv 61 [] gX11_societyAt mdX11_societyAt, c_astore_n 3, c_aload_n 0, c_iload_n 2, c_invv 61 [] gX11_societyAt mdX11_societyAt, c_astore 4, c_aload_n 3, c_ifnull 8 22, c_aload 4, c_ifnonnull 13 32]
theorem eX11_change_0 (kb : Co) (a0 a1 a2 : Int) (s : St) : exb (famH (tX11_change_0 kb) kb) 22 bX11_change_0 [(3, 11, a0), (0, 0, a1), (0, 0, a2), (7, 0, 0), (7, 0, 0), (7, 0, 0)] [] s = fX11_change_0 kb a0 a1 a2 s := rfl
noncomputable def bX11_change_22 : List En := [c_throw 65 10 3]
theorem eX11_change_22 (kb : Co) (s : St) : exb (famH (tX11_change_22 kb) kb) 0 bX11_change_22 [(7, 0, 0), (7, 0, 0), (7, 0, 0), (7, 0, 0), (7, 0, 0), (7, 0, 0)] [] s = fX11_change_22 kb s := rfl
noncomputable def bX11_change_32 : List En := [c_iload_n 1, c_iload_n 2, c_icmp .ne 13 47, c_throw 43 10 1]
theorem eX11_change_32 (kb : Co) (a0 a1 a2 a3 a4 : Int) (s : St) : exb (famH (tX11_change_32 kb) kb) 0 bX11_change_32 [(3, 11, a0), (0, 0, a1), (0, 0, a2), (2, 6, a3), (2, 6, a4), (7, 0, 0)] [] s = fX11_change_32 kb a0 a1 a2 a3 a4 s := rfl
noncomputable def bX11_change_47 : List En := [c_aload_n 0, c_aload_n 3, c_getI 244 6 5, c_invv 164 [] gX11_leagueAt mdX11_leagueAt, c_astore 5, c_aload 5, c_ifnull 41 100, c_aload_n 3, c_getI 205 6 15, c_if .eq 34 100, c_aload 4, c_getI 205 6 15, c_if .eq 26 100, c_aload_n 3, c_getI 244 6 5, c_aload 4, c_getI 244 6 5, c_icmp .ne 14 100, c_aload 5, c_getC 253 0 1 4, c_getI 257 1 6, c_if .eq 14 111]
theorem eX11_change_47 (kb : Co) (a0 a3 a4 : Int) (s : St) : exb (famH (tX11_change_47 kb) kb) 100 bX11_change_47 [(3, 11, a0), (7, 0, 0), (7, 0, 0), (2, 6, a3), (2, 6, a4), (7, 0, 0)] [] s = fX11_change_47 kb a0 a3 a4 s := rfl
noncomputable def bX11_change_100 : List En := [c_throw 53 11 2]
theorem eX11_change_100 (kb : Co) (s : St) : exb (famH (tX11_change_100 kb) kb) 0 bX11_change_100 [(7, 0, 0), (7, 0, 0), (7, 0, 0), (7, 0, 0), (7, 0, 0), (7, 0, 0)] [] s = fX11_change_100 kb s := rfl
noncomputable def bX11_change_111 : List En := [c_aload 5, c_get2 274 0 4 2, c_aload_n 3, c_aload 4, c_invv 285 [] gX4_changePlaces mdX4_changePlaces, c_zreturn]
theorem eX11_change_111 (kb : Co) (a3 a4 a5 : Int) (s : St) : exb (famH (tX11_change_111 kb) kb) 0 bX11_change_111 [(7, 0, 0), (7, 0, 0), (7, 0, 0), (2, 6, a3), (2, 6, a4), (2, 0, a5)] [] s = fX11_change_111 kb a3 a4 a5 s := rfl
-- Floatparade.order(II)I
noncomputable def bX11_order_0 : List En := [c_iload_n 2, c_if .ge 14 15, c_throw 65 11 3]
theorem eX11_order_0 (kb : Co) (a0 a1 a2 : Int) (s : St) : exb (famH (tX11_order_0 kb) kb) 0 bX11_order_0 [(3, 11, a0), (0, 0, a1), (0, 0, a2), (7, 0, 0)] [] s = fX11_order_0 kb a0 a1 a2 s := rfl
noncomputable def bX11_order_15 : List En := [c_aload_n 0, c_iload_n 1, c_invv 164 [] gX11_leagueAt mdX11_leagueAt, c_astore_n 3, c_aload_n 3, c_ifnonnull 13 35, c_throw 43 10 1]
theorem eX11_order_15 (kb : Co) (a0 a1 a2 : Int) (s : St) : exb (famH (tX11_order_15 kb) kb) 0 bX11_order_15 [(3, 11, a0), (0, 0, a1), (0, 0, a2), (7, 0, 0)] [] s = fX11_order_15 kb a0 a1 a2 s := rfl
noncomputable def bX11_order_35 : List En := [c_aload_n 3, c_get2 274 0 4 2, c_iload_n 2, c_invv 291 [] gX4_numberAt mdX4_numberAt, c_ireturn]
theorem eX11_order_35 (kb : Co) (a2 a3 : Int) (s : St) : exb (famH (tX11_order_35 kb) kb) 0 bX11_order_35 [(7, 0, 0), (7, 0, 0), (0, 0, a2), (2, 0, a3)] [] s = fX11_order_35 kb a2 a3 s := rfl
-- Floatparade.begin(III)I
noncomputable def bX11_begin_0 : List En := [c_aload_n 0, c_iload_n 1, c_invv 164 [] gX11_leagueAt mdX11_leagueAt, c_astore 4, c_aload 4, c_ifnull 25 34, c_iload_n 2, c_iconst 1, c_sipush 200, c_invs 39 [] gX11_isWithin mdX11_isWithin, c_if .eq 14 34, c_iload_n 3, c_iload_n 2, c_sipush 200, c_invs 39 [] gX11_isWithin mdX11_isWithin, c_if .ne 14 45]
theorem eX11_begin_0 (kb : Co) (a0 a1 a2 a3 : Int) (s : St) : exb (famH (tX11_begin_0 kb) kb) 34 bX11_begin_0 [(3, 11, a0), (0, 0, a1), (0, 0, a2), (0, 0, a3), (7, 0, 0)] [] s = fX11_begin_0 kb a0 a1 a2 a3 s := rfl
noncomputable def bX11_begin_34 : List En := [c_throw 43 11 1]
theorem eX11_begin_34 (kb : Co) (s : St) : exb (famH (tX11_begin_34 kb) kb) 0 bX11_begin_34 [(7, 0, 0), (7, 0, 0), (7, 0, 0), (7, 0, 0), (7, 0, 0)] [] s = fX11_begin_34 kb s := rfl
noncomputable def bX11_begin_45 : List En := [c_aload 4, c_getC 253 0 1 4, c_getI 257 1 6, c_if .ne 14 67, c_aload 4, c_get2 274 0 4 2, c_getI 278 4 1, c_if .ne 14 78]
theorem eX11_begin_45 (kb : Co) (a2 a3 a4 : Int) (s : St) : exb (famH (tX11_begin_45 kb) kb) 67 bX11_begin_45 [(7, 0, 0), (7, 0, 0), (0, 0, a2), (0, 0, a3), (2, 0, a4)] [] s = fX11_begin_45 kb a2 a3 a4 s := rfl
noncomputable def bX11_begin_67 : List En := [c_throw 53 11 2]
theorem eX11_begin_67 (kb : Co) (s : St) : exb (famH (tX11_begin_67 kb) kb) 0 bX11_begin_67 [(7, 0, 0), (7, 0, 0), (7, 0, 0), (7, 0, 0), (7, 0, 0)] [] s = fX11_begin_67 kb s := rfl
noncomputable def bX11_begin_78 : List En := [c_aload 4, c_getC 253 0 1 4, c_aload 4, c_get2 274 0 4 2, c_iload_n 2, c_iload_n 3, c_invv 298 [] gX1_form mdX1_form, c_ireturn]
theorem eX11_begin_78 (kb : Co) (a2 a3 a4 : Int) (s : St) : exb (famH (tX11_begin_78 kb) kb) 0 bX11_begin_78 [(7, 0, 0), (7, 0, 0), (0, 0, a2), (0, 0, a3), (2, 0, a4)] [] s = fX11_begin_78 kb a2 a3 a4 s := rfl
-- Floatparade.stop(III)I
noncomputable def bX11_stop_0 : List En := [c_aload_n 0, c_iload_n 1, c_invv 164 [] gX11_leagueAt mdX11_leagueAt, c_astore 4, c_aload 4, c_ifnull 13 22, c_iload_n 3, c_iconst 1, c_bipush 20, c_invs 39 [] gX11_isWithin mdX11_isWithin, c_if .ne 14 33]
theorem eX11_stop_0 (kb : Co) (a0 a1 a2 a3 : Int) (s : St) : exb (famH (tX11_stop_0 kb) kb) 22 bX11_stop_0 [(3, 11, a0), (0, 0, a1), (0, 0, a2), (0, 0, a3), (7, 0, 0), (7, 0, 0)] [] s = fX11_stop_0 kb a0 a1 a2 a3 s := rfl
noncomputable def bX11_stop_22 : List En := [c_throw 43 11 1]
theorem eX11_stop_22 (kb : Co) (s : St) : exb (famH (tX11_stop_22 kb) kb) 0 bX11_stop_22 [(7, 0, 0), (7, 0, 0), (7, 0, 0), (7, 0, 0), (7, 0, 0), (7, 0, 0)] [] s = fX11_stop_22 kb s := rfl
noncomputable def bX11_stop_33 : List En := [c_aload 4, c_getC 253 0 1 4, c_invv 304 [] gX1_goesOn mdX1_goesOn, c_if .ne 14 55, c_throw 53 11 2]
theorem eX11_stop_33 (kb : Co) (a2 a3 a4 : Int) (s : St) : exb (famH (tX11_stop_33 kb) kb) 0 bX11_stop_33 [(7, 0, 0), (7, 0, 0), (0, 0, a2), (0, 0, a3), (2, 0, a4), (7, 0, 0)] [] s = fX11_stop_33 kb a2 a3 a4 s := rfl
noncomputable def bX11_stop_55 : List En := [c_aload 4, c_getC 253 0 1 4, c_iload_n 2, c_invv 309 [] gX1_partAt mdX1_partAt, c_astore 5, c_aload 5, c_ifnull 19 87, c_aload 5, c_aload 4, c_getC 175 0 3 1, c_invv 313 [] gX3_cells mdX3_cells, c_invv 316 [] gX2_isOut mdX2_isOut, c_if .eq 14 98]
theorem eX11_stop_55 (kb : Co) (a2 a3 a4 : Int) (s : St) : exb (famH (tX11_stop_55 kb) kb) 87 bX11_stop_55 [(7, 0, 0), (7, 0, 0), (0, 0, a2), (0, 0, a3), (2, 0, a4), (7, 0, 0)] [] s = fX11_stop_55 kb a2 a3 a4 s := rfl
noncomputable def bX11_stop_87 : List En := [c_throw 65 11 3]
theorem eX11_stop_87 (kb : Co) (s : St) : exb (famH (tX11_stop_87 kb) kb) 0 bX11_stop_87 [(7, 0, 0), (7, 0, 0), (7, 0, 0), (7, 0, 0), (7, 0, 0), (7, 0, 0)] [] s = fX11_stop_87 kb s := rfl
noncomputable def bX11_stop_98 : List En := [c_aload 5, c_dup, c_getI 323 2 4, c_iload_n 3, c_iadd, c_putI 323 2 4, c_aload 5, c_getI 323 2 4, c_ireturn]
theorem eX11_stop_98 (kb : Co) (a3 a5 : Int) (s : St) : exb (famH (tX11_stop_98 kb) kb) 0 bX11_stop_98 [(7, 0, 0), (7, 0, 0), (7, 0, 0), (0, 0, a3), (7, 0, 0), (2, 2, a5)] [] s = fX11_stop_98 kb a3 a5 s := rfl
-- Floatparade.rain(Z)Z
noncomputable def bX11_rain_0 : List En := [c_aload_n 0, c_getI 326 11 6, c_istore_n 2, c_aload_n 0, c_iload_n 1, c_putZ 326 11 6, c_iload_n 2, c_zreturn]
theorem eX11_rain_0 (kb : Co) (a0 a1 : Int) (s : St) : exb (famH (tX11_rain_0 kb) kb) 0 bX11_rain_0 [(3, 11, a0), (0, 0, a1), (7, 0, 0)] [] s = fX11_rain_0 kb a0 a1 s := rfl
-- Floatparade.ambulance(I)I
noncomputable def bX11_ambulance_0 : List En := [c_iload_n 1, c_invs 139 [] gX11_isCorner mdX11_isCorner, c_if .ne 13 17, c_throw 65 10 3]
theorem eX11_ambulance_0 (kb : Co) (a0 a1 : Int) (s : St) : exb (famH (tX11_ambulance_0 kb) kb) 0 bX11_ambulance_0 [(3, 11, a0), (0, 0, a1), (7, 0, 0), (7, 0, 0), (7, 0, 0)] [] s = fX11_ambulance_0 kb a0 a1 s := rfl
noncomputable def bX11_ambulance_17 : List En := [c_iconst 0, c_istore_n 2, c_iconst 0, c_istore_n 3]
theorem eX11_ambulance_17 (kb : Co) (a0 a1 : Int) (s : St) : exb (famH (tX11_ambulance_17 kb) kb) 21 bX11_ambulance_17 [(3, 11, a0), (0, 0, a1), (7, 0, 0), (7, 0, 0), (7, 0, 0)] [] s = fX11_ambulance_17 kb a0 a1 s := rfl
noncomputable def bX11_ambulance_21 : List En := [c_iload_n 3, c_aload_n 0, c_getC 17 11 14 1, c_alen 14 2, c_icmp .ge 62 89, c_aload_n 0, c_getC 17 11 14 1, c_iload_n 3, c_aald 14 0 2, c_astore 4, c_aload 4, c_ifnull 43 83, c_aload 4, c_getC 253 0 1 4, c_invv 304 [] gX1_goesOn mdX1_goesOn, c_if .eq 32 83, c_aload 4, c_getC 253 0 1 4, c_iload_n 1, c_invv 329 [] gX1_hold mdX1_hold, c_iload_n 2, c_aload 4, c_getC 253 0 1 4, c_aload 4, c_getC 175 0 3 1, c_iload_n 1, c_invv 332 [] gX3_cellOf mdX3_cellOf, c_invv 335 [] gX1_partsOn mdX1_partsOn, c_iadd, c_istore_n 2]
theorem eX11_ambulance_21 (kb : Co) (a0 a1 a2 a3 : Int) (s : St) : exb (famH (tX11_ambulance_21 kb) kb) 83 bX11_ambulance_21 [(3, 11, a0), (0, 0, a1), (0, 0, a2), (0, 0, a3), (7, 0, 0)] [] s = fX11_ambulance_21 kb a0 a1 a2 a3 s := rfl
noncomputable def bX11_ambulance_83 : List En := [c_iinc 3 1, c_goto (-65) 21]
theorem eX11_ambulance_83 (kb : Co) (a0 a1 a2 a3 : Int) (s : St) : exb (famH (tX11_ambulance_83 kb) kb) 0 bX11_ambulance_83 [(3, 11, a0), (0, 0, a1), (0, 0, a2), (0, 0, a3), (7, 0, 0)] [] s = fX11_ambulance_83 kb a0 a1 a2 a3 s := rfl
noncomputable def bX11_ambulance_89 : List En := [c_iload_n 2, c_ireturn]
theorem eX11_ambulance_89 (kb : Co) (a2 : Int) (s : St) : exb (famH (tX11_ambulance_89 kb) kb) 0 bX11_ambulance_89 [(7, 0, 0), (7, 0, 0), (0, 0, a2), (7, 0, 0), (7, 0, 0)] [] s = fX11_ambulance_89 kb a2 s := rfl
-- Floatparade.march(II)I
noncomputable def bX11_march_0 : List En := [c_aload_n 0, c_iload_n 1, c_invv 164 [] gX11_leagueAt mdX11_leagueAt, c_astore_n 3, c_aload_n 3, c_ifnull 13 20, c_iload_n 2, c_iconst 1, c_bipush 60, c_invs 39 [] gX11_isWithin mdX11_isWithin, c_if .ne 14 31]
theorem eX11_march_0 (kb : Co) (a0 a1 a2 : Int) (s : St) : exb (famH (tX11_march_0 kb) kb) 20 bX11_march_0 [(3, 11, a0), (0, 0, a1), (0, 0, a2), (7, 0, 0), (7, 0, 0)] [] s = fX11_march_0 kb a0 a1 a2 s := rfl
noncomputable def bX11_march_20 : List En := [c_throw 43 11 1]
theorem eX11_march_20 (kb : Co) (s : St) : exb (famH (tX11_march_20 kb) kb) 0 bX11_march_20 [(7, 0, 0), (7, 0, 0), (7, 0, 0), (7, 0, 0), (7, 0, 0)] [] s = fX11_march_20 kb s := rfl
noncomputable def bX11_march_31 : List En := [c_aload_n 3, c_getC 253 0 1 4, c_invv 304 [] gX1_goesOn mdX1_goesOn, c_if .ne 14 52, c_throw 53 11 2]
theorem eX11_march_31 (kb : Co) (a0 a2 a3 : Int) (s : St) : exb (famH (tX11_march_31 kb) kb) 0 bX11_march_31 [(3, 11, a0), (7, 0, 0), (0, 0, a2), (2, 0, a3), (7, 0, 0)] [] s = fX11_march_31 kb a0 a2 a3 s := rfl
noncomputable def bX11_march_52 : List En := [c_iconst 0, c_istore 4]
theorem eX11_march_52 (kb : Co) (a0 a2 a3 : Int) (s : St) : exb (famH (tX11_march_52 kb) kb) 55 bX11_march_52 [(3, 11, a0), (7, 0, 0), (0, 0, a2), (2, 0, a3), (7, 0, 0)] [] s = fX11_march_52 kb a0 a2 a3 s := rfl
noncomputable def bX11_march_55 : List En := [c_iload 4, c_iload_n 2, c_icmp .ge 38 96, c_aload_n 3, c_getC 253 0 1 4, c_invv 304 [] gX1_goesOn mdX1_goesOn, c_if .eq 28 96, c_aload_n 3, c_getC 253 0 1 4, c_aload_n 3, c_getC 175 0 3 1, c_aload_n 0, c_getC 24 11 9 2, c_aload_n 0, c_getI 326 11 6, c_invv 338 [] gX1_passMinute mdX1_passMinute, c_iinc 4 1, c_goto (-38) 55]
theorem eX11_march_55 (kb : Co) (a0 a2 a3 a4 : Int) (s : St) : exb (famH (tX11_march_55 kb) kb) 0 bX11_march_55 [(3, 11, a0), (7, 0, 0), (0, 0, a2), (2, 0, a3), (0, 0, a4)] [] s = fX11_march_55 kb a0 a2 a3 a4 s := rfl
noncomputable def bX11_march_96 : List En := [c_aload_n 3, c_getC 253 0 1 4, c_getI 342 1 3, c_ireturn]
theorem eX11_march_96 (kb : Co) (a3 : Int) (s : St) : exb (famH (tX11_march_96 kb) kb) 0 bX11_march_96 [(7, 0, 0), (7, 0, 0), (7, 0, 0), (2, 0, a3), (7, 0, 0)] [] s = fX11_march_96 kb a3 s := rfl
-- Floatparade.part(III)I
noncomputable def bX11_part_0 : List En := [c_aload_n 0, c_iload_n 1, c_invv 164 [] gX11_leagueAt mdX11_leagueAt, c_astore 4, c_aload 4, c_ifnull 12 21, c_iload_n 3, c_iconst 0, c_iconst 4, c_invs 39 [] gX11_isWithin mdX11_isWithin, c_if .ne 14 32]
theorem eX11_part_0 (kb : Co) (a0 a1 a2 a3 : Int) (s : St) : exb (famH (tX11_part_0 kb) kb) 21 bX11_part_0 [(3, 11, a0), (0, 0, a1), (0, 0, a2), (0, 0, a3), (7, 0, 0), (7, 0, 0)] [] s = fX11_part_0 kb a0 a1 a2 a3 s := rfl
noncomputable def bX11_part_21 : List En := [c_throw 43 11 1]
theorem eX11_part_21 (kb : Co) (s : St) : exb (famH (tX11_part_21 kb) kb) 0 bX11_part_21 [(7, 0, 0), (7, 0, 0), (7, 0, 0), (7, 0, 0), (7, 0, 0), (7, 0, 0)] [] s = fX11_part_21 kb s := rfl
noncomputable def bX11_part_32 : List En := [c_aload 4, c_getC 253 0 1 4, c_getI 257 1 6, c_if .ne 14 54, c_throw 53 11 2]
theorem eX11_part_32 (kb : Co) (a2 a3 a4 : Int) (s : St) : exb (famH (tX11_part_32 kb) kb) 0 bX11_part_32 [(7, 0, 0), (7, 0, 0), (0, 0, a2), (0, 0, a3), (2, 0, a4), (7, 0, 0)] [] s = fX11_part_32 kb a2 a3 a4 s := rfl
noncomputable def bX11_part_54 : List En := [c_aload 4, c_getC 253 0 1 4, c_iload_n 2, c_invv 309 [] gX1_partAt mdX1_partAt, c_astore 5, c_aload 5, c_ifnonnull 14 81, c_throw 65 11 3]
theorem eX11_part_54 (kb : Co) (a2 a3 a4 : Int) (s : St) : exb (famH (tX11_part_54 kb) kb) 0 bX11_part_54 [(7, 0, 0), (7, 0, 0), (0, 0, a2), (0, 0, a3), (2, 0, a4), (7, 0, 0)] [] s = fX11_part_54 kb a2 a3 a4 s := rfl
noncomputable def bX11_part_81 : List En := [c_aload 5, c_iload_n 3, c_aload 4, c_getC 175 0 3 1, c_invv 313 [] gX3_cells mdX3_cells, c_invv 351 [] gX2_tell mdX2_tell, c_ireturn]
theorem eX11_part_81 (kb : Co) (a3 a4 a5 : Int) (s : St) : exb (famH (tX11_part_81 kb) kb) 0 bX11_part_81 [(7, 0, 0), (7, 0, 0), (7, 0, 0), (0, 0, a3), (2, 0, a4), (2, 2, a5)] [] s = fX11_part_81 kb a3 a4 a5 s := rfl
-- Floatparade.clock(II)I
noncomputable def bX11_clock_0 : List En := [c_aload_n 0, c_iload_n 1, c_invv 61 [] gX11_societyAt mdX11_societyAt, c_astore_n 3, c_aload_n 3, c_ifnonnull 13 20, c_throw 65 10 3]
theorem eX11_clock_0 (kb : Co) (a0 a1 a2 : Int) (s : St) : exb (famH (tX11_clock_0 kb) kb) 0 bX11_clock_0 [(3, 11, a0), (0, 0, a1), (0, 0, a2), (7, 0, 0)] [] s = fX11_clock_0 kb a0 a1 a2 s := rfl
noncomputable def bX11_clock_20 : List En := [c_iload_n 2, c_iconst 0, c_iconst 3, c_invs 39 [] gX11_isWithin mdX11_isWithin, c_if .ne 14 40, c_throw 43 11 1]
theorem eX11_clock_20 (kb : Co) (a2 a3 : Int) (s : St) : exb (famH (tX11_clock_20 kb) kb) 0 bX11_clock_20 [(7, 0, 0), (7, 0, 0), (0, 0, a2), (2, 6, a3)] [] s = fX11_clock_20 kb a2 a3 s := rfl
noncomputable def bX11_clock_40 : List En := [c_iload_n 2, c_tsw (.tableswitch 42 0 2 #[27, 32, 37]) (fun _ _ _ _ _ _ _ => rfl) 27 83 [0, 1, 2] [68, 73, 78]]
theorem eX11_clock_40 (kb : Co) (a2 a3 : Int) (s : St) : exb (famH (tX11_clock_40 kb) kb) 0 bX11_clock_40 [(7, 0, 0), (7, 0, 0), (0, 0, a2), (2, 6, a3)] [] s = fX11_clock_40 kb a2 a3 s := rfl
noncomputable def bX11_clock_68 : List En := [c_aload_n 3, c_getI 356 6 12, c_ireturn]
theorem eX11_clock_68 (kb : Co) (a3 : Int) (s : St) : exb (famH (tX11_clock_68 kb) kb) 0 bX11_clock_68 [(7, 0, 0), (7, 0, 0), (7, 0, 0), (2, 6, a3)] [] s = fX11_clock_68 kb a3 s := rfl
noncomputable def bX11_clock_73 : List En := [c_aload_n 3, c_getI 359 6 13, c_ireturn]
theorem eX11_clock_73 (kb : Co) (a3 : Int) (s : St) : exb (famH (tX11_clock_73 kb) kb) 0 bX11_clock_73 [(7, 0, 0), (7, 0, 0), (7, 0, 0), (2, 6, a3)] [] s = fX11_clock_73 kb a3 s := rfl
noncomputable def bX11_clock_78 : List En := [c_aload_n 3, c_getI 362 6 14, c_ireturn]
theorem eX11_clock_78 (kb : Co) (a3 : Int) (s : St) : exb (famH (tX11_clock_78 kb) kb) 0 bX11_clock_78 [(7, 0, 0), (7, 0, 0), (7, 0, 0), (2, 6, a3)] [] s = fX11_clock_78 kb a3 s := rfl
noncomputable def bX11_clock_83 : List En := [c_aload_n 3, c_invv 365 [] gX6_time mdX6_time, c_ireturn]
theorem eX11_clock_83 (kb : Co) (a3 : Int) (s : St) : exb (famH (tX11_clock_83 kb) kb) 0 bX11_clock_83 [(7, 0, 0), (7, 0, 0), (7, 0, 0), (2, 6, a3)] [] s = fX11_clock_83 kb a3 s := rfl
-- Floatparade.isJudge(I)Z
noncomputable def bX11_isJudge_0 : List En := [c_iload_n 0, c_iconst 0, c_iconst 3, c_invs 39 [] gX11_isWithin mdX11_isWithin, c_zreturn]
theorem eX11_isJudge_0 (kb : Co) (a0 : Int) (s : St) : exb (famH (tX11_isJudge_0 kb) kb) 0 bX11_isJudge_0 [(0, 0, a0)] [] s = fX11_isJudge_0 kb a0 s := rfl
-- Floatparade.isCategory(I)Z
noncomputable def bX11_isCategory_0 : List En := [c_iload_n 0, c_iconst 0, c_iconst 4, c_invs 39 [] gX11_isWithin mdX11_isWithin, c_zreturn]
theorem eX11_isCategory_0 (kb : Co) (a0 : Int) (s : St) : exb (famH (tX11_isCategory_0 kb) kb) 0 bX11_isCategory_0 [(0, 0, a0)] [] s = fX11_isCategory_0 kb a0 s := rfl
-- Floatparade.hasMarched(LFloatparade$Society;)Z
noncomputable def bX11_hasMarched_0 : List En := [c_aload_n 0, c_aload_n 1, c_getI 244 6 5, c_invv 164 [] gX11_leagueAt mdX11_leagueAt, c_astore_n 2, c_aload_n 2, c_ifnull 24 34, c_aload_n 2, c_getC 253 0 1 4, c_getI 431 1 7, c_if .eq 14 34, c_aload_n 1, c_getI 205 6 15, c_if .eq 7 34, c_iconst 1, c_goto 4 35]
theorem eX11_hasMarched_0 (kb : Co) (a0 a1 : Int) (s : St) : exb (famH (tX11_hasMarched_0 kb) kb) 0 bX11_hasMarched_0 [(3, 11, a0), (2, 6, a1), (7, 0, 0)] [] s = fX11_hasMarched_0 kb a0 a1 s := rfl
noncomputable def bX11_hasMarched_34 : List En := [c_iconst 0]
theorem eX11_hasMarched_34 (kb : Co) (s : St) : exb (famH (tX11_hasMarched_34 kb) kb) 35 bX11_hasMarched_34 [(7, 0, 0), (7, 0, 0), (7, 0, 0)] [] s = fX11_hasMarched_34 kb s := rfl
noncomputable def bX11_hasMarched_35 : List En := [c_zreturn]
theorem eX11_hasMarched_35 (kb : Co) (y0 : Int) (s : St) : exb (famH (tX11_hasMarched_35 kb) kb) 0 bX11_hasMarched_35 [(7, 0, 0), (7, 0, 0), (7, 0, 0)] [(0, 0, y0)] s = fX11_hasMarched_35 kb y0 s := rfl
-- Floatparade.note(IIII)I
noncomputable def bX11_note_0 : List En := [c_aload_n 0, c_iload_n 2, c_invv 61 [] gX11_societyAt mdX11_societyAt, c_astore 5, c_aload 5, c_ifnonnull 13 22, c_throw 65 10 3]
theorem eX11_note_0 (kb : Co) (a0 a1 a2 a3 a4 : Int) (s : St) : exb (famH (tX11_note_0 kb) kb) 0 bX11_note_0 [(3, 11, a0), (0, 0, a1), (0, 0, a2), (0, 0, a3), (0, 0, a4), (7, 0, 0), (7, 0, 0)] [] s = fX11_note_0 kb a0 a1 a2 a3 a4 s := rfl
noncomputable def bX11_note_22 : List En := [c_iload_n 1, c_invs 368 [] gX11_isJudge mdX11_isJudge, c_if .eq 22 48, c_iload_n 3, c_invs 371 [] gX11_isCategory mdX11_isCategory, c_if .eq 15 48, c_iload 4, c_bipush 50, c_bipush 100, c_invs 39 [] gX11_isWithin mdX11_isWithin, c_if .ne 14 59]
theorem eX11_note_22 (kb : Co) (a0 a1 a3 a4 a5 : Int) (s : St) : exb (famH (tX11_note_22 kb) kb) 48 bX11_note_22 [(3, 11, a0), (0, 0, a1), (7, 0, 0), (0, 0, a3), (0, 0, a4), (2, 6, a5), (7, 0, 0)] [] s = fX11_note_22 kb a0 a1 a3 a4 a5 s := rfl
noncomputable def bX11_note_48 : List En := [c_throw 43 11 1]
theorem eX11_note_48 (kb : Co) (s : St) : exb (famH (tX11_note_48 kb) kb) 0 bX11_note_48 [(7, 0, 0), (7, 0, 0), (7, 0, 0), (7, 0, 0), (7, 0, 0), (7, 0, 0), (7, 0, 0)] [] s = fX11_note_48 kb s := rfl
noncomputable def bX11_note_59 : List En := [c_aload_n 0, c_aload 5, c_invv 376 [] gX11_hasMarched mdX11_hasMarched, c_if .ne 14 79, c_throw 53 11 2]
theorem eX11_note_59 (kb : Co) (a0 a1 a3 a4 a5 : Int) (s : St) : exb (famH (tX11_note_59 kb) kb) 0 bX11_note_59 [(3, 11, a0), (0, 0, a1), (7, 0, 0), (0, 0, a3), (0, 0, a4), (2, 6, a5), (7, 0, 0)] [] s = fX11_note_59 kb a0 a1 a3 a4 a5 s := rfl
noncomputable def bX11_note_79 : List En := [c_aload 5, c_getC 381 6 5 3, c_iload_n 1, c_iload_n 3, c_invv 385 [] gX5_noteBy mdX5_noteBy, c_istore 6, c_aload 5, c_getC 381 6 5 3, c_iload_n 1, c_iload_n 3, c_iload 4, c_invv 390 [] gX5_setNote mdX5_setNote, c_iload 6, c_if .ne 7 112, c_iconst (-1), c_goto 5 114]
theorem eX11_note_79 (kb : Co) (a1 a3 a4 a5 : Int) (s : St) : exb (famH (tX11_note_79 kb) kb) 0 bX11_note_79 [(7, 0, 0), (0, 0, a1), (7, 0, 0), (0, 0, a3), (0, 0, a4), (2, 6, a5), (7, 0, 0)] [] s = fX11_note_79 kb a1 a3 a4 a5 s := rfl
noncomputable def bX11_note_112 : List En := [c_iload 6]
theorem eX11_note_112 (kb : Co) (a6 : Int) (s : St) : exb (famH (tX11_note_112 kb) kb) 114 bX11_note_112 [(7, 0, 0), (7, 0, 0), (7, 0, 0), (7, 0, 0), (7, 0, 0), (7, 0, 0), (0, 0, a6)] [] s = fX11_note_112 kb a6 s := rfl
noncomputable def bX11_note_114 : List En := [c_ireturn]
theorem eX11_note_114 (kb : Co) (y0 : Int) (s : St) : exb (famH (tX11_note_114 kb) kb) 0 bX11_note_114 [(7, 0, 0), (7, 0, 0), (7, 0, 0), (7, 0, 0), (7, 0, 0), (7, 0, 0), (7, 0, 0)] [(0, 0, y0)] s = fX11_note_114 kb y0 s := rfl
-- Floatparade.penalty(III)I
noncomputable def bX11_penalty_0 : List En := [c_aload_n 0, c_iload_n 1, c_invv 61 [] gX11_societyAt mdX11_societyAt, c_astore 4, c_aload 4, c_ifnonnull 13 22, c_throw 65 10 3]
theorem eX11_penalty_0 (kb : Co) (a0 a1 a2 a3 : Int) (s : St) : exb (famH (tX11_penalty_0 kb) kb) 0 bX11_penalty_0 [(3, 11, a0), (0, 0, a1), (0, 0, a2), (0, 0, a3), (7, 0, 0)] [] s = fX11_penalty_0 kb a0 a1 a2 a3 s := rfl
noncomputable def bX11_penalty_22 : List En := [c_iload_n 2, c_iconst 4, c_bipush 9, c_invs 39 [] gX11_isWithin mdX11_isWithin, c_if .eq 13 42, c_iload_n 3, c_iconst 1, c_bipush 99, c_invs 39 [] gX11_isWithin mdX11_isWithin, c_if .ne 14 53]
theorem eX11_penalty_22 (kb : Co) (a0 a2 a3 a4 : Int) (s : St) : exb (famH (tX11_penalty_22 kb) kb) 42 bX11_penalty_22 [(3, 11, a0), (7, 0, 0), (0, 0, a2), (0, 0, a3), (2, 6, a4)] [] s = fX11_penalty_22 kb a0 a2 a3 a4 s := rfl
noncomputable def bX11_penalty_42 : List En := [c_throw 43 11 1]
theorem eX11_penalty_42 (kb : Co) (s : St) : exb (famH (tX11_penalty_42 kb) kb) 0 bX11_penalty_42 [(7, 0, 0), (7, 0, 0), (7, 0, 0), (7, 0, 0), (7, 0, 0)] [] s = fX11_penalty_42 kb s := rfl
noncomputable def bX11_penalty_53 : List En := [c_aload_n 0, c_aload 4, c_invv 376 [] gX11_hasMarched mdX11_hasMarched, c_if .eq 14 73, c_aload 4, c_getC 381 6 5 3, c_invv 395 [] gX5_isFull mdX5_isFull, c_if .eq 14 84]
theorem eX11_penalty_53 (kb : Co) (a0 a2 a3 a4 : Int) (s : St) : exb (famH (tX11_penalty_53 kb) kb) 73 bX11_penalty_53 [(3, 11, a0), (7, 0, 0), (0, 0, a2), (0, 0, a3), (2, 6, a4)] [] s = fX11_penalty_53 kb a0 a2 a3 a4 s := rfl
noncomputable def bX11_penalty_73 : List En := [c_throw 53 11 2]
theorem eX11_penalty_73 (kb : Co) (s : St) : exb (famH (tX11_penalty_73 kb) kb) 0 bX11_penalty_73 [(7, 0, 0), (7, 0, 0), (7, 0, 0), (7, 0, 0), (7, 0, 0)] [] s = fX11_penalty_73 kb s := rfl
noncomputable def bX11_penalty_84 : List En := [c_aload 4, c_getC 381 6 5 3, c_iload_n 2, c_iload_n 3, c_invv 398 [] gX5_punish mdX5_punish, c_aload 4, c_getC 381 6 5 3, c_getI 402 5 4, c_ireturn]
theorem eX11_penalty_84 (kb : Co) (a2 a3 a4 : Int) (s : St) : exb (famH (tX11_penalty_84 kb) kb) 0 bX11_penalty_84 [(7, 0, 0), (7, 0, 0), (0, 0, a2), (0, 0, a3), (2, 6, a4)] [] s = fX11_penalty_84 kb a2 a3 a4 s := rfl
-- Floatparade.appeal(II)I
noncomputable def bX11_appeal_0 : List En := [c_aload_n 0, c_iload_n 1, c_invv 61 [] gX11_societyAt mdX11_societyAt, c_astore_n 3, c_aload_n 3, c_ifnull 14 21, c_aload_n 3, c_getC 381 6 5 3, c_iload_n 2, c_invv 405 [] gX5_hasPenalty mdX5_hasPenalty, c_if .ne 14 32]
theorem eX11_appeal_0 (kb : Co) (a0 a1 a2 : Int) (s : St) : exb (famH (tX11_appeal_0 kb) kb) 21 bX11_appeal_0 [(3, 11, a0), (0, 0, a1), (0, 0, a2), (7, 0, 0)] [] s = fX11_appeal_0 kb a0 a1 a2 s := rfl
noncomputable def bX11_appeal_21 : List En := [c_throw 65 11 3]
theorem eX11_appeal_21 (kb : Co) (s : St) : exb (famH (tX11_appeal_21 kb) kb) 0 bX11_appeal_21 [(7, 0, 0), (7, 0, 0), (7, 0, 0), (7, 0, 0)] [] s = fX11_appeal_21 kb s := rfl
noncomputable def bX11_appeal_32 : List En := [c_aload_n 3, c_getC 381 6 5 3, c_iload_n 2, c_invv 410 [] gX5_isAppealed mdX5_isAppealed, c_if .eq 14 54, c_throw 53 11 2]
theorem eX11_appeal_32 (kb : Co) (a2 a3 : Int) (s : St) : exb (famH (tX11_appeal_32 kb) kb) 0 bX11_appeal_32 [(7, 0, 0), (7, 0, 0), (0, 0, a2), (2, 6, a3)] [] s = fX11_appeal_32 kb a2 a3 s := rfl
noncomputable def bX11_appeal_54 : List En := [c_aload_n 3, c_getC 381 6 5 3, c_iload_n 2, c_invv 415 [] gX5_appealAway mdX5_appealAway, c_aload_n 3, c_getC 381 6 5 3, c_invv 418 [] gX5_points mdX5_points, c_ireturn]
theorem eX11_appeal_54 (kb : Co) (a2 a3 : Int) (s : St) : exb (famH (tX11_appeal_54 kb) kb) 0 bX11_appeal_54 [(7, 0, 0), (7, 0, 0), (0, 0, a2), (2, 6, a3)] [] s = fX11_appeal_54 kb a2 a3 s := rfl
-- Floatparade.draw(I)I
noncomputable def bX11_draw_0 : List En := [c_iload_n 1, c_invs 371 [] gX11_isCategory mdX11_isCategory, c_if .ne 14 18, c_throw 43 11 1]
theorem eX11_draw_0 (kb : Co) (a0 a1 : Int) (s : St) : exb (famH (tX11_draw_0 kb) kb) 0 bX11_draw_0 [(3, 11, a0), (0, 0, a1), (7, 0, 0)] [] s = fX11_draw_0 kb a0 a1 s := rfl
noncomputable def bX11_draw_18 : List En := [c_aload_n 0, c_getI 423 11 4, c_istore_n 2, c_aload_n 0, c_iload_n 1, c_putI 423 11 4, c_iload_n 2, c_ireturn]
theorem eX11_draw_18 (kb : Co) (a0 a1 : Int) (s : St) : exb (famH (tX11_draw_18 kb) kb) 0 bX11_draw_18 [(3, 11, a0), (0, 0, a1), (7, 0, 0)] [] s = fX11_draw_18 kb a0 a1 s := rfl
-- Floatparade.mayEndYear()Z
noncomputable def bX11_mayEndYear_0 : List En := [c_iconst 0, c_istore_n 1, c_iconst 0, c_istore_n 2]
theorem eX11_mayEndYear_0 (kb : Co) (a0 : Int) (s : St) : exb (famH (tX11_mayEndYear_0 kb) kb) 4 bX11_mayEndYear_0 [(3, 11, a0), (7, 0, 0), (7, 0, 0), (7, 0, 0)] [] s = fX11_mayEndYear_0 kb a0 s := rfl
noncomputable def bX11_mayEndYear_4 : List En := [c_iload_n 2, c_aload_n 0, c_getC 17 11 14 1, c_alen 14 2, c_icmp .ge 48 58, c_aload_n 0, c_getC 17 11 14 1, c_iload_n 2, c_aald 14 0 2, c_astore_n 3, c_aload_n 3, c_ifnull 15 36, c_aload_n 3, c_getC 253 0 1 4, c_invv 304 [] gX1_goesOn mdX1_goesOn, c_if .eq 5 36, c_iconst 0, c_zreturn]
theorem eX11_mayEndYear_4 (kb : Co) (a0 a1 a2 : Int) (s : St) : exb (famH (tX11_mayEndYear_4 kb) kb) 0 bX11_mayEndYear_4 [(3, 11, a0), (0, 0, a1), (0, 0, a2), (7, 0, 0)] [] s = fX11_mayEndYear_4 kb a0 a1 a2 s := rfl
noncomputable def bX11_mayEndYear_36 : List En := [c_aload_n 3, c_ifnull 15 52, c_aload_n 3, c_getC 253 0 1 4, c_getI 431 1 7, c_if .eq 5 52, c_iconst 1, c_istore_n 1]
theorem eX11_mayEndYear_36 (kb : Co) (a0 a1 a2 a3 : Int) (s : St) : exb (famH (tX11_mayEndYear_36 kb) kb) 52 bX11_mayEndYear_36 [(3, 11, a0), (0, 0, a1), (0, 0, a2), (2, 0, a3)] [] s = fX11_mayEndYear_36 kb a0 a1 a2 a3 s := rfl
noncomputable def bX11_mayEndYear_52 : List En := [c_iinc 2 1, c_goto (-51) 4]
theorem eX11_mayEndYear_52 (kb : Co) (a0 a1 a2 : Int) (s : St) : exb (famH (tX11_mayEndYear_52 kb) kb) 0 bX11_mayEndYear_52 [(3, 11, a0), (0, 0, a1), (0, 0, a2), (7, 0, 0)] [] s = fX11_mayEndYear_52 kb a0 a1 a2 s := rfl
noncomputable def bX11_mayEndYear_58 : List En := [c_iload_n 1, c_zreturn]
theorem eX11_mayEndYear_58 (kb : Co) (a1 : Int) (s : St) : exb (famH (tX11_mayEndYear_58 kb) kb) 0 bX11_mayEndYear_58 [(7, 0, 0), (0, 0, a1), (7, 0, 0), (7, 0, 0)] [] s = fX11_mayEndYear_58 kb a1 s := rfl
-- Floatparade.exchangeLeagues(LFloatparade$League;LFloatparade$League;)I
noncomputable def bX11_exchangeLeagues_0 : List En := [c_aload_n 0, c_ifnull 27 28, c_aload_n 1, c_ifnull 23 28, c_aload_n 0, c_getC 253 0 1 4, c_getI 431 1 7, c_if .eq 13 28, c_aload_n 1, c_getC 253 0 1 4, c_getI 431 1 7, c_if .ne 5 30]
theorem eX11_exchangeLeagues_0 (kb : Co) (a0 a1 : Int) (s : St) : exb (famH (tX11_exchangeLeagues_0 kb) kb) 28 bX11_exchangeLeagues_0 [(2, 0, a0), (2, 0, a1), (7, 0, 0), (7, 0, 0)] [] s = fX11_exchangeLeagues_0 kb a0 a1 s := rfl
noncomputable def bX11_exchangeLeagues_28 : List En := [c_iconst (-1), c_ireturn]
theorem eX11_exchangeLeagues_28 (kb : Co) (s : St) : exb (famH (tX11_exchangeLeagues_28 kb) kb) 0 bX11_exchangeLeagues_28 [(7, 0, 0), (7, 0, 0), (7, 0, 0), (7, 0, 0)] [] s = fX11_exchangeLeagues_28 kb s := rfl
noncomputable def bX11_exchangeLeagues_30 : List En := [c_aload_n 0, c_get3 462 0 4 3, c_aload_n 0, c_get3 462 0 4 3, c_getI 278 4 1, c_iconst 1, c_isub, c_invv 468 [] gX4_at mdX4_at, c_astore_n 2, c_aload_n 1, c_get3 462 0 4 3, c_iconst 0, c_invv 468 [] gX4_at mdX4_at, c_astore_n 3, c_aload_n 2, c_ifnull 7 64, c_aload_n 3, c_ifnonnull 5 66]
theorem eX11_exchangeLeagues_30 (kb : Co) (a0 a1 : Int) (s : St) : exb (famH (tX11_exchangeLeagues_30 kb) kb) 64 bX11_exchangeLeagues_30 [(2, 0, a0), (2, 0, a1), (7, 0, 0), (7, 0, 0)] [] s = fX11_exchangeLeagues_30 kb a0 a1 s := rfl
noncomputable def bX11_exchangeLeagues_64 : List En := [c_iconst (-1), c_ireturn]
theorem eX11_exchangeLeagues_64 (kb : Co) (s : St) : exb (famH (tX11_exchangeLeagues_64 kb) kb) 0 bX11_exchangeLeagues_64 [(7, 0, 0), (7, 0, 0), (7, 0, 0), (7, 0, 0)] [] s = fX11_exchangeLeagues_64 kb s := rfl
noncomputable def bX11_exchangeLeagues_66 : List En := [c_aload_n 2, c_aload_n 1, c_getI 471 0 0, c_putI 244 6 5, c_aload_n 3, c_aload_n 0, c_getI 471 0 0, c_putI 244 6 5, c_aload_n 3, c_getI 474 6 0, c_ireturn]
theorem eX11_exchangeLeagues_66 (kb : Co) (a0 a1 a2 a3 : Int) (s : St) : exb (famH (tX11_exchangeLeagues_66 kb) kb) 0 bX11_exchangeLeagues_66 [(2, 0, a0), (2, 0, a1), (2, 6, a2), (2, 6, a3)] [] s = fX11_exchangeLeagues_66 kb a0 a1 a2 a3 s := rfl
-- Floatparade.forgetYear()V
noncomputable def bX11_forgetYear_0 : List En := [c_iconst 0, c_istore_n 1]
theorem eX11_forgetYear_0 (kb : Co) (a0 : Int) (s : St) : exb (famH (tX11_forgetYear_0 kb) kb) 2 bX11_forgetYear_0 [(3, 11, a0), (7, 0, 0)] [] s = fX11_forgetYear_0 kb a0 s := rfl
noncomputable def bX11_forgetYear_2 : List En := [c_iload_n 1, c_aload_n 0, c_getC 11 11 13 0, c_alen 13 10, c_icmp .ge 27 35, c_aload_n 0, c_getC 11 11 13 0, c_iload_n 1, c_aald 13 6 10, c_ifnull 12 29, c_aload_n 0, c_getC 11 11 13 0, c_iload_n 1, c_aald 13 6 10, c_invv 475 [] gX6_forgetYear mdX6_forgetYear]
theorem eX11_forgetYear_2 (kb : Co) (a0 a1 : Int) (s : St) : exb (famH (tX11_forgetYear_2 kb) kb) 29 bX11_forgetYear_2 [(3, 11, a0), (0, 0, a1)] [] s = fX11_forgetYear_2 kb a0 a1 s := rfl
noncomputable def bX11_forgetYear_29 : List En := [c_iinc 1 1, c_goto (-30) 2]
theorem eX11_forgetYear_29 (kb : Co) (a0 a1 : Int) (s : St) : exb (famH (tX11_forgetYear_29 kb) kb) 0 bX11_forgetYear_29 [(3, 11, a0), (0, 0, a1)] [] s = fX11_forgetYear_29 kb a0 a1 s := rfl
noncomputable def bX11_forgetYear_35 : List En := [c_iconst 0, c_istore_n 1]
theorem eX11_forgetYear_35 (kb : Co) (a0 : Int) (s : St) : exb (famH (tX11_forgetYear_35 kb) kb) 37 bX11_forgetYear_35 [(3, 11, a0), (7, 0, 0)] [] s = fX11_forgetYear_35 kb a0 s := rfl
noncomputable def bX11_forgetYear_37 : List En := [c_iload_n 1, c_aload_n 0, c_getC 17 11 14 1, c_alen 14 2, c_icmp .ge 42 85, c_aload_n 0, c_getC 17 11 14 1, c_iload_n 1, c_aald 14 0 2, c_ifnull 27 79, c_aload_n 0, c_getC 17 11 14 1, c_iload_n 1, c_aald 14 0 2, c_get2 274 0 4 2, c_invv 476 [] gX4_clear mdX4_clear, c_aload_n 0, c_getC 17 11 14 1, c_iload_n 1, c_aald 14 0 2, c_getC 253 0 1 4, c_invv 479 [] gX1_clear mdX1_clear]
theorem eX11_forgetYear_37 (kb : Co) (a0 a1 : Int) (s : St) : exb (famH (tX11_forgetYear_37 kb) kb) 79 bX11_forgetYear_37 [(3, 11, a0), (0, 0, a1)] [] s = fX11_forgetYear_37 kb a0 a1 s := rfl
noncomputable def bX11_forgetYear_79 : List En := [c_iinc 1 1, c_goto (-45) 37]
theorem eX11_forgetYear_79 (kb : Co) (a0 a1 : Int) (s : St) : exb (famH (tX11_forgetYear_79 kb) kb) 0 bX11_forgetYear_79 [(3, 11, a0), (0, 0, a1)] [] s = fX11_forgetYear_79 kb a0 a1 s := rfl
noncomputable def bX11_forgetYear_85 : List En := [c_return]
theorem eX11_forgetYear_85 (kb : Co) (s : St) : exb (famH (tX11_forgetYear_85 kb) kb) 0 bX11_forgetYear_85 [(7, 0, 0), (7, 0, 0)] [] s = fX11_forgetYear_85 kb s := rfl
-- Floatparade.endYear()I
noncomputable def bX11_endYear_0 : List En := [c_aload_n 0, c_invv 426 [] gX11_mayEndYear mdX11_mayEndYear, c_if .ne 14 18, c_throw 53 11 2]
theorem eX11_endYear_0 (kb : Co) (a0 : Int) (s : St) : exb (famH (tX11_endYear_0 kb) kb) 0 bX11_endYear_0 [(3, 11, a0), (7, 0, 0)] [] s = fX11_endYear_0 kb a0 s := rfl
noncomputable def bX11_endYear_18 : List En := [c_iconst 0, c_istore_n 1]
theorem eX11_endYear_18 (kb : Co) (a0 : Int) (s : St) : exb (famH (tX11_endYear_18 kb) kb) 20 bX11_endYear_18 [(3, 11, a0), (7, 0, 0)] [] s = fX11_endYear_18 kb a0 s := rfl
noncomputable def bX11_endYear_20 : List En := [c_iload_n 1, c_aload_n 0, c_getC 17 11 14 1, c_alen 14 2, c_icmp .ge 59 85, c_aload_n 0, c_getC 17 11 14 1, c_iload_n 1, c_aald 14 0 2, c_ifnull 44 79, c_aload_n 0, c_getC 17 11 14 1, c_iload_n 1, c_aald 14 0 2, c_getC 253 0 1 4, c_getI 431 1 7, c_if .eq 29 79, c_aload_n 0, c_getC 17 11 14 1, c_iload_n 1, c_aald 14 0 2, c_aload_n 0, c_getC 11 11 13 0, c_aload_n 0, c_getI 423 11 4, c_invv 434 [] gX0_rank mdX0_rank, c_aload_n 0, c_getC 17 11 14 1, c_iload_n 1, c_aald 14 0 2, c_invv 437 [] gX0_settle mdX0_settle]
theorem eX11_endYear_20 (kb : Co) (a0 a1 : Int) (s : St) : exb (famH (tX11_endYear_20 kb) kb) 79 bX11_endYear_20 [(3, 11, a0), (0, 0, a1)] [] s = fX11_endYear_20 kb a0 a1 s := rfl
noncomputable def bX11_endYear_79 : List En := [c_iinc 1 1, c_goto (-62) 20]
theorem eX11_endYear_79 (kb : Co) (a0 a1 : Int) (s : St) : exb (famH (tX11_endYear_79 kb) kb) 0 bX11_endYear_79 [(3, 11, a0), (0, 0, a1)] [] s = fX11_endYear_79 kb a0 a1 s := rfl
noncomputable def bX11_endYear_85 : List En := [c_aload_n 0, c_aload_n 0, c_iconst 0, c_invv 164 [] gX11_leagueAt mdX11_leagueAt, c_aload_n 0, c_iconst 1, c_invv 164 [] gX11_leagueAt mdX11_leagueAt, c_invs 440 [] gX11_exchangeLeagues mdX11_exchangeLeagues, c_putI 28 11 5, c_aload_n 0, c_invv 444 [] gX11_forgetYear mdX11_forgetYear, c_aload_n 0, c_getI 28 11 5, c_ireturn]
theorem eX11_endYear_85 (kb : Co) (a0 : Int) (s : St) : exb (famH (tX11_endYear_85 kb) kb) 0 bX11_endYear_85 [(3, 11, a0), (7, 0, 0)] [] s = fX11_endYear_85 kb a0 s := rfl
-- Floatparade.about(II)I
noncomputable def bX11_about_0 : List En := [c_aload_n 0, c_iload_n 1, c_invv 61 [] gX11_societyAt mdX11_societyAt, c_astore_n 3, c_aload_n 3, c_ifnonnull 13 20, c_throw 65 10 3]
theorem eX11_about_0 (kb : Co) (a0 a1 a2 : Int) (s : St) : exb (famH (tX11_about_0 kb) kb) 0 bX11_about_0 [(3, 11, a0), (0, 0, a1), (0, 0, a2), (7, 0, 0)] [] s = fX11_about_0 kb a0 a1 a2 s := rfl
noncomputable def bX11_about_20 : List En := [c_iload_n 2, c_iconst 0, c_bipush 8, c_invs 39 [] gX11_isWithin mdX11_isWithin, c_if .ne 14 41, c_throw 43 11 1]
theorem eX11_about_20 (kb : Co) (a2 a3 : Int) (s : St) : exb (famH (tX11_about_20 kb) kb) 0 bX11_about_20 [(7, 0, 0), (7, 0, 0), (0, 0, a2), (2, 6, a3)] [] s = fX11_about_20 kb a2 a3 s := rfl
noncomputable def bX11_about_41 : List En := [c_aload_n 3, c_iload_n 2, c_invv 447 [] gX6_tell mdX6_tell, c_ireturn]
theorem eX11_about_41 (kb : Co) (a2 a3 : Int) (s : St) : exb (famH (tX11_about_41 kb) kb) 0 bX11_about_41 [(7, 0, 0), (7, 0, 0), (0, 0, a2), (2, 6, a3)] [] s = fX11_about_41 kb a2 a3 s := rfl
-- Floatparade.notes(II)I
noncomputable def bX11_notes_0 : List En := [c_aload_n 0, c_iload_n 1, c_invv 61 [] gX11_societyAt mdX11_societyAt, c_astore_n 3, c_aload_n 3, c_ifnonnull 13 20, c_throw 65 10 3]
theorem eX11_notes_0 (kb : Co) (a0 a1 a2 : Int) (s : St) : exb (famH (tX11_notes_0 kb) kb) 0 bX11_notes_0 [(3, 11, a0), (0, 0, a1), (0, 0, a2), (7, 0, 0)] [] s = fX11_notes_0 kb a0 a1 a2 s := rfl
noncomputable def bX11_notes_20 : List En := [c_iload_n 2, c_invs 371 [] gX11_isCategory mdX11_isCategory, c_if .ne 14 38, c_throw 43 11 1]
theorem eX11_notes_20 (kb : Co) (a2 a3 : Int) (s : St) : exb (famH (tX11_notes_20 kb) kb) 0 bX11_notes_20 [(7, 0, 0), (7, 0, 0), (0, 0, a2), (2, 6, a3)] [] s = fX11_notes_20 kb a2 a3 s := rfl
noncomputable def bX11_notes_38 : List En := [c_aload_n 3, c_getC 381 6 5 3, c_iload_n 2, c_invv 451 [] gX5_together mdX5_together, c_ireturn]
theorem eX11_notes_38 (kb : Co) (a2 a3 : Int) (s : St) : exb (famH (tX11_notes_38 kb) kb) 0 bX11_notes_38 [(7, 0, 0), (7, 0, 0), (0, 0, a2), (2, 6, a3)] [] s = fX11_notes_38 kb a2 a3 s := rfl
-- Floatparade.penaltyAt(III)I
noncomputable def bX11_penaltyAt_0 : List En := [c_aload_n 0, c_iload_n 1, c_invv 61 [] gX11_societyAt mdX11_societyAt, c_astore 4, c_aload 4, c_ifnull 15 24, c_aload 4, c_getC 381 6 5 3, c_iload_n 2, c_invv 405 [] gX5_hasPenalty mdX5_hasPenalty, c_if .ne 14 35]
theorem eX11_penaltyAt_0 (kb : Co) (a0 a1 a2 a3 : Int) (s : St) : exb (famH (tX11_penaltyAt_0 kb) kb) 24 bX11_penaltyAt_0 [(3, 11, a0), (0, 0, a1), (0, 0, a2), (0, 0, a3), (7, 0, 0)] [] s = fX11_penaltyAt_0 kb a0 a1 a2 a3 s := rfl
noncomputable def bX11_penaltyAt_24 : List En := [c_throw 65 11 3]
theorem eX11_penaltyAt_24 (kb : Co) (s : St) : exb (famH (tX11_penaltyAt_24 kb) kb) 0 bX11_penaltyAt_24 [(7, 0, 0), (7, 0, 0), (7, 0, 0), (7, 0, 0), (7, 0, 0)] [] s = fX11_penaltyAt_24 kb s := rfl
noncomputable def bX11_penaltyAt_35 : List En := [c_iload_n 3, c_iconst 0, c_iconst 2, c_invs 39 [] gX11_isWithin mdX11_isWithin, c_if .ne 14 55, c_throw 43 11 1]
theorem eX11_penaltyAt_35 (kb : Co) (a2 a3 a4 : Int) (s : St) : exb (famH (tX11_penaltyAt_35 kb) kb) 0 bX11_penaltyAt_35 [(7, 0, 0), (7, 0, 0), (0, 0, a2), (0, 0, a3), (2, 6, a4)] [] s = fX11_penaltyAt_35 kb a2 a3 a4 s := rfl
noncomputable def bX11_penaltyAt_55 : List En := [c_aload 4, c_getC 381 6 5 3, c_iload_n 2, c_iload_n 3, c_invv 454 [] gX5_tellPenalty mdX5_tellPenalty, c_ireturn]
theorem eX11_penaltyAt_55 (kb : Co) (a2 a3 a4 : Int) (s : St) : exb (famH (tX11_penaltyAt_55 kb) kb) 0 bX11_penaltyAt_55 [(7, 0, 0), (7, 0, 0), (0, 0, a2), (0, 0, a3), (2, 6, a4)] [] s = fX11_penaltyAt_55 kb a2 a3 a4 s := rfl
-- Floatparade.isDoubted(II)Z
noncomputable def bX11_isDoubted_0 : List En := [c_aload_n 0, c_iload_n 2, c_invv 61 [] gX11_societyAt mdX11_societyAt, c_astore_n 3, c_aload_n 3, c_ifnonnull 13 20, c_throw 65 10 3]
theorem eX11_isDoubted_0 (kb : Co) (a0 a1 a2 : Int) (s : St) : exb (famH (tX11_isDoubted_0 kb) kb) 0 bX11_isDoubted_0 [(3, 11, a0), (0, 0, a1), (0, 0, a2), (7, 0, 0)] [] s = fX11_isDoubted_0 kb a0 a1 a2 s := rfl
noncomputable def bX11_isDoubted_20 : List En := [c_iload_n 1, c_invs 368 [] gX11_isJudge mdX11_isJudge, c_if .ne 14 38, c_throw 43 11 1]
theorem eX11_isDoubted_20 (kb : Co) (a1 a3 : Int) (s : St) : exb (famH (tX11_isDoubted_20 kb) kb) 0 bX11_isDoubted_20 [(7, 0, 0), (0, 0, a1), (7, 0, 0), (2, 6, a3)] [] s = fX11_isDoubted_20 kb a1 a3 s := rfl
noncomputable def bX11_isDoubted_38 : List En := [c_aload_n 3, c_getC 381 6 5 3, c_iload_n 1, c_invv 459 [] gX5_castsDoubtOn mdX5_castsDoubtOn, c_zreturn]
theorem eX11_isDoubted_38 (kb : Co) (a1 a3 : Int) (s : St) : exb (famH (tX11_isDoubted_38 kb) kb) 0 bX11_isDoubted_38 [(7, 0, 0), (0, 0, a1), (7, 0, 0), (2, 6, a3)] [] s = fX11_isDoubted_38 kb a1 a3 s := rfl
-- Floatparade.table(II)I
noncomputable def bX11_table_0 : List En := [c_iload_n 2, c_if .ge 14 15, c_throw 65 11 3]
theorem eX11_table_0 (kb : Co) (a0 a1 a2 : Int) (s : St) : exb (famH (tX11_table_0 kb) kb) 0 bX11_table_0 [(3, 11, a0), (0, 0, a1), (0, 0, a2), (7, 0, 0)] [] s = fX11_table_0 kb a0 a1 a2 s := rfl
noncomputable def bX11_table_15 : List En := [c_aload_n 0, c_iload_n 1, c_invv 164 [] gX11_leagueAt mdX11_leagueAt, c_astore_n 3, c_aload_n 3, c_ifnonnull 13 35, c_throw 43 10 1]
theorem eX11_table_15 (kb : Co) (a0 a1 a2 : Int) (s : St) : exb (famH (tX11_table_15 kb) kb) 0 bX11_table_15 [(3, 11, a0), (0, 0, a1), (0, 0, a2), (7, 0, 0)] [] s = fX11_table_15 kb a0 a1 a2 s := rfl
noncomputable def bX11_table_35 : List En := [c_aload_n 3, c_getC 253 0 1 4, c_getI 431 1 7, c_if .ne 5 47, c_iconst (-1), c_ireturn]
theorem eX11_table_35 (kb : Co) (a0 a2 a3 : Int) (s : St) : exb (famH (tX11_table_35 kb) kb) 0 bX11_table_35 [(3, 11, a0), (7, 0, 0), (0, 0, a2), (2, 0, a3)] [] s = fX11_table_35 kb a0 a2 a3 s := rfl
noncomputable def bX11_table_47 : List En := [c_aload_n 3, c_aload_n 0, c_getC 11 11 13 0, c_aload_n 0, c_getI 423 11 4, c_invv 434 [] gX0_rank mdX0_rank, c_aload_n 3, c_get3 462 0 4 3, c_iload_n 2, c_invv 291 [] gX4_numberAt mdX4_numberAt, c_ireturn]
theorem eX11_table_47 (kb : Co) (a0 a2 a3 : Int) (s : St) : exb (famH (tX11_table_47 kb) kb) 0 bX11_table_47 [(3, 11, a0), (7, 0, 0), (0, 0, a2), (2, 0, a3)] [] s = fX11_table_47 kb a0 a2 a3 s := rfl
-- FloatparadeModel.thrown()I
noncomputable def bX12_thrown_0 : List En := [c_aload_n 0, c_getI 153 12 0, c_ireturn]
theorem eX12_thrown_0 (kb : Co) (a0 : Int) (s : St) : exb (famH (tX12_thrown_0 kb) kb) 0 bX12_thrown_0 [(3, 12, a0)] [] s = fX12_thrown_0 kb a0 s := rfl
-- FloatparadeModel.holds(I)Z
noncomputable def bX12_holds_0 : List En := [c_aload_n 0, c_iload_n 1, c_putI 153 12 0, c_iload_n 1, c_if .ne 7 13, c_iconst 1, c_goto 4 14]
theorem eX12_holds_0 (kb : Co) (a0 a1 : Int) (s : St) : exb (famH (tX12_holds_0 kb) kb) 0 bX12_holds_0 [(3, 12, a0), (0, 0, a1)] [] s = fX12_holds_0 kb a0 a1 s := rfl
noncomputable def bX12_holds_13 : List En := [c_iconst 0]
theorem eX12_holds_13 (kb : Co) (s : St) : exb (famH (tX12_holds_13 kb) kb) 14 bX12_holds_13 [(7, 0, 0), (7, 0, 0)] [] s = fX12_holds_13 kb s := rfl
noncomputable def bX12_holds_14 : List En := [c_zreturn]
theorem eX12_holds_14 (kb : Co) (y0 : Int) (s : St) : exb (famH (tX12_holds_14 kb) kb) 0 bX12_holds_14 [(7, 0, 0), (7, 0, 0)] [(0, 0, y0)] s = fX12_holds_14 kb y0 s := rfl
-- FloatparadeModel.in(III)Z
noncomputable def bX12_in_0 : List En := [c_iload_n 0, c_iload_n 1, c_icmp .lt 12 14, c_iload_n 0, c_iload_n 2, c_icmp .gt 7 14, c_iconst 1, c_goto 4 15]
theorem eX12_in_0 (kb : Co) (a0 a1 a2 : Int) (s : St) : exb (famH (tX12_in_0 kb) kb) 0 bX12_in_0 [(0, 0, a0), (0, 0, a1), (0, 0, a2)] [] s = fX12_in_0 kb a0 a1 a2 s := rfl
noncomputable def bX12_in_14 : List En := [c_iconst 0]
theorem eX12_in_14 (kb : Co) (s : St) : exb (famH (tX12_in_14 kb) kb) 15 bX12_in_14 [(7, 0, 0), (7, 0, 0), (7, 0, 0)] [] s = fX12_in_14 kb s := rfl
noncomputable def bX12_in_15 : List En := [c_zreturn]
theorem eX12_in_15 (kb : Co) (y0 : Int) (s : St) : exb (famH (tX12_in_15 kb) kb) 0 bX12_in_15 [(7, 0, 0), (7, 0, 0), (7, 0, 0)] [(0, 0, y0)] s = fX12_in_15 kb y0 s := rfl
-- FloatparadeModel.isSociety(I)Z
noncomputable def bX12_isSociety_0 : List En := [c_iload_n 1, c_iconst 0, c_aload_n 0, c_getI 156 12 1, c_iconst 1, c_isub, c_invs 159 [] gX12_in mdX12_in, c_zreturn]
theorem eX12_isSociety_0 (kb : Co) (a0 a1 : Int) (s : St) : exb (famH (tX12_isSociety_0 kb) kb) 0 bX12_isSociety_0 [(3, 12, a0), (0, 0, a1)] [] s = fX12_isSociety_0 kb a0 a1 s := rfl
-- FloatparadeModel.isCorner(I)Z
noncomputable def bX12_isCorner_0 : List En := [c_iload_n 0, c_iconst 0, c_bipush 11, c_invs 159 [] gX12_in mdX12_in, c_zreturn]
theorem eX12_isCorner_0 (kb : Co) (a0 : Int) (s : St) : exb (famH (tX12_isCorner_0 kb) kb) 0 bX12_isCorner_0 [(0, 0, a0)] [] s = fX12_isCorner_0 kb a0 s := rfl
-- FloatparadeModel.isLeague(I)Z
noncomputable def bX12_isLeague_0 : List En := [c_iload_n 0, c_iconst 0, c_iconst 1, c_invs 159 [] gX12_in mdX12_in, c_zreturn]
theorem eX12_isLeague_0 (kb : Co) (a0 : Int) (s : St) : exb (famH (tX12_isLeague_0 kb) kb) 0 bX12_isLeague_0 [(0, 0, a0)] [] s = fX12_isLeague_0 kb a0 s := rfl
-- FloatparadeModel.bits(I)I
noncomputable def bX12_bits_0 : List En := [c_iconst 0, c_istore_n 1, c_iload_n 0, c_istore_n 2]
theorem eX12_bits_0 (kb : Co) (a0 : Int) (s : St) : exb (famH (tX12_bits_0 kb) kb) 4 bX12_bits_0 [(0, 0, a0), (7, 0, 0), (7, 0, 0)] [] s = fX12_bits_0 kb a0 s := rfl
noncomputable def bX12_bits_4 : List En := [c_iload_n 2, c_if .le 15 20, c_iinc 1 1, c_iload_n 2, c_iload_n 2, c_iconst 1, c_isub, c_iand, c_istore_n 2, c_goto (-13) 4]
theorem eX12_bits_4 (kb : Co) (a1 a2 : Int) (s : St) : exb (famH (tX12_bits_4 kb) kb) 0 bX12_bits_4 [(7, 0, 0), (0, 0, a1), (0, 0, a2)] [] s = fX12_bits_4 kb a1 a2 s := rfl
noncomputable def bX12_bits_20 : List En := [c_iload_n 1, c_ireturn]
theorem eX12_bits_20 (kb : Co) (a1 : Int) (s : St) : exb (famH (tX12_bits_20 kb) kb) 0 bX12_bits_20 [(7, 0, 0), (0, 0, a1), (7, 0, 0)] [] s = fX12_bits_20 kb a1 s := rfl
-- FloatparadeModel.society(II)I
noncomputable def bX12_society_0 : List En := [c_aload_n 0, c_iload_n 1, c_invs 163 [] gX12_isLeague mdX12_isLeague, c_if .eq 14 19, c_iload_n 2, c_iconst 1, c_sipush 200, c_invs 159 [] gX12_in mdX12_in, c_if .ne 7 23]
theorem eX12_society_0 (kb : Co) (a0 a1 a2 : Int) (s : St) : exb (famH (tX12_society_0 kb) kb) 19 bX12_society_0 [(3, 12, a0), (0, 0, a1), (0, 0, a2)] [] s = fX12_society_0 kb a0 a1 a2 s := rfl
noncomputable def bX12_society_19 : List En := [c_iconst 1, c_goto 17 37]
theorem eX12_society_19 (kb : Co) (a0 a1 a2 y0 : Int) (s : St) : exb (famH (tX12_society_19 kb) kb) 0 bX12_society_19 [(3, 12, a0), (0, 0, a1), (0, 0, a2)] [(3, 12, y0)] s = fX12_society_19 kb a0 a1 a2 y0 s := rfl
noncomputable def bX12_society_23 : List En := [c_aload_n 0, c_getI 156 12 1, c_bipush 10, c_icmp .ne 7 36, c_iconst 2, c_goto 4 37]
theorem eX12_society_23 (kb : Co) (a0 a1 a2 y0 : Int) (s : St) : exb (famH (tX12_society_23 kb) kb) 0 bX12_society_23 [(3, 12, a0), (0, 0, a1), (0, 0, a2)] [(3, 12, y0)] s = fX12_society_23 kb a0 a1 a2 y0 s := rfl
noncomputable def bX12_society_36 : List En := [c_iconst 0]
theorem eX12_society_36 (kb : Co) (a0 a1 a2 y0 : Int) (s : St) : exb (famH (tX12_society_36 kb) kb) 37 bX12_society_36 [(3, 12, a0), (0, 0, a1), (0, 0, a2)] [(3, 12, y0)] s = fX12_society_36 kb a0 a1 a2 y0 s := rfl
noncomputable def bX12_society_37 : List En := [c_invv 167 [] gX12_holds mdX12_holds, c_if .ne 5 45, c_iconst 0, c_ireturn]
theorem eX12_society_37 (kb : Co) (a0 a1 a2 y0 y1 : Int) (s : St) : exb (famH (tX12_society_37 kb) kb) 0 bX12_society_37 [(3, 12, a0), (0, 0, a1), (0, 0, a2)] [(0, 0, y0), (3, 12, y1)] s = fX12_society_37 kb a0 a1 a2 y0 y1 s := rfl
noncomputable def bX12_society_45 : List En := [c_aload_n 0, c_getC 7 12 102 2, c_aload_n 0, c_getI 156 12 1, c_iload_n 1, c_iast 102 10, c_aload_n 0, c_getC 13 12 103 3, c_aload_n 0, c_getI 156 12 1, c_iload_n 2, c_iast 103 10, c_aload_n 0, c_getC 129 12 143 43, c_aload_n 0, c_getI 156 12 1, c_iconst (-1), c_iast 143 10, c_aload_n 0, c_getC 132 12 144 44, c_aload_n 0, c_getI 156 12 1, c_iconst (-1), c_iast 144 10, c_aload_n 0, c_dup, c_getI 156 12 1, c_iconst 1, c_iadd, c_putI 156 12 1, c_aload_n 0, c_getI 156 12 1, c_iconst 1, c_isub, c_ireturn]
theorem eX12_society_45 (kb : Co) (a0 a1 a2 : Int) (s : St) : exb (famH (tX12_society_45 kb) kb) 0 bX12_society_45 [(3, 12, a0), (0, 0, a1), (0, 0, a2)] [] s = fX12_society_45 kb a0 a1 a2 s := rfl
-- FloatparadeModel.feud(IIZ)Z
noncomputable def bX12_feud_0 : List En := [c_aload_n 0, c_aload_n 0, c_iload_n 1, c_invv 170 [] gX12_isSociety mdX12_isSociety, c_if .eq 11 17, c_aload_n 0, c_iload_n 2, c_invv 170 [] gX12_isSociety mdX12_isSociety, c_if .ne 7 21]
theorem eX12_feud_0 (kb : Co) (a0 a1 a2 a3 : Int) (s : St) : exb (famH (tX12_feud_0 kb) kb) 17 bX12_feud_0 [(3, 12, a0), (0, 0, a1), (0, 0, a2), (0, 0, a3), (7, 0, 0)] [] s = fX12_feud_0 kb a0 a1 a2 a3 s := rfl
noncomputable def bX12_feud_17 : List En := [c_iconst 1, c_goto 13 31]
theorem eX12_feud_17 (kb : Co) (a0 a1 a2 a3 y0 : Int) (s : St) : exb (famH (tX12_feud_17 kb) kb) 0 bX12_feud_17 [(3, 12, a0), (0, 0, a1), (0, 0, a2), (0, 0, a3), (7, 0, 0)] [(3, 12, y0)] s = fX12_feud_17 kb a0 a1 a2 a3 y0 s := rfl
noncomputable def bX12_feud_21 : List En := [c_iload_n 1, c_iload_n 2, c_icmp .ne 7 30, c_iconst 2, c_goto 4 31]
theorem eX12_feud_21 (kb : Co) (a0 a1 a2 a3 y0 : Int) (s : St) : exb (famH (tX12_feud_21 kb) kb) 0 bX12_feud_21 [(3, 12, a0), (0, 0, a1), (0, 0, a2), (0, 0, a3), (7, 0, 0)] [(3, 12, y0)] s = fX12_feud_21 kb a0 a1 a2 a3 y0 s := rfl
noncomputable def bX12_feud_30 : List En := [c_iconst 0]
theorem eX12_feud_30 (kb : Co) (a0 a1 a2 a3 y0 : Int) (s : St) : exb (famH (tX12_feud_30 kb) kb) 31 bX12_feud_30 [(3, 12, a0), (0, 0, a1), (0, 0, a2), (0, 0, a3), (7, 0, 0)] [(3, 12, y0)] s = fX12_feud_30 kb a0 a1 a2 a3 y0 s := rfl
noncomputable def bX12_feud_31 : List En := [c_invv 167 [] gX12_holds mdX12_holds, c_if .ne 5 39, c_iconst 0, c_zreturn]
theorem eX12_feud_31 (kb : Co) (a0 a1 a2 a3 y0 y1 : Int) (s : St) : exb (famH (tX12_feud_31 kb) kb) 0 bX12_feud_31 [(3, 12, a0), (0, 0, a1), (0, 0, a2), (0, 0, a3), (7, 0, 0)] [(0, 0, y0), (3, 12, y1)] s = fX12_feud_31 kb a0 a1 a2 a3 y0 y1 s := rfl
noncomputable def bX12_feud_39 : List En := [c_aload_n 0, c_getC 19 12 105 5, c_bipush 10, c_iload_n 1, c_imul, c_iload_n 2, c_iadd, c_bald 105 100, c_istore 4, c_aload_n 0, c_getC 19 12 105 5, c_bipush 10, c_iload_n 1, c_imul, c_iload_n 2, c_iadd, c_iload_n 3, c_bast 105 100, c_aload_n 0, c_getC 19 12 105 5, c_bipush 10, c_iload_n 2, c_imul, c_iload_n 1, c_iadd, c_iload_n 3, c_bast 105 100, c_iload 4, c_zreturn]
theorem eX12_feud_39 (kb : Co) (a0 a1 a2 a3 : Int) (s : St) : exb (famH (tX12_feud_39 kb) kb) 0 bX12_feud_39 [(3, 12, a0), (0, 0, a1), (0, 0, a2), (0, 0, a3), (7, 0, 0)] [] s = fX12_feud_39 kb a0 a1 a2 a3 s := rfl
-- FloatparadeModel.theme(III)I
noncomputable def bX12_theme_0 : List En := [c_aload_n 0, c_aload_n 0, c_iload_n 1, c_invv 170 [] gX12_isSociety mdX12_isSociety, c_if .ne 7 13, c_iconst 1, c_goto 29 39]
theorem eX12_theme_0 (kb : Co) (a0 a1 a2 a3 : Int) (s : St) : exb (famH (tX12_theme_0 kb) kb) 0 bX12_theme_0 [(3, 12, a0), (0, 0, a1), (0, 0, a2), (0, 0, a3), (7, 0, 0), (7, 0, 0)] [] s = fX12_theme_0 kb a0 a1 a2 a3 s := rfl
noncomputable def bX12_theme_13 : List En := [c_iload_n 2, c_iconst 1, c_sipush 4095, c_invs 159 [] gX12_in mdX12_in, c_if .eq 17 38, c_iload_n 3, c_iconst 1, c_bipush 99, c_invs 159 [] gX12_in mdX12_in, c_if .eq 7 38, c_iconst 0, c_goto 4 39]
theorem eX12_theme_13 (kb : Co) (a0 a1 a2 a3 y0 : Int) (s : St) : exb (famH (tX12_theme_13 kb) kb) 0 bX12_theme_13 [(3, 12, a0), (0, 0, a1), (0, 0, a2), (0, 0, a3), (7, 0, 0), (7, 0, 0)] [(3, 12, y0)] s = fX12_theme_13 kb a0 a1 a2 a3 y0 s := rfl
noncomputable def bX12_theme_38 : List En := [c_iconst 2]
theorem eX12_theme_38 (kb : Co) (a0 a1 a2 a3 y0 : Int) (s : St) : exb (famH (tX12_theme_38 kb) kb) 39 bX12_theme_38 [(3, 12, a0), (0, 0, a1), (0, 0, a2), (0, 0, a3), (7, 0, 0), (7, 0, 0)] [(3, 12, y0)] s = fX12_theme_38 kb a0 a1 a2 a3 y0 s := rfl
noncomputable def bX12_theme_39 : List En := [c_invv 167 [] gX12_holds mdX12_holds, c_if .ne 5 47, c_iconst 0, c_ireturn]
theorem eX12_theme_39 (kb : Co) (a0 a1 a2 a3 y0 y1 : Int) (s : St) : exb (famH (tX12_theme_39 kb) kb) 0 bX12_theme_39 [(3, 12, a0), (0, 0, a1), (0, 0, a2), (0, 0, a3), (7, 0, 0), (7, 0, 0)] [(0, 0, y0), (3, 12, y1)] s = fX12_theme_39 kb a0 a1 a2 a3 y0 y1 s := rfl
noncomputable def bX12_theme_47 : List En := [c_aload_n 0, c_getC 23 12 106 6, c_iload_n 1, c_iconst 0, c_iast 106 10, c_iconst 0, c_istore 4]
theorem eX12_theme_47 (kb : Co) (a0 a1 a2 a3 : Int) (s : St) : exb (famH (tX12_theme_47 kb) kb) 57 bX12_theme_47 [(3, 12, a0), (0, 0, a1), (0, 0, a2), (0, 0, a3), (7, 0, 0), (7, 0, 0)] [] s = fX12_theme_47 kb a0 a1 a2 a3 s := rfl
noncomputable def bX12_theme_57 : List En := [c_iload 4, c_aload_n 0, c_getI 156 12 1, c_icmp .ge 38 101, c_aload_n 0, c_getC 23 12 106 6, c_iload 4, c_iald 106 10, c_iload_n 2, c_iand, c_invs 173 [] gX12_bits mdX12_bits, c_iconst 3, c_icmp .lt 16 95, c_aload_n 0, c_getC 26 12 107 7, c_iload 4, c_iald 107 10, c_iload_n 3, c_icmp .gt 5 95, c_iconst (-1), c_ireturn]
theorem eX12_theme_57 (kb : Co) (a0 a1 a2 a3 a4 : Int) (s : St) : exb (famH (tX12_theme_57 kb) kb) 0 bX12_theme_57 [(3, 12, a0), (0, 0, a1), (0, 0, a2), (0, 0, a3), (0, 0, a4), (7, 0, 0)] [] s = fX12_theme_57 kb a0 a1 a2 a3 a4 s := rfl
noncomputable def bX12_theme_95 : List En := [c_iinc 4 1, c_goto (-41) 57]
theorem eX12_theme_95 (kb : Co) (a0 a1 a2 a3 a4 : Int) (s : St) : exb (famH (tX12_theme_95 kb) kb) 0 bX12_theme_95 [(3, 12, a0), (0, 0, a1), (0, 0, a2), (0, 0, a3), (0, 0, a4), (7, 0, 0)] [] s = fX12_theme_95 kb a0 a1 a2 a3 a4 s := rfl
noncomputable def bX12_theme_101 : List En := [c_iconst 0, c_istore 4, c_iconst 0, c_istore 5]
theorem eX12_theme_101 (kb : Co) (a0 a1 a2 a3 : Int) (s : St) : exb (famH (tX12_theme_101 kb) kb) 107 bX12_theme_101 [(3, 12, a0), (0, 0, a1), (0, 0, a2), (0, 0, a3), (7, 0, 0), (7, 0, 0)] [] s = fX12_theme_101 kb a0 a1 a2 a3 s := rfl
noncomputable def bX12_theme_107 : List En := [c_iload 5, c_aload_n 0, c_getI 156 12 1, c_icmp .ge 36 149, c_aload_n 0, c_getC 23 12 106 6, c_iload 5, c_iald 106 10, c_iload_n 2, c_iand, c_invs 173 [] gX12_bits mdX12_bits, c_iconst 3, c_icmp .lt 14 143, c_aload_n 0, c_getC 23 12 106 6, c_iload 5, c_iconst 0, c_iast 106 10, c_iinc 4 1]
theorem eX12_theme_107 (kb : Co) (a0 a1 a2 a3 a4 a5 : Int) (s : St) : exb (famH (tX12_theme_107 kb) kb) 143 bX12_theme_107 [(3, 12, a0), (0, 0, a1), (0, 0, a2), (0, 0, a3), (0, 0, a4), (0, 0, a5)] [] s = fX12_theme_107 kb a0 a1 a2 a3 a4 a5 s := rfl
noncomputable def bX12_theme_143 : List En := [c_iinc 5 1, c_goto (-39) 107]
theorem eX12_theme_143 (kb : Co) (a0 a1 a2 a3 a4 a5 : Int) (s : St) : exb (famH (tX12_theme_143 kb) kb) 0 bX12_theme_143 [(3, 12, a0), (0, 0, a1), (0, 0, a2), (0, 0, a3), (0, 0, a4), (0, 0, a5)] [] s = fX12_theme_143 kb a0 a1 a2 a3 a4 a5 s := rfl
noncomputable def bX12_theme_149 : List En := [c_aload_n 0, c_getC 23 12 106 6, c_iload_n 1, c_iload_n 2, c_iast 106 10, c_aload_n 0, c_getC 26 12 107 7, c_iload_n 1, c_iload_n 3, c_iast 107 10, c_iload 4, c_ireturn]
theorem eX12_theme_149 (kb : Co) (a0 a1 a2 a3 a4 : Int) (s : St) : exb (famH (tX12_theme_149 kb) kb) 0 bX12_theme_149 [(3, 12, a0), (0, 0, a1), (0, 0, a2), (0, 0, a3), (0, 0, a4), (7, 0, 0)] [] s = fX12_theme_149 kb a0 a1 a2 a3 a4 s := rfl
-- FloatparadeModel.song(I)I
noncomputable def bX12_song_0 : List En := [c_aload_n 0, c_iload_n 1, c_invv 170 [] gX12_isSociety mdX12_isSociety, c_istore_n 2, c_aload_n 0, c_iload_n 2, c_if .ne 7 15, c_iconst 1, c_goto 28 40]
theorem eX12_song_0 (kb : Co) (a0 a1 : Int) (s : St) : exb (famH (tX12_song_0 kb) kb) 0 bX12_song_0 [(3, 12, a0), (0, 0, a1), (7, 0, 0)] [] s = fX12_song_0 kb a0 a1 s := rfl
noncomputable def bX12_song_15 : List En := [c_aload_n 0, c_getC 29 12 108 8, c_iload_n 1, c_iald 108 10, c_bipush 6, c_icmp .eq 12 35, c_aload_n 0, c_getC 35 12 110 10, c_iload_n 1, c_bald 110 10, c_if .eq 7 39]
theorem eX12_song_15 (kb : Co) (a0 a1 y0 : Int) (s : St) : exb (famH (tX12_song_15 kb) kb) 35 bX12_song_15 [(3, 12, a0), (0, 0, a1), (7, 0, 0)] [(3, 12, y0)] s = fX12_song_15 kb a0 a1 y0 s := rfl
noncomputable def bX12_song_35 : List En := [c_iconst 2, c_goto 4 40]
theorem eX12_song_35 (kb : Co) (a0 a1 y0 : Int) (s : St) : exb (famH (tX12_song_35 kb) kb) 0 bX12_song_35 [(3, 12, a0), (0, 0, a1), (7, 0, 0)] [(3, 12, y0)] s = fX12_song_35 kb a0 a1 y0 s := rfl
noncomputable def bX12_song_39 : List En := [c_iconst 0]
theorem eX12_song_39 (kb : Co) (a0 a1 y0 : Int) (s : St) : exb (famH (tX12_song_39 kb) kb) 40 bX12_song_39 [(3, 12, a0), (0, 0, a1), (7, 0, 0)] [(3, 12, y0)] s = fX12_song_39 kb a0 a1 y0 s := rfl
noncomputable def bX12_song_40 : List En := [c_invv 167 [] gX12_holds mdX12_holds, c_if .ne 5 48, c_iconst 0, c_ireturn]
theorem eX12_song_40 (kb : Co) (a0 a1 y0 y1 : Int) (s : St) : exb (famH (tX12_song_40 kb) kb) 0 bX12_song_40 [(3, 12, a0), (0, 0, a1), (7, 0, 0)] [(0, 0, y0), (3, 12, y1)] s = fX12_song_40 kb a0 a1 y0 y1 s := rfl
noncomputable def bX12_song_48 : List En := [c_aload_n 0, c_getC 38 12 111 11, c_bipush 6, c_iload_n 1, c_imul, c_aload_n 0, c_getC 29 12 108 8, c_iload_n 1, c_iald 108 10, c_iadd, c_iconst 0, c_iast 111 60, c_aload_n 0, c_getC 29 12 108 8, c_iload_n 1, c_dup2, c_iald 108 10, c_iconst 1, c_iadd, c_iast 108 10, c_aload_n 0, c_getC 29 12 108 8, c_iload_n 1, c_iald 108 10, c_iconst 1, c_isub, c_ireturn]
theorem eX12_song_48 (kb : Co) (a0 a1 : Int) (s : St) : exb (famH (tX12_song_48 kb) kb) 0 bX12_song_48 [(3, 12, a0), (0, 0, a1), (7, 0, 0)] [] s = fX12_song_48 kb a0 a1 s := rfl
-- FloatparadeModel.leftSongs(I)I
noncomputable def bX12_leftSongs_0 : List En := [c_aload_n 0, c_getC 29 12 108 8, c_iload_n 1, c_iald 108 10, c_aload_n 0, c_getC 32 12 109 9, c_iload_n 1, c_iald 109 10, c_invs 173 [] gX12_bits mdX12_bits, c_isub, c_ireturn]
theorem eX12_leftSongs_0 (kb : Co) (a0 a1 : Int) (s : St) : exb (famH (tX12_leftSongs_0 kb) kb) 0 bX12_leftSongs_0 [(3, 12, a0), (0, 0, a1)] [] s = fX12_leftSongs_0 kb a0 a1 s := rfl
-- FloatparadeModel.isStruck(II)Z
noncomputable def bX12_isStruck_0 : List En := [c_aload_n 0, c_getC 32 12 109 9, c_iload_n 1, c_iald 109 10, c_iload_n 2, c_ishr, c_iconst 1, c_iand, c_iconst 1, c_icmp .ne 7 18, c_iconst 1, c_goto 4 19]
theorem eX12_isStruck_0 (kb : Co) (a0 a1 a2 : Int) (s : St) : exb (famH (tX12_isStruck_0 kb) kb) 0 bX12_isStruck_0 [(3, 12, a0), (0, 0, a1), (0, 0, a2)] [] s = fX12_isStruck_0 kb a0 a1 a2 s := rfl
noncomputable def bX12_isStruck_18 : List En := [c_iconst 0]
theorem eX12_isStruck_18 (kb : Co) (s : St) : exb (famH (tX12_isStruck_18 kb) kb) 19 bX12_isStruck_18 [(7, 0, 0), (7, 0, 0), (7, 0, 0)] [] s = fX12_isStruck_18 kb s := rfl
noncomputable def bX12_isStruck_19 : List En := [c_zreturn]
theorem eX12_isStruck_19 (kb : Co) (y0 : Int) (s : St) : exb (famH (tX12_isStruck_19 kb) kb) 0 bX12_isStruck_19 [(7, 0, 0), (7, 0, 0), (7, 0, 0)] [(0, 0, y0)] s = fX12_isStruck_19 kb y0 s := rfl
-- FloatparadeModel.vote(III)I
noncomputable def bX12_vote_0 : List En := [c_aload_n 0, c_iload_n 1, c_invv 170 [] gX12_isSociety mdX12_isSociety, c_if .eq 35 40, c_iload_n 2, c_iconst 0, c_aload_n 0, c_getC 29 12 108 8, c_aload_n 0, c_iload_n 1, c_invv 170 [] gX12_isSociety mdX12_isSociety, c_if .eq 7 26, c_iload_n 1, c_goto 4 27]
theorem eX12_vote_0 (kb : Co) (a0 a1 a2 a3 : Int) (s : St) : exb (famH (tX12_vote_0 kb) kb) 0 bX12_vote_0 [(3, 12, a0), (0, 0, a1), (0, 0, a2), (0, 0, a3), (7, 0, 0)] [] s = fX12_vote_0 kb a0 a1 a2 a3 s := rfl
noncomputable def bX12_vote_26 : List En := [c_iconst 0]
theorem eX12_vote_26 (kb : Co) (a0 a1 a2 a3 y0 y1 y2 : Int) (s : St) : exb (famH (tX12_vote_26 kb) kb) 27 bX12_vote_26 [(3, 12, a0), (0, 0, a1), (0, 0, a2), (0, 0, a3), (7, 0, 0)] [(3, 108, y0), (0, 0, y1), (0, 0, y2)] s = fX12_vote_26 kb a0 a1 a2 a3 y0 y1 y2 s := rfl
noncomputable def bX12_vote_27 : List En := [c_iald 108 10, c_iconst 1, c_isub, c_invs 159 [] gX12_in mdX12_in, c_if .eq 7 40, c_iconst 1, c_goto 4 41]
theorem eX12_vote_27 (kb : Co) (a0 a1 a2 a3 y0 y1 y2 y3 : Int) (s : St) : exb (famH (tX12_vote_27 kb) kb) 0 bX12_vote_27 [(3, 12, a0), (0, 0, a1), (0, 0, a2), (0, 0, a3), (7, 0, 0)] [(0, 0, y0), (3, 108, y1), (0, 0, y2), (0, 0, y3)] s = fX12_vote_27 kb a0 a1 a2 a3 y0 y1 y2 y3 s := rfl
noncomputable def bX12_vote_40 : List En := [c_iconst 0]
theorem eX12_vote_40 (kb : Co) (a0 a1 a2 a3 : Int) (s : St) : exb (famH (tX12_vote_40 kb) kb) 41 bX12_vote_40 [(3, 12, a0), (0, 0, a1), (0, 0, a2), (0, 0, a3), (7, 0, 0)] [] s = fX12_vote_40 kb a0 a1 a2 a3 s := rfl
noncomputable def bX12_vote_41 : List En := [c_istore 4, c_aload_n 0, c_iload 4, c_if .ne 7 53, c_iconst 1, c_goto 40 90]
theorem eX12_vote_41 (kb : Co) (a0 a1 a2 a3 y0 : Int) (s : St) : exb (famH (tX12_vote_41 kb) kb) 0 bX12_vote_41 [(3, 12, a0), (0, 0, a1), (0, 0, a2), (0, 0, a3), (7, 0, 0)] [(0, 0, y0)] s = fX12_vote_41 kb a0 a1 a2 a3 y0 s := rfl
noncomputable def bX12_vote_53 : List En := [c_iload_n 3, c_iconst 1, c_bipush 99, c_invs 159 [] gX12_in mdX12_in, c_if .ne 7 67, c_iconst 2, c_goto 26 90]
theorem eX12_vote_53 (kb : Co) (a0 a1 a2 a3 y0 : Int) (s : St) : exb (famH (tX12_vote_53 kb) kb) 0 bX12_vote_53 [(3, 12, a0), (0, 0, a1), (0, 0, a2), (0, 0, a3), (7, 0, 0)] [(3, 12, y0)] s = fX12_vote_53 kb a0 a1 a2 a3 y0 s := rfl
noncomputable def bX12_vote_67 : List En := [c_aload_n 0, c_iload_n 1, c_iload_n 2, c_invv 177 [] gX12_isStruck mdX12_isStruck, c_if .ne 12 85, c_aload_n 0, c_iload_n 1, c_invv 181 [] gX12_leftSongs mdX12_leftSongs, c_iconst 2, c_icmp .ge 7 89]
theorem eX12_vote_67 (kb : Co) (a0 a1 a2 a3 y0 : Int) (s : St) : exb (famH (tX12_vote_67 kb) kb) 85 bX12_vote_67 [(3, 12, a0), (0, 0, a1), (0, 0, a2), (0, 0, a3), (7, 0, 0)] [(3, 12, y0)] s = fX12_vote_67 kb a0 a1 a2 a3 y0 s := rfl
noncomputable def bX12_vote_85 : List En := [c_iconst 3, c_goto 4 90]
theorem eX12_vote_85 (kb : Co) (a0 a1 a2 a3 y0 : Int) (s : St) : exb (famH (tX12_vote_85 kb) kb) 0 bX12_vote_85 [(3, 12, a0), (0, 0, a1), (0, 0, a2), (0, 0, a3), (7, 0, 0)] [(3, 12, y0)] s = fX12_vote_85 kb a0 a1 a2 a3 y0 s := rfl
noncomputable def bX12_vote_89 : List En := [c_iconst 0]
theorem eX12_vote_89 (kb : Co) (a0 a1 a2 a3 y0 : Int) (s : St) : exb (famH (tX12_vote_89 kb) kb) 90 bX12_vote_89 [(3, 12, a0), (0, 0, a1), (0, 0, a2), (0, 0, a3), (7, 0, 0)] [(3, 12, y0)] s = fX12_vote_89 kb a0 a1 a2 a3 y0 s := rfl
noncomputable def bX12_vote_90 : List En := [c_invv 167 [] gX12_holds mdX12_holds, c_if .ne 5 98, c_iconst 0, c_ireturn]
theorem eX12_vote_90 (kb : Co) (a0 a1 a2 a3 y0 y1 : Int) (s : St) : exb (famH (tX12_vote_90 kb) kb) 0 bX12_vote_90 [(3, 12, a0), (0, 0, a1), (0, 0, a2), (0, 0, a3), (7, 0, 0)] [(0, 0, y0), (3, 12, y1)] s = fX12_vote_90 kb a0 a1 a2 a3 y0 y1 s := rfl
noncomputable def bX12_vote_98 : List En := [c_aload_n 0, c_getC 38 12 111 11, c_bipush 6, c_iload_n 1, c_imul, c_iload_n 2, c_iadd, c_dup2, c_iald 111 60, c_iload_n 3, c_iadd, c_iast 111 60, c_aload_n 0, c_getC 38 12 111 11, c_bipush 6, c_iload_n 1, c_imul, c_iload_n 2, c_iadd, c_iald 111 60, c_ireturn]
theorem eX12_vote_98 (kb : Co) (a0 a1 a2 a3 : Int) (s : St) : exb (famH (tX12_vote_98 kb) kb) 0 bX12_vote_98 [(3, 12, a0), (0, 0, a1), (0, 0, a2), (0, 0, a3), (7, 0, 0)] [] s = fX12_vote_98 kb a0 a1 a2 a3 s := rfl
-- FloatparadeModel.round(I)I
noncomputable def bX12_round_0 : List En := [c_aload_n 0, c_iload_n 1, c_invv 170 [] gX12_isSociety mdX12_isSociety, c_istore_n 2, c_aload_n 0, c_iload_n 2, c_if .ne 7 15, c_iconst 1, c_goto 17 29]
theorem eX12_round_0 (kb : Co) (a0 a1 : Int) (s : St) : exb (famH (tX12_round_0 kb) kb) 0 bX12_round_0 [(3, 12, a0), (0, 0, a1), (7, 0, 0), (7, 0, 0), (7, 0, 0), (7, 0, 0)] [] s = fX12_round_0 kb a0 a1 s := rfl
noncomputable def bX12_round_15 : List En := [c_aload_n 0, c_iload_n 1, c_invv 181 [] gX12_leftSongs mdX12_leftSongs, c_iconst 2, c_icmp .ge 7 28, c_iconst 2, c_goto 4 29]
theorem eX12_round_15 (kb : Co) (a0 a1 y0 : Int) (s : St) : exb (famH (tX12_round_15 kb) kb) 0 bX12_round_15 [(3, 12, a0), (0, 0, a1), (7, 0, 0), (7, 0, 0), (7, 0, 0), (7, 0, 0)] [(3, 12, y0)] s = fX12_round_15 kb a0 a1 y0 s := rfl
noncomputable def bX12_round_28 : List En := [c_iconst 0]
theorem eX12_round_28 (kb : Co) (a0 a1 y0 : Int) (s : St) : exb (famH (tX12_round_28 kb) kb) 29 bX12_round_28 [(3, 12, a0), (0, 0, a1), (7, 0, 0), (7, 0, 0), (7, 0, 0), (7, 0, 0)] [(3, 12, y0)] s = fX12_round_28 kb a0 a1 y0 s := rfl
noncomputable def bX12_round_29 : List En := [c_invv 167 [] gX12_holds mdX12_holds, c_if .ne 5 37, c_iconst 0, c_ireturn]
theorem eX12_round_29 (kb : Co) (a0 a1 y0 y1 : Int) (s : St) : exb (famH (tX12_round_29 kb) kb) 0 bX12_round_29 [(3, 12, a0), (0, 0, a1), (7, 0, 0), (7, 0, 0), (7, 0, 0), (7, 0, 0)] [(0, 0, y0), (3, 12, y1)] s = fX12_round_29 kb a0 a1 y0 y1 s := rfl
noncomputable def bX12_round_37 : List En := [c_iconst (-1), c_istore_n 3, c_iconst 0, c_istore 4]
theorem eX12_round_37 (kb : Co) (a0 a1 : Int) (s : St) : exb (famH (tX12_round_37 kb) kb) 42 bX12_round_37 [(3, 12, a0), (0, 0, a1), (7, 0, 0), (7, 0, 0), (7, 0, 0), (7, 0, 0)] [] s = fX12_round_37 kb a0 a1 s := rfl
noncomputable def bX12_round_42 : List En := [c_iload 4, c_aload_n 0, c_getC 29 12 108 8, c_iload_n 1, c_iald 108 10, c_icmp .ge 69 119, c_iload_n 3, c_iconst (-1), c_icmp .eq 29 84, c_aload_n 0, c_getC 38 12 111 11, c_bipush 6, c_iload_n 1, c_imul, c_iload 4, c_iadd, c_iald 111 60, c_aload_n 0, c_getC 38 12 111 11, c_bipush 6, c_iload_n 1, c_imul, c_iload_n 3, c_iadd, c_iald 111 60, c_icmp .gt 7 88]
theorem eX12_round_42 (kb : Co) (a0 a1 a3 a4 : Int) (s : St) : exb (famH (tX12_round_42 kb) kb) 84 bX12_round_42 [(3, 12, a0), (0, 0, a1), (7, 0, 0), (0, 0, a3), (0, 0, a4), (7, 0, 0)] [] s = fX12_round_42 kb a0 a1 a3 a4 s := rfl
noncomputable def bX12_round_84 : List En := [c_iconst 1, c_goto 4 89]
theorem eX12_round_84 (kb : Co) (a0 a1 a3 a4 : Int) (s : St) : exb (famH (tX12_round_84 kb) kb) 0 bX12_round_84 [(3, 12, a0), (0, 0, a1), (7, 0, 0), (0, 0, a3), (0, 0, a4), (7, 0, 0)] [] s = fX12_round_84 kb a0 a1 a3 a4 s := rfl
noncomputable def bX12_round_88 : List En := [c_iconst 0]
theorem eX12_round_88 (kb : Co) (a0 a1 a3 a4 : Int) (s : St) : exb (famH (tX12_round_88 kb) kb) 89 bX12_round_88 [(3, 12, a0), (0, 0, a1), (7, 0, 0), (0, 0, a3), (0, 0, a4), (7, 0, 0)] [] s = fX12_round_88 kb a0 a1 a3 a4 s := rfl
noncomputable def bX12_round_89 : List En := [c_istore 5, c_aload_n 0, c_iload_n 1, c_iload 4, c_invv 177 [] gX12_isStruck mdX12_isStruck, c_if .ne 13 111, c_iload 5, c_if .eq 8 111, c_iload 4, c_goto 4 112]
theorem eX12_round_89 (kb : Co) (a0 a1 a3 a4 y0 : Int) (s : St) : exb (famH (tX12_round_89 kb) kb) 0 bX12_round_89 [(3, 12, a0), (0, 0, a1), (7, 0, 0), (0, 0, a3), (0, 0, a4), (7, 0, 0)] [(0, 0, y0)] s = fX12_round_89 kb a0 a1 a3 a4 y0 s := rfl
noncomputable def bX12_round_111 : List En := [c_iload_n 3]
theorem eX12_round_111 (kb : Co) (a0 a1 a3 a4 : Int) (s : St) : exb (famH (tX12_round_111 kb) kb) 112 bX12_round_111 [(3, 12, a0), (0, 0, a1), (7, 0, 0), (0, 0, a3), (0, 0, a4), (7, 0, 0)] [] s = fX12_round_111 kb a0 a1 a3 a4 s := rfl
noncomputable def bX12_round_112 : List En := [c_istore_n 3, c_iinc 4 1, c_goto (-74) 42]
theorem eX12_round_112 (kb : Co) (a0 a1 a4 y0 : Int) (s : St) : exb (famH (tX12_round_112 kb) kb) 0 bX12_round_112 [(3, 12, a0), (0, 0, a1), (7, 0, 0), (7, 0, 0), (0, 0, a4), (7, 0, 0)] [(0, 0, y0)] s = fX12_round_112 kb a0 a1 a4 y0 s := rfl
noncomputable def bX12_round_119 : List En := [c_aload_n 0, c_getC 32 12 109 9, c_iload_n 1, c_dup2, c_iald 109 10, c_iconst 1, c_iload_n 3, c_ishl, c_ior, c_iast 109 10, c_aload_n 0, c_getC 35 12 110 10, c_iload_n 1, c_iconst 1, c_bast 110 10, c_iconst 0, c_istore 4]
theorem eX12_round_119 (kb : Co) (a0 a1 a3 : Int) (s : St) : exb (famH (tX12_round_119 kb) kb) 141 bX12_round_119 [(3, 12, a0), (0, 0, a1), (7, 0, 0), (0, 0, a3), (7, 0, 0), (7, 0, 0)] [] s = fX12_round_119 kb a0 a1 a3 s := rfl
noncomputable def bX12_round_141 : List En := [c_iload 4, c_aload_n 0, c_getC 29 12 108 8, c_iload_n 1, c_iald 108 10, c_icmp .ge 22 171, c_aload_n 0, c_getC 38 12 111 11, c_bipush 6, c_iload_n 1, c_imul, c_iload 4, c_iadd, c_iconst 0, c_iast 111 60, c_iinc 4 1, c_goto (-27) 141]
theorem eX12_round_141 (kb : Co) (a0 a1 a3 a4 : Int) (s : St) : exb (famH (tX12_round_141 kb) kb) 0 bX12_round_141 [(3, 12, a0), (0, 0, a1), (7, 0, 0), (0, 0, a3), (0, 0, a4), (7, 0, 0)] [] s = fX12_round_141 kb a0 a1 a3 a4 s := rfl
noncomputable def bX12_round_171 : List En := [c_iload_n 3, c_ireturn]
theorem eX12_round_171 (kb : Co) (a3 : Int) (s : St) : exb (famH (tX12_round_171 kb) kb) 0 bX12_round_171 [(7, 0, 0), (7, 0, 0), (7, 0, 0), (0, 0, a3), (7, 0, 0), (7, 0, 0)] [] s = fX12_round_171 kb a3 s := rfl
-- FloatparadeModel.chosenSong(I)I
noncomputable def bX12_chosenSong_0 : List En := [c_iconst (-1), c_istore_n 2, c_iconst 0, c_istore_n 3]
theorem eX12_chosenSong_0 (kb : Co) (a0 a1 : Int) (s : St) : exb (famH (tX12_chosenSong_0 kb) kb) 4 bX12_chosenSong_0 [(3, 12, a0), (0, 0, a1), (7, 0, 0), (7, 0, 0)] [] s = fX12_chosenSong_0 kb a0 a1 s := rfl
noncomputable def bX12_chosenSong_4 : List En := [c_iload_n 3, c_aload_n 0, c_getC 29 12 108 8, c_iload_n 1, c_iald 108 10, c_icmp .ge 24 35, c_aload_n 0, c_iload_n 1, c_iload_n 3, c_invv 177 [] gX12_isStruck mdX12_isStruck, c_if .eq 7 27, c_iload_n 2, c_goto 4 28]
theorem eX12_chosenSong_4 (kb : Co) (a0 a1 a2 a3 : Int) (s : St) : exb (famH (tX12_chosenSong_4 kb) kb) 0 bX12_chosenSong_4 [(3, 12, a0), (0, 0, a1), (0, 0, a2), (0, 0, a3)] [] s = fX12_chosenSong_4 kb a0 a1 a2 a3 s := rfl
noncomputable def bX12_chosenSong_27 : List En := [c_iload_n 3]
theorem eX12_chosenSong_27 (kb : Co) (a0 a1 a3 : Int) (s : St) : exb (famH (tX12_chosenSong_27 kb) kb) 28 bX12_chosenSong_27 [(3, 12, a0), (0, 0, a1), (7, 0, 0), (0, 0, a3)] [] s = fX12_chosenSong_27 kb a0 a1 a3 s := rfl
noncomputable def bX12_chosenSong_28 : List En := [c_istore_n 2, c_iinc 3 1, c_goto (-28) 4]
theorem eX12_chosenSong_28 (kb : Co) (a0 a1 a3 y0 : Int) (s : St) : exb (famH (tX12_chosenSong_28 kb) kb) 0 bX12_chosenSong_28 [(3, 12, a0), (0, 0, a1), (7, 0, 0), (0, 0, a3)] [(0, 0, y0)] s = fX12_chosenSong_28 kb a0 a1 a3 y0 s := rfl
noncomputable def bX12_chosenSong_35 : List En := [c_aload_n 0, c_iload_n 1, c_invv 181 [] gX12_leftSongs mdX12_leftSongs, c_iconst 1, c_icmp .ne 7 48, c_iload_n 2, c_goto 4 49]
theorem eX12_chosenSong_35 (kb : Co) (a0 a1 a2 : Int) (s : St) : exb (famH (tX12_chosenSong_35 kb) kb) 0 bX12_chosenSong_35 [(3, 12, a0), (0, 0, a1), (0, 0, a2), (7, 0, 0)] [] s = fX12_chosenSong_35 kb a0 a1 a2 s := rfl
noncomputable def bX12_chosenSong_48 : List En := [c_iconst (-1)]
theorem eX12_chosenSong_48 (kb : Co) (s : St) : exb (famH (tX12_chosenSong_48 kb) kb) 49 bX12_chosenSong_48 [(7, 0, 0), (7, 0, 0), (7, 0, 0), (7, 0, 0)] [] s = fX12_chosenSong_48 kb s := rfl
noncomputable def bX12_chosenSong_49 : List En := [c_ireturn]
theorem eX12_chosenSong_49 (kb : Co) (y0 : Int) (s : St) : exb (famH (tX12_chosenSong_49 kb) kb) 0 bX12_chosenSong_49 [(7, 0, 0), (7, 0, 0), (7, 0, 0), (7, 0, 0)] [(0, 0, y0)] s = fX12_chosenSong_49 kb y0 s := rfl
-- FloatparadeModel.streetBetween(II)I
noncomputable def bX12_streetBetween_0 : List En := [c_iconst (-1), c_istore_n 3, c_iconst 0, c_istore 4]
theorem eX12_streetBetween_0 (kb : Co) (a0 a1 a2 : Int) (s : St) : exb (famH (tX12_streetBetween_0 kb) kb) 5 bX12_streetBetween_0 [(3, 12, a0), (0, 0, a1), (0, 0, a2), (7, 0, 0), (7, 0, 0), (7, 0, 0)] [] s = fX12_streetBetween_0 kb a0 a1 a2 s := rfl
noncomputable def bX12_streetBetween_5 : List En := [c_iload 4, c_aload_n 0, c_getI 184 12 14, c_icmp .ge 72 83, c_aload_n 0, c_getC 47 12 115 15, c_iload 4, c_iald 115 16, c_iload_n 1, c_icmp .ne 14 36, c_aload_n 0, c_getC 50 12 116 16, c_iload 4, c_iald 116 16, c_iload_n 2, c_icmp .eq 25 58]
theorem eX12_streetBetween_5 (kb : Co) (a0 a1 a2 a3 a4 : Int) (s : St) : exb (famH (tX12_streetBetween_5 kb) kb) 36 bX12_streetBetween_5 [(3, 12, a0), (0, 0, a1), (0, 0, a2), (0, 0, a3), (0, 0, a4), (7, 0, 0)] [] s = fX12_streetBetween_5 kb a0 a1 a2 a3 a4 s := rfl
noncomputable def bX12_streetBetween_36 : List En := [c_aload_n 0, c_getC 47 12 115 15, c_iload 4, c_iald 115 16, c_iload_n 2, c_icmp .ne 18 62, c_aload_n 0, c_getC 50 12 116 16, c_iload 4, c_iald 116 16, c_iload_n 1, c_icmp .ne 7 62]
theorem eX12_streetBetween_36 (kb : Co) (a0 a1 a2 a3 a4 : Int) (s : St) : exb (famH (tX12_streetBetween_36 kb) kb) 58 bX12_streetBetween_36 [(3, 12, a0), (0, 0, a1), (0, 0, a2), (0, 0, a3), (0, 0, a4), (7, 0, 0)] [] s = fX12_streetBetween_36 kb a0 a1 a2 a3 a4 s := rfl
noncomputable def bX12_streetBetween_58 : List En := [c_iconst 1, c_goto 4 63]
theorem eX12_streetBetween_58 (kb : Co) (a0 a1 a2 a3 a4 : Int) (s : St) : exb (famH (tX12_streetBetween_58 kb) kb) 0 bX12_streetBetween_58 [(3, 12, a0), (0, 0, a1), (0, 0, a2), (0, 0, a3), (0, 0, a4), (7, 0, 0)] [] s = fX12_streetBetween_58 kb a0 a1 a2 a3 a4 s := rfl
noncomputable def bX12_streetBetween_62 : List En := [c_iconst 0]
theorem eX12_streetBetween_62 (kb : Co) (a0 a1 a2 a3 a4 : Int) (s : St) : exb (famH (tX12_streetBetween_62 kb) kb) 63 bX12_streetBetween_62 [(3, 12, a0), (0, 0, a1), (0, 0, a2), (0, 0, a3), (0, 0, a4), (7, 0, 0)] [] s = fX12_streetBetween_62 kb a0 a1 a2 a3 a4 s := rfl
noncomputable def bX12_streetBetween_63 : List En := [c_istore 5, c_iload 5, c_if .eq 8 75, c_iload 4, c_goto 4 76]
theorem eX12_streetBetween_63 (kb : Co) (a0 a1 a2 a3 a4 y0 : Int) (s : St) : exb (famH (tX12_streetBetween_63 kb) kb) 0 bX12_streetBetween_63 [(3, 12, a0), (0, 0, a1), (0, 0, a2), (0, 0, a3), (0, 0, a4), (7, 0, 0)] [(0, 0, y0)] s = fX12_streetBetween_63 kb a0 a1 a2 a3 a4 y0 s := rfl
noncomputable def bX12_streetBetween_75 : List En := [c_iload_n 3]
theorem eX12_streetBetween_75 (kb : Co) (a0 a1 a2 a3 a4 : Int) (s : St) : exb (famH (tX12_streetBetween_75 kb) kb) 76 bX12_streetBetween_75 [(3, 12, a0), (0, 0, a1), (0, 0, a2), (0, 0, a3), (0, 0, a4), (7, 0, 0)] [] s = fX12_streetBetween_75 kb a0 a1 a2 a3 a4 s := rfl
noncomputable def bX12_streetBetween_76 : List En := [c_istore_n 3, c_iinc 4 1, c_goto (-75) 5]
theorem eX12_streetBetween_76 (kb : Co) (a0 a1 a2 a4 y0 : Int) (s : St) : exb (famH (tX12_streetBetween_76 kb) kb) 0 bX12_streetBetween_76 [(3, 12, a0), (0, 0, a1), (0, 0, a2), (7, 0, 0), (0, 0, a4), (7, 0, 0)] [(0, 0, y0)] s = fX12_streetBetween_76 kb a0 a1 a2 a4 y0 s := rfl
noncomputable def bX12_streetBetween_83 : List En := [c_iload_n 3, c_ireturn]
theorem eX12_streetBetween_83 (kb : Co) (a3 : Int) (s : St) : exb (famH (tX12_streetBetween_83 kb) kb) 0 bX12_streetBetween_83 [(7, 0, 0), (7, 0, 0), (7, 0, 0), (0, 0, a3), (7, 0, 0), (7, 0, 0)] [] s = fX12_streetBetween_83 kb a3 s := rfl
-- FloatparadeModel.street(IIIIII)I
noncomputable def bX12_street_0 : List En := [c_iload_n 1, c_invs 187 [] gX12_isCorner mdX12_isCorner, c_if .eq 14 18, c_iload_n 2, c_invs 187 [] gX12_isCorner mdX12_isCorner, c_if .eq 7 18, c_iconst 1, c_goto 4 19]
theorem eX12_street_0 (kb : Co) (a0 a1 a2 a3 a4 a5 a6 : Int) (s : St) : exb (famH (tX12_street_0 kb) kb) 0 bX12_street_0 [(3, 12, a0), (0, 0, a1), (0, 0, a2), (0, 0, a3), (0, 0, a4), (0, 0, a5), (0, 0, a6), (7, 0, 0), (7, 0, 0)] [] s = fX12_street_0 kb a0 a1 a2 a3 a4 a5 a6 s := rfl
noncomputable def bX12_street_18 : List En := [c_iconst 0]
theorem eX12_street_18 (kb : Co) (a0 a1 a2 a3 a4 a5 a6 : Int) (s : St) : exb (famH (tX12_street_18 kb) kb) 19 bX12_street_18 [(3, 12, a0), (0, 0, a1), (0, 0, a2), (0, 0, a3), (0, 0, a4), (0, 0, a5), (0, 0, a6), (7, 0, 0), (7, 0, 0)] [] s = fX12_street_18 kb a0 a1 a2 a3 a4 a5 a6 s := rfl
noncomputable def bX12_street_19 : List En := [c_istore 7, c_iload_n 1, c_iload_n 2, c_icmp .eq 50 73, c_iload_n 3, c_iconst 1, c_bipush 30, c_invs 159 [] gX12_in mdX12_in, c_if .eq 40 73, c_iload 4, c_iconst 3, c_bipush 30, c_invs 159 [] gX12_in mdX12_in, c_if .eq 29 73, c_iload 5, c_iconst 2, c_bipush 30, c_invs 159 [] gX12_in mdX12_in, c_if .eq 18 73, c_iload 6, c_iconst 1, c_bipush 99, c_invs 159 [] gX12_in mdX12_in, c_if .eq 7 73, c_iconst 1, c_goto 4 74]
theorem eX12_street_19 (kb : Co) (a0 a1 a2 a3 a4 a5 a6 y0 : Int) (s : St) : exb (famH (tX12_street_19 kb) kb) 0 bX12_street_19 [(3, 12, a0), (0, 0, a1), (0, 0, a2), (0, 0, a3), (0, 0, a4), (0, 0, a5), (0, 0, a6), (7, 0, 0), (7, 0, 0)] [(0, 0, y0)] s = fX12_street_19 kb a0 a1 a2 a3 a4 a5 a6 y0 s := rfl
noncomputable def bX12_street_73 : List En := [c_iconst 0]
theorem eX12_street_73 (kb : Co) (a0 a1 a2 a3 a4 a5 a6 a7 : Int) (s : St) : exb (famH (tX12_street_73 kb) kb) 74 bX12_street_73 [(3, 12, a0), (0, 0, a1), (0, 0, a2), (0, 0, a3), (0, 0, a4), (0, 0, a5), (0, 0, a6), (0, 0, a7), (7, 0, 0)] [] s = fX12_street_73 kb a0 a1 a2 a3 a4 a5 a6 a7 s := rfl
noncomputable def bX12_street_74 : List En := [c_istore 8, c_aload_n 0, c_iload 7, c_if .ne 7 86, c_iconst 1, c_goto 36 119]
theorem eX12_street_74 (kb : Co) (a0 a1 a2 a3 a4 a5 a6 a7 y0 : Int) (s : St) : exb (famH (tX12_street_74 kb) kb) 0 bX12_street_74 [(3, 12, a0), (0, 0, a1), (0, 0, a2), (0, 0, a3), (0, 0, a4), (0, 0, a5), (0, 0, a6), (0, 0, a7), (7, 0, 0)] [(0, 0, y0)] s = fX12_street_74 kb a0 a1 a2 a3 a4 a5 a6 a7 y0 s := rfl
noncomputable def bX12_street_86 : List En := [c_iload 8, c_if .ne 7 95, c_iconst 2, c_goto 27 119]
theorem eX12_street_86 (kb : Co) (a0 a1 a2 a3 a4 a5 a6 a8 y0 : Int) (s : St) : exb (famH (tX12_street_86 kb) kb) 0 bX12_street_86 [(3, 12, a0), (0, 0, a1), (0, 0, a2), (0, 0, a3), (0, 0, a4), (0, 0, a5), (0, 0, a6), (7, 0, 0), (0, 0, a8)] [(3, 12, y0)] s = fX12_street_86 kb a0 a1 a2 a3 a4 a5 a6 a8 y0 s := rfl
noncomputable def bX12_street_95 : List En := [c_aload_n 0, c_getI 184 12 14, c_bipush 16, c_icmp .eq 13 114, c_aload_n 0, c_iload_n 1, c_iload_n 2, c_invv 190 [] gX12_streetBetween mdX12_streetBetween, c_iconst (-1), c_icmp .eq 7 118]
theorem eX12_street_95 (kb : Co) (a0 a1 a2 a3 a4 a5 a6 y0 : Int) (s : St) : exb (famH (tX12_street_95 kb) kb) 114 bX12_street_95 [(3, 12, a0), (0, 0, a1), (0, 0, a2), (0, 0, a3), (0, 0, a4), (0, 0, a5), (0, 0, a6), (7, 0, 0), (7, 0, 0)] [(3, 12, y0)] s = fX12_street_95 kb a0 a1 a2 a3 a4 a5 a6 y0 s := rfl
noncomputable def bX12_street_114 : List En := [c_iconst 3, c_goto 4 119]
theorem eX12_street_114 (kb : Co) (a0 a1 a2 a3 a4 a5 a6 y0 : Int) (s : St) : exb (famH (tX12_street_114 kb) kb) 0 bX12_street_114 [(3, 12, a0), (0, 0, a1), (0, 0, a2), (0, 0, a3), (0, 0, a4), (0, 0, a5), (0, 0, a6), (7, 0, 0), (7, 0, 0)] [(3, 12, y0)] s = fX12_street_114 kb a0 a1 a2 a3 a4 a5 a6 y0 s := rfl
noncomputable def bX12_street_118 : List En := [c_iconst 0]
theorem eX12_street_118 (kb : Co) (a0 a1 a2 a3 a4 a5 a6 y0 : Int) (s : St) : exb (famH (tX12_street_118 kb) kb) 119 bX12_street_118 [(3, 12, a0), (0, 0, a1), (0, 0, a2), (0, 0, a3), (0, 0, a4), (0, 0, a5), (0, 0, a6), (7, 0, 0), (7, 0, 0)] [(3, 12, y0)] s = fX12_street_118 kb a0 a1 a2 a3 a4 a5 a6 y0 s := rfl
noncomputable def bX12_street_119 : List En := [c_invv 167 [] gX12_holds mdX12_holds, c_if .ne 5 127, c_iconst 0, c_ireturn]
theorem eX12_street_119 (kb : Co) (a0 a1 a2 a3 a4 a5 a6 y0 y1 : Int) (s : St) : exb (famH (tX12_street_119 kb) kb) 0 bX12_street_119 [(3, 12, a0), (0, 0, a1), (0, 0, a2), (0, 0, a3), (0, 0, a4), (0, 0, a5), (0, 0, a6), (7, 0, 0), (7, 0, 0)] [(0, 0, y0), (3, 12, y1)] s = fX12_street_119 kb a0 a1 a2 a3 a4 a5 a6 y0 y1 s := rfl
noncomputable def bX12_street_127 : List En := [c_aload_n 0, c_getC 47 12 115 15, c_aload_n 0, c_getI 184 12 14, c_iload_n 1, c_iast 115 16, c_aload_n 0, c_getC 50 12 116 16, c_aload_n 0, c_getI 184 12 14, c_iload_n 2, c_iast 116 16, c_aload_n 0, c_getC 53 12 117 17, c_aload_n 0, c_getI 184 12 14, c_iload_n 3, c_iast 117 16, c_aload_n 0, c_getC 56 12 118 18, c_aload_n 0, c_getI 184 12 14, c_iload 4, c_iast 118 16, c_aload_n 0, c_getC 59 12 119 19, c_aload_n 0, c_getI 184 12 14, c_iload 5, c_iast 119 16, c_aload_n 0, c_getC 62 12 120 20, c_aload_n 0, c_getI 184 12 14, c_iload 6, c_iast 120 16, c_aload_n 0, c_dup, c_getI 184 12 14, c_iconst 1, c_iadd, c_putI 184 12 14, c_aload_n 0, c_getI 184 12 14, c_ireturn]
theorem eX12_street_127 (kb : Co) (a0 a1 a2 a3 a4 a5 a6 : Int) (s : St) : exb (famH (tX12_street_127 kb) kb) 0 bX12_street_127 [(3, 12, a0), (0, 0, a1), (0, 0, a2), (0, 0, a3), (0, 0, a4), (0, 0, a5), (0, 0, a6), (7, 0, 0), (7, 0, 0)] [] s = fX12_street_127 kb a0 a1 a2 a3 a4 a5 a6 s := rfl
-- FloatparadeModel.isBound(I)Z
noncomputable def bX12_isBound_0 : List En := [c_aload_n 0, c_getC 93 12 130 30, c_iload_n 1, c_iald 130 2, c_if .gt 12 18, c_aload_n 0, c_getC 80 12 126 26, c_iload_n 1, c_iald 126 2, c_if .le 7 22]
theorem eX12_isBound_0 (kb : Co) (a0 a1 : Int) (s : St) : exb (famH (tX12_isBound_0 kb) kb) 18 bX12_isBound_0 [(3, 12, a0), (0, 0, a1)] [] s = fX12_isBound_0 kb a0 a1 s := rfl
noncomputable def bX12_isBound_18 : List En := [c_iconst 1, c_goto 4 23]
theorem eX12_isBound_18 (kb : Co) (s : St) : exb (famH (tX12_isBound_18 kb) kb) 0 bX12_isBound_18 [(7, 0, 0), (7, 0, 0)] [] s = fX12_isBound_18 kb s := rfl
noncomputable def bX12_isBound_22 : List En := [c_iconst 0]
theorem eX12_isBound_22 (kb : Co) (s : St) : exb (famH (tX12_isBound_22 kb) kb) 23 bX12_isBound_22 [(7, 0, 0), (7, 0, 0)] [] s = fX12_isBound_22 kb s := rfl
noncomputable def bX12_isBound_23 : List En := [c_zreturn]
theorem eX12_isBound_23 (kb : Co) (y0 : Int) (s : St) : exb (famH (tX12_isBound_23 kb) kb) 0 bX12_isBound_23 [(7, 0, 0), (7, 0, 0)] [(0, 0, y0)] s = fX12_isBound_23 kb y0 s := rfl
-- FloatparadeModel.route(II)V
noncomputable def bX12_route_0 : List En := [c_aload_n 0, c_iload_n 2, c_invs 187 [] gX12_isCorner mdX12_isCorner, c_if .ne 7 12, c_iconst 1, c_goto 27 36]
theorem eX12_route_0 (kb : Co) (a0 a1 a2 : Int) (s : St) : exb (famH (tX12_route_0 kb) kb) 0 bX12_route_0 [(3, 12, a0), (0, 0, a1), (0, 0, a2)] [] s = fX12_route_0 kb a0 a1 a2 s := rfl
noncomputable def bX12_route_12 : List En := [c_iload_n 1, c_invs 163 [] gX12_isLeague mdX12_isLeague, c_if .ne 7 23, c_iconst 2, c_goto 16 36]
theorem eX12_route_12 (kb : Co) (a0 a1 a2 y0 : Int) (s : St) : exb (famH (tX12_route_12 kb) kb) 0 bX12_route_12 [(3, 12, a0), (0, 0, a1), (0, 0, a2)] [(3, 12, y0)] s = fX12_route_12 kb a0 a1 a2 y0 s := rfl
noncomputable def bX12_route_23 : List En := [c_aload_n 0, c_iload_n 1, c_invv 194 [] gX12_isBound mdX12_isBound, c_if .eq 7 35, c_iconst 3, c_goto 4 36]
theorem eX12_route_23 (kb : Co) (a0 a1 a2 y0 : Int) (s : St) : exb (famH (tX12_route_23 kb) kb) 0 bX12_route_23 [(3, 12, a0), (0, 0, a1), (0, 0, a2)] [(3, 12, y0)] s = fX12_route_23 kb a0 a1 a2 y0 s := rfl
noncomputable def bX12_route_35 : List En := [c_iconst 0]
theorem eX12_route_35 (kb : Co) (a0 a1 a2 y0 : Int) (s : St) : exb (famH (tX12_route_35 kb) kb) 36 bX12_route_35 [(3, 12, a0), (0, 0, a1), (0, 0, a2)] [(3, 12, y0)] s = fX12_route_35 kb a0 a1 a2 y0 s := rfl
noncomputable def bX12_route_36 : List En := [c_invv 167 [] gX12_holds mdX12_holds, c_if .eq 20 59, c_aload_n 0, c_getC 68 12 122 22, c_bipush 10, c_iload_n 1, c_imul, c_iload_n 2, c_iast 122 20, c_aload_n 0, c_getC 65 12 121 21, c_iload_n 1, c_iconst 1, c_iast 121 2]
theorem eX12_route_36 (kb : Co) (a0 a1 a2 y0 y1 : Int) (s : St) : exb (famH (tX12_route_36 kb) kb) 59 bX12_route_36 [(3, 12, a0), (0, 0, a1), (0, 0, a2)] [(0, 0, y0), (3, 12, y1)] s = fX12_route_36 kb a0 a1 a2 y0 y1 s := rfl
noncomputable def bX12_route_59 : List En := [c_return]
theorem eX12_route_59 (kb : Co) (s : St) : exb (famH (tX12_route_59 kb) kb) 0 bX12_route_59 [(7, 0, 0), (7, 0, 0), (7, 0, 0)] [] s = fX12_route_59 kb s := rfl
-- FloatparadeModel.streetOf(II)I
noncomputable def bX12_streetOf_0 : List En := [c_aload_n 0, c_aload_n 0, c_getC 68 12 122 22, c_bipush 10, c_iload_n 1, c_imul, c_iload_n 2, c_iadd, c_iald 122 20, c_aload_n 0, c_getC 68 12 122 22, c_bipush 10, c_iload_n 1, c_imul, c_iload_n 2, c_iadd, c_iconst 1, c_iadd, c_iald 122 20, c_invv 190 [] gX12_streetBetween mdX12_streetBetween, c_ireturn]
theorem eX12_streetOf_0 (kb : Co) (a0 a1 a2 : Int) (s : St) : exb (famH (tX12_streetOf_0 kb) kb) 0 bX12_streetOf_0 [(3, 12, a0), (0, 0, a1), (0, 0, a2)] [] s = fX12_streetOf_0 kb a0 a1 a2 s := rfl
-- FloatparadeModel.cellOf(II)I
noncomputable def bX12_cellOf_0 : List En := [c_iconst 0, c_istore_n 3, c_iconst 0, c_istore 4]
theorem eX12_cellOf_0 (kb : Co) (a0 a1 a2 : Int) (s : St) : exb (famH (tX12_cellOf_0 kb) kb) 5 bX12_cellOf_0 [(3, 12, a0), (0, 0, a1), (0, 0, a2), (7, 0, 0), (7, 0, 0)] [] s = fX12_cellOf_0 kb a0 a1 a2 s := rfl
noncomputable def bX12_cellOf_5 : List En := [c_iload 4, c_iload_n 2, c_icmp .ge 24 32, c_iload_n 3, c_aload_n 0, c_getC 53 12 117 17, c_aload_n 0, c_iload_n 1, c_iload 4, c_invv 197 [] gX12_streetOf mdX12_streetOf, c_iald 117 16, c_iadd, c_istore_n 3, c_iinc 4 1, c_goto (-24) 5]
theorem eX12_cellOf_5 (kb : Co) (a0 a1 a2 a3 a4 : Int) (s : St) : exb (famH (tX12_cellOf_5 kb) kb) 0 bX12_cellOf_5 [(3, 12, a0), (0, 0, a1), (0, 0, a2), (0, 0, a3), (0, 0, a4)] [] s = fX12_cellOf_5 kb a0 a1 a2 a3 a4 s := rfl
noncomputable def bX12_cellOf_32 : List En := [c_iload_n 2, c_if .le 21 54, c_iload_n 2, c_aload_n 0, c_getC 65 12 121 21, c_iload_n 1, c_iald 121 2, c_iconst 1, c_isub, c_icmp .ne 9 54, c_iload_n 3, c_iconst 1, c_isub, c_goto 4 55]
theorem eX12_cellOf_32 (kb : Co) (a0 a1 a2 a3 : Int) (s : St) : exb (famH (tX12_cellOf_32 kb) kb) 0 bX12_cellOf_32 [(3, 12, a0), (0, 0, a1), (0, 0, a2), (0, 0, a3), (7, 0, 0)] [] s = fX12_cellOf_32 kb a0 a1 a2 a3 s := rfl
noncomputable def bX12_cellOf_54 : List En := [c_iload_n 3]
theorem eX12_cellOf_54 (kb : Co) (a3 : Int) (s : St) : exb (famH (tX12_cellOf_54 kb) kb) 55 bX12_cellOf_54 [(7, 0, 0), (7, 0, 0), (7, 0, 0), (0, 0, a3), (7, 0, 0)] [] s = fX12_cellOf_54 kb a3 s := rfl
noncomputable def bX12_cellOf_55 : List En := [c_ireturn]
theorem eX12_cellOf_55 (kb : Co) (y0 : Int) (s : St) : exb (famH (tX12_cellOf_55 kb) kb) 0 bX12_cellOf_55 [(7, 0, 0), (7, 0, 0), (7, 0, 0), (7, 0, 0), (7, 0, 0)] [(0, 0, y0)] s = fX12_cellOf_55 kb y0 s := rfl
-- FloatparadeModel.cells(I)I
noncomputable def bX12_cells_0 : List En := [c_iconst 0, c_istore_n 2, c_iconst 0, c_istore_n 3]
theorem eX12_cells_0 (kb : Co) (a0 a1 : Int) (s : St) : exb (famH (tX12_cells_0 kb) kb) 4 bX12_cells_0 [(3, 12, a0), (0, 0, a1), (7, 0, 0), (7, 0, 0)] [] s = fX12_cells_0 kb a0 a1 s := rfl
noncomputable def bX12_cells_4 : List En := [c_iload_n 3, c_aload_n 0, c_getC 65 12 121 21, c_iload_n 1, c_iald 121 2, c_iconst 1, c_isub, c_icmp .ge 23 36, c_iload_n 2, c_aload_n 0, c_getC 53 12 117 17, c_aload_n 0, c_iload_n 1, c_iload_n 3, c_invv 197 [] gX12_streetOf mdX12_streetOf, c_iald 117 16, c_iadd, c_istore_n 2, c_iinc 3 1, c_goto (-29) 4]
theorem eX12_cells_4 (kb : Co) (a0 a1 a2 a3 : Int) (s : St) : exb (famH (tX12_cells_4 kb) kb) 0 bX12_cells_4 [(3, 12, a0), (0, 0, a1), (0, 0, a2), (0, 0, a3)] [] s = fX12_cells_4 kb a0 a1 a2 a3 s := rfl
noncomputable def bX12_cells_36 : List En := [c_iload_n 2, c_ireturn]
theorem eX12_cells_36 (kb : Co) (a2 : Int) (s : St) : exb (famH (tX12_cells_36 kb) kb) 0 bX12_cells_36 [(7, 0, 0), (7, 0, 0), (0, 0, a2), (7, 0, 0)] [] s = fX12_cells_36 kb a2 s := rfl
-- FloatparadeModel.placeOf(II)I
noncomputable def bX12_placeOf_0 : List En := [c_iconst (-1), c_istore_n 3, c_iconst 0, c_istore 4]
theorem eX12_placeOf_0 (kb : Co) (a0 a1 a2 : Int) (s : St) : exb (famH (tX12_placeOf_0 kb) kb) 5 bX12_placeOf_0 [(3, 12, a0), (0, 0, a1), (0, 0, a2), (7, 0, 0), (7, 0, 0)] [] s = fX12_placeOf_0 kb a0 a1 a2 s := rfl
noncomputable def bX12_placeOf_5 : List En := [c_iload 4, c_aload_n 0, c_getC 65 12 121 21, c_iload_n 1, c_iald 121 2, c_icmp .ge 32 45, c_aload_n 0, c_getC 68 12 122 22, c_bipush 10, c_iload_n 1, c_imul, c_iload 4, c_iadd, c_iald 122 20, c_iload_n 2, c_icmp .ne 8 37, c_iload 4, c_goto 4 38]
theorem eX12_placeOf_5 (kb : Co) (a0 a1 a2 a3 a4 : Int) (s : St) : exb (famH (tX12_placeOf_5 kb) kb) 0 bX12_placeOf_5 [(3, 12, a0), (0, 0, a1), (0, 0, a2), (0, 0, a3), (0, 0, a4)] [] s = fX12_placeOf_5 kb a0 a1 a2 a3 a4 s := rfl
noncomputable def bX12_placeOf_37 : List En := [c_iload_n 3]
theorem eX12_placeOf_37 (kb : Co) (a0 a1 a2 a3 a4 : Int) (s : St) : exb (famH (tX12_placeOf_37 kb) kb) 38 bX12_placeOf_37 [(3, 12, a0), (0, 0, a1), (0, 0, a2), (0, 0, a3), (0, 0, a4)] [] s = fX12_placeOf_37 kb a0 a1 a2 a3 a4 s := rfl
noncomputable def bX12_placeOf_38 : List En := [c_istore_n 3, c_iinc 4 1, c_goto (-37) 5]
theorem eX12_placeOf_38 (kb : Co) (a0 a1 a2 a4 y0 : Int) (s : St) : exb (famH (tX12_placeOf_38 kb) kb) 0 bX12_placeOf_38 [(3, 12, a0), (0, 0, a1), (0, 0, a2), (7, 0, 0), (0, 0, a4)] [(0, 0, y0)] s = fX12_placeOf_38 kb a0 a1 a2 a4 y0 s := rfl
noncomputable def bX12_placeOf_45 : List En := [c_iload_n 3, c_ireturn]
theorem eX12_placeOf_45 (kb : Co) (a3 : Int) (s : St) : exb (famH (tX12_placeOf_45 kb) kb) 0 bX12_placeOf_45 [(7, 0, 0), (7, 0, 0), (7, 0, 0), (0, 0, a3), (7, 0, 0)] [] s = fX12_placeOf_45 kb a3 s := rfl
-- FloatparadeModel.canGoOn(II)Z
noncomputable def bX12_canGoOn_0 : List En := [c_aload_n 0, c_getC 65 12 121 21, c_iload_n 1, c_iald 121 2, c_istore_n 3, c_aload_n 0, c_iload_n 1, c_invv 194 [] gX12_isBound mdX12_isBound, c_if .ne 49 61, c_iload_n 3, c_iconst 1, c_bipush 9, c_invs 159 [] gX12_in mdX12_in, c_if .eq 39 61, c_aload_n 0, c_iload_n 1, c_iload_n 2, c_invv 200 [] gX12_placeOf mdX12_placeOf, c_iconst (-1), c_icmp .ne 29 61, c_aload_n 0, c_aload_n 0, c_getC 68 12 122 22, c_bipush 10, c_iload_n 1, c_imul, c_iload_n 3, c_iadd, c_iconst 1, c_isub, c_iald 122 20, c_iload_n 2, c_invv 190 [] gX12_streetBetween mdX12_streetBetween, c_iconst (-1), c_icmp .eq 7 61, c_iconst 1, c_goto 4 62]
theorem eX12_canGoOn_0 (kb : Co) (a0 a1 a2 : Int) (s : St) : exb (famH (tX12_canGoOn_0 kb) kb) 0 bX12_canGoOn_0 [(3, 12, a0), (0, 0, a1), (0, 0, a2), (7, 0, 0)] [] s = fX12_canGoOn_0 kb a0 a1 a2 s := rfl
noncomputable def bX12_canGoOn_61 : List En := [c_iconst 0]
theorem eX12_canGoOn_61 (kb : Co) (s : St) : exb (famH (tX12_canGoOn_61 kb) kb) 62 bX12_canGoOn_61 [(7, 0, 0), (7, 0, 0), (7, 0, 0), (7, 0, 0)] [] s = fX12_canGoOn_61 kb s := rfl
noncomputable def bX12_canGoOn_62 : List En := [c_zreturn]
theorem eX12_canGoOn_62 (kb : Co) (y0 : Int) (s : St) : exb (famH (tX12_canGoOn_62 kb) kb) 0 bX12_canGoOn_62 [(7, 0, 0), (7, 0, 0), (7, 0, 0), (7, 0, 0)] [(0, 0, y0)] s = fX12_canGoOn_62 kb y0 s := rfl
-- FloatparadeModel.goOn(II)I
noncomputable def bX12_goOn_0 : List En := [c_aload_n 0, c_iload_n 2, c_invs 187 [] gX12_isCorner mdX12_isCorner, c_if .ne 7 12, c_iconst 1, c_goto 28 37]
theorem eX12_goOn_0 (kb : Co) (a0 a1 a2 : Int) (s : St) : exb (famH (tX12_goOn_0 kb) kb) 0 bX12_goOn_0 [(3, 12, a0), (0, 0, a1), (0, 0, a2)] [] s = fX12_goOn_0 kb a0 a1 a2 s := rfl
noncomputable def bX12_goOn_12 : List En := [c_iload_n 1, c_invs 163 [] gX12_isLeague mdX12_isLeague, c_if .ne 7 23, c_iconst 2, c_goto 17 37]
theorem eX12_goOn_12 (kb : Co) (a0 a1 a2 y0 : Int) (s : St) : exb (famH (tX12_goOn_12 kb) kb) 0 bX12_goOn_12 [(3, 12, a0), (0, 0, a1), (0, 0, a2)] [(3, 12, y0)] s = fX12_goOn_12 kb a0 a1 a2 y0 s := rfl
noncomputable def bX12_goOn_23 : List En := [c_aload_n 0, c_iload_n 1, c_iload_n 2, c_invv 203 [] gX12_canGoOn mdX12_canGoOn, c_if .eq 7 36, c_iconst 0, c_goto 4 37]
theorem eX12_goOn_23 (kb : Co) (a0 a1 a2 y0 : Int) (s : St) : exb (famH (tX12_goOn_23 kb) kb) 0 bX12_goOn_23 [(3, 12, a0), (0, 0, a1), (0, 0, a2)] [(3, 12, y0)] s = fX12_goOn_23 kb a0 a1 a2 y0 s := rfl
noncomputable def bX12_goOn_36 : List En := [c_iconst 3]
theorem eX12_goOn_36 (kb : Co) (a0 a1 a2 y0 : Int) (s : St) : exb (famH (tX12_goOn_36 kb) kb) 37 bX12_goOn_36 [(3, 12, a0), (0, 0, a1), (0, 0, a2)] [(3, 12, y0)] s = fX12_goOn_36 kb a0 a1 a2 y0 s := rfl
noncomputable def bX12_goOn_37 : List En := [c_invv 167 [] gX12_holds mdX12_holds, c_if .ne 5 45, c_iconst 0, c_ireturn]
theorem eX12_goOn_37 (kb : Co) (a0 a1 a2 y0 y1 : Int) (s : St) : exb (famH (tX12_goOn_37 kb) kb) 0 bX12_goOn_37 [(3, 12, a0), (0, 0, a1), (0, 0, a2)] [(0, 0, y0), (3, 12, y1)] s = fX12_goOn_37 kb a0 a1 a2 y0 y1 s := rfl
noncomputable def bX12_goOn_45 : List En := [c_aload_n 0, c_getC 68 12 122 22, c_bipush 10, c_iload_n 1, c_imul, c_aload_n 0, c_getC 65 12 121 21, c_iload_n 1, c_iald 121 2, c_iadd, c_iload_n 2, c_iast 122 20, c_aload_n 0, c_getC 65 12 121 21, c_iload_n 1, c_dup2, c_iald 121 2, c_iconst 1, c_iadd, c_iast 121 2, c_aload_n 0, c_iload_n 1, c_invv 206 [] gX12_cells mdX12_cells, c_ireturn]
theorem eX12_goOn_45 (kb : Co) (a0 a1 a2 : Int) (s : St) : exb (famH (tX12_goOn_45 kb) kb) 0 bX12_goOn_45 [(3, 12, a0), (0, 0, a1), (0, 0, a2)] [] s = fX12_goOn_45 kb a0 a1 a2 s := rfl
-- FloatparadeModel.jury(IZ)Z
noncomputable def bX12_jury_0 : List En := [c_aload_n 0, c_iload_n 1, c_invs 187 [] gX12_isCorner mdX12_isCorner, c_if .eq 7 12, c_iconst 0, c_goto 4 13]
theorem eX12_jury_0 (kb : Co) (a0 a1 a2 : Int) (s : St) : exb (famH (tX12_jury_0 kb) kb) 0 bX12_jury_0 [(3, 12, a0), (0, 0, a1), (0, 0, a2), (7, 0, 0)] [] s = fX12_jury_0 kb a0 a1 a2 s := rfl
noncomputable def bX12_jury_12 : List En := [c_iconst 1]
theorem eX12_jury_12 (kb : Co) (a0 a1 a2 y0 : Int) (s : St) : exb (famH (tX12_jury_12 kb) kb) 13 bX12_jury_12 [(3, 12, a0), (0, 0, a1), (0, 0, a2), (7, 0, 0)] [(3, 12, y0)] s = fX12_jury_12 kb a0 a1 a2 y0 s := rfl
noncomputable def bX12_jury_13 : List En := [c_invv 167 [] gX12_holds mdX12_holds, c_if .ne 5 21, c_iconst 0, c_zreturn]
theorem eX12_jury_13 (kb : Co) (a0 a1 a2 y0 y1 : Int) (s : St) : exb (famH (tX12_jury_13 kb) kb) 0 bX12_jury_13 [(3, 12, a0), (0, 0, a1), (0, 0, a2), (7, 0, 0)] [(0, 0, y0), (3, 12, y1)] s = fX12_jury_13 kb a0 a1 a2 y0 y1 s := rfl
noncomputable def bX12_jury_21 : List En := [c_aload_n 0, c_getC 71 12 123 23, c_iload_n 1, c_bald 123 12, c_istore_n 3, c_aload_n 0, c_getC 71 12 123 23, c_iload_n 1, c_iload_n 2, c_bast 123 12, c_iload_n 3, c_zreturn]
theorem eX12_jury_21 (kb : Co) (a0 a1 a2 : Int) (s : St) : exb (famH (tX12_jury_21 kb) kb) 0 bX12_jury_21 [(3, 12, a0), (0, 0, a1), (0, 0, a2), (7, 0, 0)] [] s = fX12_jury_21 kb a0 a1 a2 s := rfl
-- FloatparadeModel.at(II)I
noncomputable def bX12_at_0 : List En := [c_bipush 12, c_iload_n 0, c_imul, c_iconst 4, c_iload_n 1, c_imul, c_iadd, c_ireturn]
theorem eX12_at_0 (kb : Co) (a0 a1 : Int) (s : St) : exb (famH (tX12_at_0 kb) kb) 0 bX12_at_0 [(0, 0, a0), (0, 0, a1)] [] s = fX12_at_0 kb a0 a1 s := rfl
-- FloatparadeModel.isFloat(II)Z
noncomputable def bX12_isFloat_0 : List En := [c_aload_n 0, c_iload_n 1, c_invv 170 [] gX12_isSociety mdX12_isSociety, c_if .eq 23 28, c_iload_n 2, c_iconst 0, c_aload_n 0, c_getC 41 12 112 12, c_iload_n 1, c_iald 112 10, c_iconst 1, c_isub, c_invs 159 [] gX12_in mdX12_in, c_if .eq 7 28, c_iconst 1, c_goto 4 29]
theorem eX12_isFloat_0 (kb : Co) (a0 a1 a2 : Int) (s : St) : exb (famH (tX12_isFloat_0 kb) kb) 0 bX12_isFloat_0 [(3, 12, a0), (0, 0, a1), (0, 0, a2)] [] s = fX12_isFloat_0 kb a0 a1 a2 s := rfl
noncomputable def bX12_isFloat_28 : List En := [c_iconst 0]
theorem eX12_isFloat_28 (kb : Co) (s : St) : exb (famH (tX12_isFloat_28 kb) kb) 29 bX12_isFloat_28 [(7, 0, 0), (7, 0, 0), (7, 0, 0)] [] s = fX12_isFloat_28 kb s := rfl
noncomputable def bX12_isFloat_29 : List En := [c_zreturn]
theorem eX12_isFloat_29 (kb : Co) (y0 : Int) (s : St) : exb (famH (tX12_isFloat_29 kb) kb) 0 bX12_isFloat_29 [(7, 0, 0), (7, 0, 0), (7, 0, 0)] [(0, 0, y0)] s = fX12_isFloat_29 kb y0 s := rfl
-- FloatparadeModel.build(IIIII)I
noncomputable def bX12_build_0 : List En := [c_aload_n 0, c_iload_n 1, c_invv 170 [] gX12_isSociety mdX12_isSociety, c_istore 6, c_iload_n 2, c_iconst 1, c_bipush 20, c_invs 159 [] gX12_in mdX12_in, c_if .eq 39 53, c_iload_n 3, c_iconst 1, c_bipush 20, c_invs 159 [] gX12_in mdX12_in, c_if .eq 29 53, c_iload 4, c_iconst 1, c_bipush 99, c_invs 159 [] gX12_in mdX12_in, c_if .eq 18 53, c_iload 5, c_iconst 1, c_bipush 20, c_invs 159 [] gX12_in mdX12_in, c_if .eq 7 53, c_iconst 1, c_goto 4 54]
theorem eX12_build_0 (kb : Co) (a0 a1 a2 a3 a4 a5 : Int) (s : St) : exb (famH (tX12_build_0 kb) kb) 0 bX12_build_0 [(3, 12, a0), (0, 0, a1), (0, 0, a2), (0, 0, a3), (0, 0, a4), (0, 0, a5), (7, 0, 0), (7, 0, 0), (7, 0, 0)] [] s = fX12_build_0 kb a0 a1 a2 a3 a4 a5 s := rfl
noncomputable def bX12_build_53 : List En := [c_iconst 0]
theorem eX12_build_53 (kb : Co) (a0 a1 a2 a3 a4 a5 a6 : Int) (s : St) : exb (famH (tX12_build_53 kb) kb) 54 bX12_build_53 [(3, 12, a0), (0, 0, a1), (0, 0, a2), (0, 0, a3), (0, 0, a4), (0, 0, a5), (0, 0, a6), (7, 0, 0), (7, 0, 0)] [] s = fX12_build_53 kb a0 a1 a2 a3 a4 a5 a6 s := rfl
noncomputable def bX12_build_54 : List En := [c_istore 7, c_aload_n 0, c_iload 6, c_if .ne 7 66, c_iconst 1, c_goto 36 99]
theorem eX12_build_54 (kb : Co) (a0 a1 a2 a3 a4 a5 a6 y0 : Int) (s : St) : exb (famH (tX12_build_54 kb) kb) 0 bX12_build_54 [(3, 12, a0), (0, 0, a1), (0, 0, a2), (0, 0, a3), (0, 0, a4), (0, 0, a5), (0, 0, a6), (7, 0, 0), (7, 0, 0)] [(0, 0, y0)] s = fX12_build_54 kb a0 a1 a2 a3 a4 a5 a6 y0 s := rfl
noncomputable def bX12_build_66 : List En := [c_iload 7, c_if .ne 7 75, c_iconst 2, c_goto 27 99]
theorem eX12_build_66 (kb : Co) (a0 a1 a2 a3 a4 a5 a7 y0 : Int) (s : St) : exb (famH (tX12_build_66 kb) kb) 0 bX12_build_66 [(3, 12, a0), (0, 0, a1), (0, 0, a2), (0, 0, a3), (0, 0, a4), (0, 0, a5), (7, 0, 0), (0, 0, a7), (7, 0, 0)] [(3, 12, y0)] s = fX12_build_66 kb a0 a1 a2 a3 a4 a5 a7 y0 s := rfl
noncomputable def bX12_build_75 : List En := [c_aload_n 0, c_getC 41 12 112 12, c_iload_n 1, c_iald 112 10, c_iconst 3, c_icmp .eq 12 94, c_aload_n 0, c_getC 74 12 124 24, c_iload_n 1, c_bald 124 10, c_if .eq 7 98]
theorem eX12_build_75 (kb : Co) (a0 a1 a2 a3 a4 a5 y0 : Int) (s : St) : exb (famH (tX12_build_75 kb) kb) 94 bX12_build_75 [(3, 12, a0), (0, 0, a1), (0, 0, a2), (0, 0, a3), (0, 0, a4), (0, 0, a5), (7, 0, 0), (7, 0, 0), (7, 0, 0)] [(3, 12, y0)] s = fX12_build_75 kb a0 a1 a2 a3 a4 a5 y0 s := rfl
noncomputable def bX12_build_94 : List En := [c_iconst 3, c_goto 4 99]
theorem eX12_build_94 (kb : Co) (a0 a1 a2 a3 a4 a5 y0 : Int) (s : St) : exb (famH (tX12_build_94 kb) kb) 0 bX12_build_94 [(3, 12, a0), (0, 0, a1), (0, 0, a2), (0, 0, a3), (0, 0, a4), (0, 0, a5), (7, 0, 0), (7, 0, 0), (7, 0, 0)] [(3, 12, y0)] s = fX12_build_94 kb a0 a1 a2 a3 a4 a5 y0 s := rfl
noncomputable def bX12_build_98 : List En := [c_iconst 0]
theorem eX12_build_98 (kb : Co) (a0 a1 a2 a3 a4 a5 y0 : Int) (s : St) : exb (famH (tX12_build_98 kb) kb) 99 bX12_build_98 [(3, 12, a0), (0, 0, a1), (0, 0, a2), (0, 0, a3), (0, 0, a4), (0, 0, a5), (7, 0, 0), (7, 0, 0), (7, 0, 0)] [(3, 12, y0)] s = fX12_build_98 kb a0 a1 a2 a3 a4 a5 y0 s := rfl
noncomputable def bX12_build_99 : List En := [c_invv 167 [] gX12_holds mdX12_holds, c_if .ne 5 107, c_iconst 0, c_ireturn]
theorem eX12_build_99 (kb : Co) (a0 a1 a2 a3 a4 a5 y0 y1 : Int) (s : St) : exb (famH (tX12_build_99 kb) kb) 0 bX12_build_99 [(3, 12, a0), (0, 0, a1), (0, 0, a2), (0, 0, a3), (0, 0, a4), (0, 0, a5), (7, 0, 0), (7, 0, 0), (7, 0, 0)] [(0, 0, y0), (3, 12, y1)] s = fX12_build_99 kb a0 a1 a2 a3 a4 a5 y0 y1 s := rfl
noncomputable def bX12_build_107 : List En := [c_iload_n 1, c_aload_n 0, c_getC 41 12 112 12, c_iload_n 1, c_iald 112 10, c_invs 209 [] gX12_at mdX12_at, c_istore 8, c_aload_n 0, c_getC 44 12 113 13, c_iload 8, c_iload_n 2, c_iast 113 120, c_aload_n 0, c_getC 44 12 113 13, c_iload 8, c_iconst 1, c_iadd, c_iload_n 3, c_iast 113 120, c_aload_n 0, c_getC 44 12 113 13, c_iload 8, c_iconst 2, c_iadd, c_iload 4, c_iast 113 120, c_aload_n 0, c_getC 44 12 113 13, c_iload 8, c_iconst 3, c_iadd, c_iload 5, c_iast 113 120, c_aload_n 0, c_getC 41 12 112 12, c_iload_n 1, c_dup2, c_iald 112 10, c_iconst 1, c_iadd, c_iast 112 10, c_aload_n 0, c_getC 41 12 112 12, c_iload_n 1, c_iald 112 10, c_iconst 1, c_isub, c_ireturn]
theorem eX12_build_107 (kb : Co) (a0 a1 a2 a3 a4 a5 : Int) (s : St) : exb (famH (tX12_build_107 kb) kb) 0 bX12_build_107 [(3, 12, a0), (0, 0, a1), (0, 0, a2), (0, 0, a3), (0, 0, a4), (0, 0, a5), (7, 0, 0), (7, 0, 0), (7, 0, 0)] [] s = fX12_build_107 kb a0 a1 a2 a3 a4 a5 s := rfl
-- FloatparadeModel.cut(IIIIII)I
noncomputable def bX12_cut_0 : List En := [c_aload_n 0, c_iload_n 1, c_iload_n 2, c_invv 212 [] gX12_isFloat mdX12_isFloat, c_istore 7, c_iload 7, c_if .eq 11 21, c_iload_n 1, c_iload_n 2, c_invs 209 [] gX12_at mdX12_at, c_goto 4 22]
theorem eX12_cut_0 (kb : Co) (a0 a1 a2 a3 a4 a5 a6 : Int) (s : St) : exb (famH (tX12_cut_0 kb) kb) 0 bX12_cut_0 [(3, 12, a0), (0, 0, a1), (0, 0, a2), (0, 0, a3), (0, 0, a4), (0, 0, a5), (0, 0, a6), (7, 0, 0), (7, 0, 0), (7, 0, 0), (7, 0, 0)] [] s = fX12_cut_0 kb a0 a1 a2 a3 a4 a5 a6 s := rfl
noncomputable def bX12_cut_21 : List En := [c_iconst 0]
theorem eX12_cut_21 (kb : Co) (a0 a1 a3 a4 a5 a6 a7 : Int) (s : St) : exb (famH (tX12_cut_21 kb) kb) 22 bX12_cut_21 [(3, 12, a0), (0, 0, a1), (7, 0, 0), (0, 0, a3), (0, 0, a4), (0, 0, a5), (0, 0, a6), (0, 0, a7), (7, 0, 0), (7, 0, 0), (7, 0, 0)] [] s = fX12_cut_21 kb a0 a1 a3 a4 a5 a6 a7 s := rfl
noncomputable def bX12_cut_22 : List En := [c_istore 8, c_iload_n 3, c_iconst 1, c_aload_n 0, c_getC 44 12 113 13, c_iload 8, c_iald 113 120, c_invs 159 [] gX12_in mdX12_in, c_if .eq 61 97, c_iload 4, c_iconst 1, c_aload_n 0, c_getC 44 12 113 13, c_iload 8, c_iconst 1, c_iadd, c_iald 113 120, c_invs 159 [] gX12_in mdX12_in, c_if .eq 43 97, c_iload 5, c_iconst 1, c_aload_n 0, c_getC 44 12 113 13, c_iload 8, c_iconst 2, c_iadd, c_iald 113 120, c_invs 159 [] gX12_in mdX12_in, c_if .eq 25 97, c_iload 6, c_iconst 1, c_aload_n 0, c_getC 44 12 113 13, c_iload 8, c_iconst 3, c_iadd, c_iald 113 120, c_invs 159 [] gX12_in mdX12_in, c_if .eq 7 97, c_iconst 1, c_goto 4 98]
theorem eX12_cut_22 (kb : Co) (a0 a1 a3 a4 a5 a6 a7 y0 : Int) (s : St) : exb (famH (tX12_cut_22 kb) kb) 0 bX12_cut_22 [(3, 12, a0), (0, 0, a1), (7, 0, 0), (0, 0, a3), (0, 0, a4), (0, 0, a5), (0, 0, a6), (0, 0, a7), (7, 0, 0), (7, 0, 0), (7, 0, 0)] [(0, 0, y0)] s = fX12_cut_22 kb a0 a1 a3 a4 a5 a6 a7 y0 s := rfl
noncomputable def bX12_cut_97 : List En := [c_iconst 0]
theorem eX12_cut_97 (kb : Co) (a0 a1 a3 a4 a5 a6 a7 a8 : Int) (s : St) : exb (famH (tX12_cut_97 kb) kb) 98 bX12_cut_97 [(3, 12, a0), (0, 0, a1), (7, 0, 0), (0, 0, a3), (0, 0, a4), (0, 0, a5), (0, 0, a6), (0, 0, a7), (0, 0, a8), (7, 0, 0), (7, 0, 0)] [] s = fX12_cut_97 kb a0 a1 a3 a4 a5 a6 a7 a8 s := rfl
noncomputable def bX12_cut_98 : List En := [c_istore 9, c_aload_n 0, c_iload 7, c_if .ne 7 110, c_iconst 1, c_goto 26 133]
theorem eX12_cut_98 (kb : Co) (a0 a1 a3 a4 a5 a6 a7 a8 y0 : Int) (s : St) : exb (famH (tX12_cut_98 kb) kb) 0 bX12_cut_98 [(3, 12, a0), (0, 0, a1), (7, 0, 0), (0, 0, a3), (0, 0, a4), (0, 0, a5), (0, 0, a6), (0, 0, a7), (0, 0, a8), (7, 0, 0), (7, 0, 0)] [(0, 0, y0)] s = fX12_cut_98 kb a0 a1 a3 a4 a5 a6 a7 a8 y0 s := rfl
noncomputable def bX12_cut_110 : List En := [c_iload 9, c_if .ne 7 119, c_iconst 2, c_goto 17 133]
theorem eX12_cut_110 (kb : Co) (a0 a1 a3 a4 a5 a6 a8 a9 y0 : Int) (s : St) : exb (famH (tX12_cut_110 kb) kb) 0 bX12_cut_110 [(3, 12, a0), (0, 0, a1), (7, 0, 0), (0, 0, a3), (0, 0, a4), (0, 0, a5), (0, 0, a6), (7, 0, 0), (0, 0, a8), (0, 0, a9), (7, 0, 0)] [(3, 12, y0)] s = fX12_cut_110 kb a0 a1 a3 a4 a5 a6 a8 a9 y0 s := rfl
noncomputable def bX12_cut_119 : List En := [c_aload_n 0, c_getC 74 12 124 24, c_iload_n 1, c_bald 124 10, c_if .eq 7 132, c_iconst 3, c_goto 4 133]
theorem eX12_cut_119 (kb : Co) (a0 a1 a3 a4 a5 a6 a8 y0 : Int) (s : St) : exb (famH (tX12_cut_119 kb) kb) 0 bX12_cut_119 [(3, 12, a0), (0, 0, a1), (7, 0, 0), (0, 0, a3), (0, 0, a4), (0, 0, a5), (0, 0, a6), (7, 0, 0), (0, 0, a8), (7, 0, 0), (7, 0, 0)] [(3, 12, y0)] s = fX12_cut_119 kb a0 a1 a3 a4 a5 a6 a8 y0 s := rfl
noncomputable def bX12_cut_132 : List En := [c_iconst 0]
theorem eX12_cut_132 (kb : Co) (a0 a3 a4 a5 a6 a8 y0 : Int) (s : St) : exb (famH (tX12_cut_132 kb) kb) 133 bX12_cut_132 [(3, 12, a0), (7, 0, 0), (7, 0, 0), (0, 0, a3), (0, 0, a4), (0, 0, a5), (0, 0, a6), (7, 0, 0), (0, 0, a8), (7, 0, 0), (7, 0, 0)] [(3, 12, y0)] s = fX12_cut_132 kb a0 a3 a4 a5 a6 a8 y0 s := rfl
noncomputable def bX12_cut_133 : List En := [c_invv 167 [] gX12_holds mdX12_holds, c_if .ne 5 141, c_iconst 0, c_ireturn]
theorem eX12_cut_133 (kb : Co) (a0 a3 a4 a5 a6 a8 y0 y1 : Int) (s : St) : exb (famH (tX12_cut_133 kb) kb) 0 bX12_cut_133 [(3, 12, a0), (7, 0, 0), (7, 0, 0), (0, 0, a3), (0, 0, a4), (0, 0, a5), (0, 0, a6), (7, 0, 0), (0, 0, a8), (7, 0, 0), (7, 0, 0)] [(0, 0, y0), (3, 12, y1)] s = fX12_cut_133 kb a0 a3 a4 a5 a6 a8 y0 y1 s := rfl
noncomputable def bX12_cut_141 : List En := [c_aload_n 0, c_getC 44 12 113 13, c_iload 8, c_iald 113 120, c_aload_n 0, c_getC 44 12 113 13, c_iload 8, c_iconst 1, c_iadd, c_iald 113 120, c_iadd, c_aload_n 0, c_getC 44 12 113 13, c_iload 8, c_iconst 2, c_iadd, c_iald 113 120, c_iadd, c_aload_n 0, c_getC 44 12 113 13, c_iload 8, c_iconst 3, c_iadd, c_iald 113 120, c_iadd, c_iload_n 3, c_isub, c_iload 4, c_isub, c_iload 5, c_isub, c_iload 6, c_isub, c_istore 10, c_aload_n 0, c_getC 44 12 113 13, c_iload 8, c_iload_n 3, c_iast 113 120, c_aload_n 0, c_getC 44 12 113 13, c_iload 8, c_iconst 1, c_iadd, c_iload 4, c_iast 113 120, c_aload_n 0, c_getC 44 12 113 13, c_iload 8, c_iconst 2, c_iadd, c_iload 5, c_iast 113 120, c_aload_n 0, c_getC 44 12 113 13, c_iload 8, c_iconst 3, c_iadd, c_iload 6, c_iast 113 120, c_iload 10, c_ireturn]
theorem eX12_cut_141 (kb : Co) (a0 a3 a4 a5 a6 a8 : Int) (s : St) : exb (famH (tX12_cut_141 kb) kb) 0 bX12_cut_141 [(3, 12, a0), (7, 0, 0), (7, 0, 0), (0, 0, a3), (0, 0, a4), (0, 0, a5), (0, 0, a6), (7, 0, 0), (0, 0, a8), (7, 0, 0), (7, 0, 0)] [] s = fX12_cut_141 kb a0 a3 a4 a5 a6 a8 s := rfl
-- FloatparadeModel.isFit(II)Z
noncomputable def bX12_isFit_0 : List En := [c_aload_n 0, c_getC 7 12 102 2, c_iload_n 1, c_iald 102 10, c_istore_n 3, c_iload_n 1, c_iload_n 2, c_invs 209 [] gX12_at mdX12_at, c_istore 4, c_aload_n 0, c_getC 65 12 121 21, c_iload_n 3, c_iald 121 2, c_iconst 1, c_icmp .le 7 28, c_iconst 1, c_goto 4 29]
theorem eX12_isFit_0 (kb : Co) (a0 a1 a2 : Int) (s : St) : exb (famH (tX12_isFit_0 kb) kb) 0 bX12_isFit_0 [(3, 12, a0), (0, 0, a1), (0, 0, a2), (7, 0, 0), (7, 0, 0), (7, 0, 0), (7, 0, 0), (7, 0, 0)] [] s = fX12_isFit_0 kb a0 a1 a2 s := rfl
noncomputable def bX12_isFit_28 : List En := [c_iconst 0]
theorem eX12_isFit_28 (kb : Co) (a0 a3 a4 : Int) (s : St) : exb (famH (tX12_isFit_28 kb) kb) 29 bX12_isFit_28 [(3, 12, a0), (7, 0, 0), (7, 0, 0), (0, 0, a3), (0, 0, a4), (7, 0, 0), (7, 0, 0), (7, 0, 0)] [] s = fX12_isFit_28 kb a0 a3 a4 s := rfl
noncomputable def bX12_isFit_29 : List En := [c_istore 5, c_iconst 0, c_istore 6]
theorem eX12_isFit_29 (kb : Co) (a0 a3 a4 y0 : Int) (s : St) : exb (famH (tX12_isFit_29 kb) kb) 34 bX12_isFit_29 [(3, 12, a0), (7, 0, 0), (7, 0, 0), (0, 0, a3), (0, 0, a4), (7, 0, 0), (7, 0, 0), (7, 0, 0)] [(0, 0, y0)] s = fX12_isFit_29 kb a0 a3 a4 y0 s := rfl
noncomputable def bX12_isFit_34 : List En := [c_iload 6, c_aload_n 0, c_getC 65 12 121 21, c_iload_n 3, c_iald 121 2, c_iconst 1, c_isub, c_icmp .ge 140 184, c_aload_n 0, c_iload_n 3, c_iload 6, c_invv 197 [] gX12_streetOf mdX12_streetOf, c_istore 7, c_iload 5, c_if .eq 66 124, c_aload_n 0, c_getC 44 12 113 13, c_iload 4, c_iald 113 120, c_aload_n 0, c_getC 56 12 118 18, c_iload 7, c_iald 118 16, c_iconst 2, c_isub, c_icmp .gt 47 124, c_aload_n 0, c_getC 44 12 113 13, c_iload 4, c_iconst 1, c_iadd, c_iald 113 120, c_aload_n 0, c_getC 59 12 119 19, c_iload 7, c_iald 119 16, c_iconst 1, c_isub, c_icmp .gt 26 124, c_aload_n 0, c_getC 44 12 113 13, c_iload 4, c_iconst 2, c_iadd, c_iald 113 120, c_aload_n 0, c_getC 62 12 120 20, c_iload 7, c_iald 120 16, c_icmp .gt 7 124, c_iconst 1, c_goto 4 125]
theorem eX12_isFit_34 (kb : Co) (a0 a3 a4 a5 a6 : Int) (s : St) : exb (famH (tX12_isFit_34 kb) kb) 0 bX12_isFit_34 [(3, 12, a0), (7, 0, 0), (7, 0, 0), (0, 0, a3), (0, 0, a4), (0, 0, a5), (0, 0, a6), (7, 0, 0)] [] s = fX12_isFit_34 kb a0 a3 a4 a5 a6 s := rfl
noncomputable def bX12_isFit_124 : List En := [c_iconst 0]
theorem eX12_isFit_124 (kb : Co) (a0 a3 a4 a6 a7 : Int) (s : St) : exb (famH (tX12_isFit_124 kb) kb) 125 bX12_isFit_124 [(3, 12, a0), (7, 0, 0), (7, 0, 0), (0, 0, a3), (0, 0, a4), (7, 0, 0), (0, 0, a6), (0, 0, a7)] [] s = fX12_isFit_124 kb a0 a3 a4 a6 a7 s := rfl
noncomputable def bX12_isFit_125 : List En := [c_istore 5, c_iload 5, c_if .eq 46 175, c_iload 6, c_if .eq 37 171, c_aload_n 0, c_getC 44 12 113 13, c_iload 4, c_iconst 3, c_iadd, c_iald 113 120, c_aload_n 0, c_getC 56 12 118 18, c_iload 7, c_iald 118 16, c_aload_n 0, c_getC 56 12 118 18, c_aload_n 0, c_iload_n 3, c_iload 6, c_iconst 1, c_isub, c_invv 197 [] gX12_streetOf mdX12_streetOf, c_iald 118 16, c_iadd, c_icmp .gt 7 175]
theorem eX12_isFit_125 (kb : Co) (a0 a3 a4 a6 a7 y0 : Int) (s : St) : exb (famH (tX12_isFit_125 kb) kb) 171 bX12_isFit_125 [(3, 12, a0), (7, 0, 0), (7, 0, 0), (0, 0, a3), (0, 0, a4), (7, 0, 0), (0, 0, a6), (0, 0, a7)] [(0, 0, y0)] s = fX12_isFit_125 kb a0 a3 a4 a6 a7 y0 s := rfl
noncomputable def bX12_isFit_171 : List En := [c_iconst 1, c_goto 4 176]
theorem eX12_isFit_171 (kb : Co) (a0 a3 a4 a6 : Int) (s : St) : exb (famH (tX12_isFit_171 kb) kb) 0 bX12_isFit_171 [(3, 12, a0), (7, 0, 0), (7, 0, 0), (0, 0, a3), (0, 0, a4), (7, 0, 0), (0, 0, a6), (7, 0, 0)] [] s = fX12_isFit_171 kb a0 a3 a4 a6 s := rfl
noncomputable def bX12_isFit_175 : List En := [c_iconst 0]
theorem eX12_isFit_175 (kb : Co) (a0 a3 a4 a6 : Int) (s : St) : exb (famH (tX12_isFit_175 kb) kb) 176 bX12_isFit_175 [(3, 12, a0), (7, 0, 0), (7, 0, 0), (0, 0, a3), (0, 0, a4), (7, 0, 0), (0, 0, a6), (7, 0, 0)] [] s = fX12_isFit_175 kb a0 a3 a4 a6 s := rfl
noncomputable def bX12_isFit_176 : List En := [c_istore 5, c_iinc 6 1, c_goto (-147) 34]
theorem eX12_isFit_176 (kb : Co) (a0 a3 a4 a6 y0 : Int) (s : St) : exb (famH (tX12_isFit_176 kb) kb) 0 bX12_isFit_176 [(3, 12, a0), (7, 0, 0), (7, 0, 0), (0, 0, a3), (0, 0, a4), (7, 0, 0), (0, 0, a6), (7, 0, 0)] [(0, 0, y0)] s = fX12_isFit_176 kb a0 a3 a4 a6 y0 s := rfl
noncomputable def bX12_isFit_184 : List En := [c_iload 5, c_zreturn]
theorem eX12_isFit_184 (kb : Co) (a5 : Int) (s : St) : exb (famH (tX12_isFit_184 kb) kb) 0 bX12_isFit_184 [(7, 0, 0), (7, 0, 0), (7, 0, 0), (7, 0, 0), (7, 0, 0), (0, 0, a5), (7, 0, 0), (7, 0, 0)] [] s = fX12_isFit_184 kb a5 s := rfl
-- FloatparadeModel.fits(II)Z
noncomputable def bX12_fits_0 : List En := [c_aload_n 0, c_aload_n 0, c_iload_n 1, c_iload_n 2, c_invv 212 [] gX12_isFloat mdX12_isFloat, c_if .eq 7 14, c_iconst 0, c_goto 4 15]
theorem eX12_fits_0 (kb : Co) (a0 a1 a2 : Int) (s : St) : exb (famH (tX12_fits_0 kb) kb) 0 bX12_fits_0 [(3, 12, a0), (0, 0, a1), (0, 0, a2)] [] s = fX12_fits_0 kb a0 a1 a2 s := rfl
noncomputable def bX12_fits_14 : List En := [c_iconst 1]
theorem eX12_fits_14 (kb : Co) (a0 a1 a2 y0 : Int) (s : St) : exb (famH (tX12_fits_14 kb) kb) 15 bX12_fits_14 [(3, 12, a0), (0, 0, a1), (0, 0, a2)] [(3, 12, y0)] s = fX12_fits_14 kb a0 a1 a2 y0 s := rfl
noncomputable def bX12_fits_15 : List En := [c_invv 167 [] gX12_holds mdX12_holds, c_if .eq 16 34, c_aload_n 0, c_iload_n 1, c_iload_n 2, c_invv 215 [] gX12_isFit mdX12_isFit, c_if .eq 7 34, c_iconst 1, c_goto 4 35]
theorem eX12_fits_15 (kb : Co) (a0 a1 a2 y0 y1 : Int) (s : St) : exb (famH (tX12_fits_15 kb) kb) 0 bX12_fits_15 [(3, 12, a0), (0, 0, a1), (0, 0, a2)] [(0, 0, y0), (3, 12, y1)] s = fX12_fits_15 kb a0 a1 a2 y0 y1 s := rfl
noncomputable def bX12_fits_34 : List En := [c_iconst 0]
theorem eX12_fits_34 (kb : Co) (s : St) : exb (famH (tX12_fits_34 kb) kb) 35 bX12_fits_34 [(7, 0, 0), (7, 0, 0), (7, 0, 0)] [] s = fX12_fits_34 kb s := rfl
noncomputable def bX12_fits_35 : List En := [c_zreturn]
theorem eX12_fits_35 (kb : Co) (y0 : Int) (s : St) : exb (famH (tX12_fits_35 kb) kb) 0 bX12_fits_35 [(7, 0, 0), (7, 0, 0), (7, 0, 0)] [(0, 0, y0)] s = fX12_fits_35 kb y0 s := rfl
-- FloatparadeModel.swaps(III)V
noncomputable def bX12_swaps_0 : List En := [c_aload_n 0, c_getC 83 12 127 27, c_bipush 10, c_iload_n 1, c_imul, c_iload_n 2, c_iadd, c_iald 127 20, c_istore 4, c_aload_n 0, c_getC 83 12 127 27, c_bipush 10, c_iload_n 1, c_imul, c_iload_n 2, c_iadd, c_aload_n 0, c_getC 83 12 127 27, c_bipush 10, c_iload_n 1, c_imul, c_iload_n 3, c_iadd, c_iald 127 20, c_iast 127 20, c_aload_n 0, c_getC 83 12 127 27, c_bipush 10, c_iload_n 1, c_imul, c_iload_n 3, c_iadd, c_iload 4, c_iast 127 20, c_return]
theorem eX12_swaps_0 (kb : Co) (a0 a1 a2 a3 : Int) (s : St) : exb (famH (tX12_swaps_0 kb) kb) 0 bX12_swaps_0 [(3, 12, a0), (0, 0, a1), (0, 0, a2), (0, 0, a3), (7, 0, 0)] [] s = fX12_swaps_0 kb a0 a1 a2 a3 s := rfl
-- FloatparadeModel.areFoes(II)Z
noncomputable def bX12_areFoes_0 : List En := [c_aload_n 0, c_getC 19 12 105 5, c_bipush 10, c_aload_n 0, c_getC 83 12 127 27, c_bipush 10, c_iload_n 1, c_imul, c_iload_n 2, c_iadd, c_iald 127 20, c_imul, c_aload_n 0, c_getC 83 12 127 27, c_bipush 10, c_iload_n 1, c_imul, c_iload_n 2, c_iadd, c_iconst 1, c_iadd, c_iald 127 20, c_iadd, c_bald 105 100, c_zreturn]
theorem eX12_areFoes_0 (kb : Co) (a0 a1 a2 : Int) (s : St) : exb (famH (tX12_areFoes_0 kb) kb) 0 bX12_areFoes_0 [(3, 12, a0), (0, 0, a1), (0, 0, a2)] [] s = fX12_areFoes_0 kb a0 a1 a2 s := rfl
-- FloatparadeModel.firstFoes(I)I
noncomputable def bX12_firstFoes_0 : List En := [c_iconst (-1), c_istore_n 2, c_aload_n 0, c_getC 80 12 126 26, c_iload_n 1, c_iald 126 2, c_iconst 2, c_isub, c_istore_n 3]
theorem eX12_firstFoes_0 (kb : Co) (a0 a1 : Int) (s : St) : exb (famH (tX12_firstFoes_0 kb) kb) 11 bX12_firstFoes_0 [(3, 12, a0), (0, 0, a1), (7, 0, 0), (7, 0, 0)] [] s = fX12_firstFoes_0 kb a0 a1 s := rfl
noncomputable def bX12_firstFoes_11 : List En := [c_iload_n 3, c_if .lt 24 36, c_aload_n 0, c_iload_n 1, c_iload_n 3, c_invv 218 [] gX12_areFoes mdX12_areFoes, c_if .eq 7 28, c_iload_n 3, c_goto 4 29]
theorem eX12_firstFoes_11 (kb : Co) (a0 a1 a2 a3 : Int) (s : St) : exb (famH (tX12_firstFoes_11 kb) kb) 0 bX12_firstFoes_11 [(3, 12, a0), (0, 0, a1), (0, 0, a2), (0, 0, a3)] [] s = fX12_firstFoes_11 kb a0 a1 a2 a3 s := rfl
noncomputable def bX12_firstFoes_28 : List En := [c_iload_n 2]
theorem eX12_firstFoes_28 (kb : Co) (a0 a1 a2 a3 : Int) (s : St) : exb (famH (tX12_firstFoes_28 kb) kb) 29 bX12_firstFoes_28 [(3, 12, a0), (0, 0, a1), (0, 0, a2), (0, 0, a3)] [] s = fX12_firstFoes_28 kb a0 a1 a2 a3 s := rfl
noncomputable def bX12_firstFoes_29 : List En := [c_istore_n 2, c_iinc 3 (-1), c_goto (-22) 11]
theorem eX12_firstFoes_29 (kb : Co) (a0 a1 a3 y0 : Int) (s : St) : exb (famH (tX12_firstFoes_29 kb) kb) 0 bX12_firstFoes_29 [(3, 12, a0), (0, 0, a1), (7, 0, 0), (0, 0, a3)] [(0, 0, y0)] s = fX12_firstFoes_29 kb a0 a1 a3 y0 s := rfl
noncomputable def bX12_firstFoes_36 : List En := [c_iload_n 2, c_ireturn]
theorem eX12_firstFoes_36 (kb : Co) (a2 : Int) (s : St) : exb (famH (tX12_firstFoes_36 kb) kb) 0 bX12_firstFoes_36 [(7, 0, 0), (7, 0, 0), (0, 0, a2), (7, 0, 0)] [] s = fX12_firstFoes_36 kb a2 s := rfl
-- FloatparadeModel.rankOf(I)I
noncomputable def bX12_rankOf_0 : List En := [c_aload_n 0, c_getC 7 12 102 2, c_iload_n 1, c_iald 102 10, c_istore_n 2, c_iload_n 1, c_aload_n 0, c_getI 86 12 28, c_icmp .ne 7 19, c_iconst (-1), c_goto 30 46]
theorem eX12_rankOf_0 (kb : Co) (a0 a1 : Int) (s : St) : exb (famH (tX12_rankOf_0 kb) kb) 0 bX12_rankOf_0 [(3, 12, a0), (0, 0, a1), (7, 0, 0)] [] s = fX12_rankOf_0 kb a0 a1 s := rfl
noncomputable def bX12_rankOf_19 : List En := [c_iload_n 1, c_aload_n 0, c_getC 90 12 129 29, c_iload_n 2, c_iald 129 2, c_icmp .ne 9 35, c_sipush 10000, c_goto 14 46]
theorem eX12_rankOf_19 (kb : Co) (a0 a1 a2 : Int) (s : St) : exb (famH (tX12_rankOf_19 kb) kb) 0 bX12_rankOf_19 [(3, 12, a0), (0, 0, a1), (0, 0, a2)] [] s = fX12_rankOf_19 kb a0 a1 a2 s := rfl
noncomputable def bX12_rankOf_35 : List En := [c_bipush 10, c_aload_n 0, c_getC 77 12 125 25, c_iload_n 1, c_iald 125 10, c_imul, c_iload_n 1, c_iadd]
theorem eX12_rankOf_35 (kb : Co) (a0 a1 : Int) (s : St) : exb (famH (tX12_rankOf_35 kb) kb) 46 bX12_rankOf_35 [(3, 12, a0), (0, 0, a1), (7, 0, 0)] [] s = fX12_rankOf_35 kb a0 a1 s := rfl
noncomputable def bX12_rankOf_46 : List En := [c_ireturn]
theorem eX12_rankOf_46 (kb : Co) (y0 : Int) (s : St) : exb (famH (tX12_rankOf_46 kb) kb) 0 bX12_rankOf_46 [(7, 0, 0), (7, 0, 0), (7, 0, 0)] [(0, 0, y0)] s = fX12_rankOf_46 kb y0 s := rfl
-- FloatparadeModel.findsOrder(I)V
noncomputable def bX12_findsOrder_0 : List En := [c_iconst 0, c_istore_n 2, c_iconst 0, c_istore_n 3]
theorem eX12_findsOrder_0 (kb : Co) (a0 a1 : Int) (s : St) : exb (famH (tX12_findsOrder_0 kb) kb) 4 bX12_findsOrder_0 [(3, 12, a0), (0, 0, a1), (7, 0, 0), (7, 0, 0), (7, 0, 0)] [] s = fX12_findsOrder_0 kb a0 a1 s := rfl
noncomputable def bX12_findsOrder_4 : List En := [c_iload_n 3, c_aload_n 0, c_getI 156 12 1, c_icmp .ge 110 119, c_aload_n 0, c_getC 7 12 102 2, c_iload_n 3, c_iald 102 10, c_iload_n 1, c_icmp .ne 94 113, c_aload_n 0, c_getC 74 12 124 24, c_iload_n 3, c_bald 124 10, c_if .eq 85 113, c_iload_n 2, c_istore 4]
theorem eX12_findsOrder_4 (kb : Co) (a0 a1 a2 a3 : Int) (s : St) : exb (famH (tX12_findsOrder_4 kb) kb) 34 bX12_findsOrder_4 [(3, 12, a0), (0, 0, a1), (0, 0, a2), (0, 0, a3), (7, 0, 0)] [] s = fX12_findsOrder_4 kb a0 a1 a2 a3 s := rfl
noncomputable def bX12_findsOrder_34 : List En := [c_iload 4, c_if .le 61 97, c_aload_n 0, c_aload_n 0, c_getC 83 12 127 27, c_bipush 10, c_iload_n 1, c_imul, c_iload 4, c_iadd, c_iconst 1, c_isub, c_iald 127 20, c_invv 221 [] gX12_rankOf mdX12_rankOf, c_aload_n 0, c_iload_n 3, c_invv 221 [] gX12_rankOf mdX12_rankOf, c_icmp .le 35 97, c_aload_n 0, c_getC 83 12 127 27, c_bipush 10, c_iload_n 1, c_imul, c_iload 4, c_iadd, c_aload_n 0, c_getC 83 12 127 27, c_bipush 10, c_iload_n 1, c_imul, c_iload 4, c_iadd, c_iconst 1, c_isub, c_iald 127 20, c_iast 127 20, c_iinc 4 (-1), c_goto (-60) 34]
theorem eX12_findsOrder_34 (kb : Co) (a0 a1 a2 a3 a4 : Int) (s : St) : exb (famH (tX12_findsOrder_34 kb) kb) 0 bX12_findsOrder_34 [(3, 12, a0), (0, 0, a1), (0, 0, a2), (0, 0, a3), (0, 0, a4)] [] s = fX12_findsOrder_34 kb a0 a1 a2 a3 a4 s := rfl
noncomputable def bX12_findsOrder_97 : List En := [c_aload_n 0, c_getC 83 12 127 27, c_bipush 10, c_iload_n 1, c_imul, c_iload 4, c_iadd, c_iload_n 3, c_iast 127 20, c_iinc 2 1]
theorem eX12_findsOrder_97 (kb : Co) (a0 a1 a2 a3 a4 : Int) (s : St) : exb (famH (tX12_findsOrder_97 kb) kb) 113 bX12_findsOrder_97 [(3, 12, a0), (0, 0, a1), (0, 0, a2), (0, 0, a3), (0, 0, a4)] [] s = fX12_findsOrder_97 kb a0 a1 a2 a3 a4 s := rfl
noncomputable def bX12_findsOrder_113 : List En := [c_iinc 3 1, c_goto (-112) 4]
theorem eX12_findsOrder_113 (kb : Co) (a0 a1 a2 a3 : Int) (s : St) : exb (famH (tX12_findsOrder_113 kb) kb) 0 bX12_findsOrder_113 [(3, 12, a0), (0, 0, a1), (0, 0, a2), (0, 0, a3), (7, 0, 0)] [] s = fX12_findsOrder_113 kb a0 a1 a2 a3 s := rfl
noncomputable def bX12_findsOrder_119 : List En := [c_aload_n 0, c_getC 80 12 126 26, c_iload_n 1, c_iload_n 2, c_iast 126 2, c_aload_n 0, c_iload_n 1, c_invv 224 [] gX12_firstFoes mdX12_firstFoes, c_istore_n 3, c_iconst 0, c_istore 4]
theorem eX12_findsOrder_119 (kb : Co) (a0 a1 a2 : Int) (s : St) : exb (famH (tX12_findsOrder_119 kb) kb) 135 bX12_findsOrder_119 [(3, 12, a0), (0, 0, a1), (0, 0, a2), (7, 0, 0), (7, 0, 0)] [] s = fX12_findsOrder_119 kb a0 a1 a2 s := rfl
noncomputable def bX12_findsOrder_135 : List En := [c_iload 4, c_bipush 10, c_icmp .ge 69 208, c_iload_n 3, c_iconst (-1), c_icmp .eq 64 208, c_iload_n 3, c_iconst 2, c_iadd, c_iload_n 2, c_icmp .ge 17 168, c_aload_n 0, c_iload_n 1, c_iload_n 3, c_iconst 1, c_iadd, c_iload_n 3, c_iconst 2, c_iadd, c_invv 227 [] gX12_swaps mdX12_swaps, c_goto 16 181]
theorem eX12_findsOrder_135 (kb : Co) (a0 a1 a2 a3 a4 : Int) (s : St) : exb (famH (tX12_findsOrder_135 kb) kb) 0 bX12_findsOrder_135 [(3, 12, a0), (0, 0, a1), (0, 0, a2), (0, 0, a3), (0, 0, a4)] [] s = fX12_findsOrder_135 kb a0 a1 a2 a3 a4 s := rfl
noncomputable def bX12_findsOrder_168 : List En := [c_iload_n 3, c_if .le 12 181, c_aload_n 0, c_iload_n 1, c_iload_n 3, c_iload_n 3, c_iconst 1, c_isub, c_invv 227 [] gX12_swaps mdX12_swaps]
theorem eX12_findsOrder_168 (kb : Co) (a0 a1 a2 a3 a4 : Int) (s : St) : exb (famH (tX12_findsOrder_168 kb) kb) 181 bX12_findsOrder_168 [(3, 12, a0), (0, 0, a1), (0, 0, a2), (0, 0, a3), (0, 0, a4)] [] s = fX12_findsOrder_168 kb a0 a1 a2 a3 a4 s := rfl
noncomputable def bX12_findsOrder_181 : List En := [c_iload_n 3, c_iconst 2, c_iadd, c_iload_n 2, c_icmp .lt 11 196, c_iload_n 3, c_if .ne 7 196, c_iconst (-1), c_goto 8 201]
theorem eX12_findsOrder_181 (kb : Co) (a0 a1 a2 a3 a4 : Int) (s : St) : exb (famH (tX12_findsOrder_181 kb) kb) 0 bX12_findsOrder_181 [(3, 12, a0), (0, 0, a1), (0, 0, a2), (0, 0, a3), (0, 0, a4)] [] s = fX12_findsOrder_181 kb a0 a1 a2 a3 a4 s := rfl
noncomputable def bX12_findsOrder_196 : List En := [c_aload_n 0, c_iload_n 1, c_invv 224 [] gX12_firstFoes mdX12_firstFoes]
theorem eX12_findsOrder_196 (kb : Co) (a0 a1 a2 a4 : Int) (s : St) : exb (famH (tX12_findsOrder_196 kb) kb) 201 bX12_findsOrder_196 [(3, 12, a0), (0, 0, a1), (0, 0, a2), (7, 0, 0), (0, 0, a4)] [] s = fX12_findsOrder_196 kb a0 a1 a2 a4 s := rfl
noncomputable def bX12_findsOrder_201 : List En := [c_istore_n 3, c_iinc 4 1, c_goto (-70) 135]
theorem eX12_findsOrder_201 (kb : Co) (a0 a1 a2 a4 y0 : Int) (s : St) : exb (famH (tX12_findsOrder_201 kb) kb) 0 bX12_findsOrder_201 [(3, 12, a0), (0, 0, a1), (0, 0, a2), (7, 0, 0), (0, 0, a4)] [(0, 0, y0)] s = fX12_findsOrder_201 kb a0 a1 a2 a4 y0 s := rfl
noncomputable def bX12_findsOrder_208 : List En := [c_return]
theorem eX12_findsOrder_208 (kb : Co) (s : St) : exb (famH (tX12_findsOrder_208 kb) kb) 0 bX12_findsOrder_208 [(7, 0, 0), (7, 0, 0), (7, 0, 0), (7, 0, 0), (7, 0, 0)] [] s = fX12_findsOrder_208 kb s := rfl
-- FloatparadeModel.canEnter(I)Z
noncomputable def bX12_canEnter_0 : List En := [c_aload_n 0, c_getC 7 12 102 2, c_iload_n 1, c_iald 102 10, c_istore_n 2, c_aload_n 0, c_getC 74 12 124 24, c_iload_n 1, c_bald 124 10, c_if .ne 26 39, c_aload_n 0, c_getC 93 12 130 30, c_iload_n 2, c_iald 130 2, c_if .ne 17 39, c_aload_n 0, c_getC 65 12 121 21, c_iload_n 2, c_iald 121 2, c_iconst 1, c_icmp .le 7 39, c_iconst 1, c_goto 4 40]
theorem eX12_canEnter_0 (kb : Co) (a0 a1 : Int) (s : St) : exb (famH (tX12_canEnter_0 kb) kb) 0 bX12_canEnter_0 [(3, 12, a0), (0, 0, a1), (7, 0, 0), (7, 0, 0), (7, 0, 0)] [] s = fX12_canEnter_0 kb a0 a1 s := rfl
noncomputable def bX12_canEnter_39 : List En := [c_iconst 0]
theorem eX12_canEnter_39 (kb : Co) (a0 a1 : Int) (s : St) : exb (famH (tX12_canEnter_39 kb) kb) 40 bX12_canEnter_39 [(3, 12, a0), (0, 0, a1), (7, 0, 0), (7, 0, 0), (7, 0, 0)] [] s = fX12_canEnter_39 kb a0 a1 s := rfl
noncomputable def bX12_canEnter_40 : List En := [c_istore_n 3, c_iconst 0, c_istore 4]
theorem eX12_canEnter_40 (kb : Co) (a0 a1 y0 : Int) (s : St) : exb (famH (tX12_canEnter_40 kb) kb) 44 bX12_canEnter_40 [(3, 12, a0), (0, 0, a1), (7, 0, 0), (7, 0, 0), (7, 0, 0)] [(0, 0, y0)] s = fX12_canEnter_40 kb a0 a1 y0 s := rfl
noncomputable def bX12_canEnter_44 : List En := [c_iload 4, c_aload_n 0, c_getC 41 12 112 12, c_iload_n 1, c_iald 112 10, c_icmp .ge 21 73, c_iload_n 3, c_if .eq 17 73, c_aload_n 0, c_iload_n 1, c_iload 4, c_invv 215 [] gX12_isFit mdX12_isFit, c_istore_n 3, c_iinc 4 1, c_goto (-26) 44]
theorem eX12_canEnter_44 (kb : Co) (a0 a1 a3 a4 : Int) (s : St) : exb (famH (tX12_canEnter_44 kb) kb) 0 bX12_canEnter_44 [(3, 12, a0), (0, 0, a1), (7, 0, 0), (0, 0, a3), (0, 0, a4)] [] s = fX12_canEnter_44 kb a0 a1 a3 a4 s := rfl
noncomputable def bX12_canEnter_73 : List En := [c_iload_n 3, c_zreturn]
theorem eX12_canEnter_73 (kb : Co) (a3 : Int) (s : St) : exb (famH (tX12_canEnter_73 kb) kb) 0 bX12_canEnter_73 [(7, 0, 0), (7, 0, 0), (7, 0, 0), (0, 0, a3), (7, 0, 0)] [] s = fX12_canEnter_73 kb a3 s := rfl
-- FloatparadeModel.enter(II)I
noncomputable def bX12_enter_0 : List En := [c_aload_n 0, c_iload_n 1, c_invv 170 [] gX12_isSociety mdX12_isSociety, c_istore_n 3, c_aload_n 0, c_iload_n 3, c_if .ne 7 15, c_iconst 1, c_goto 30 42]
theorem eX12_enter_0 (kb : Co) (a0 a1 a2 : Int) (s : St) : exb (famH (tX12_enter_0 kb) kb) 0 bX12_enter_0 [(3, 12, a0), (0, 0, a1), (0, 0, a2), (7, 0, 0)] [] s = fX12_enter_0 kb a0 a1 a2 s := rfl
noncomputable def bX12_enter_15 : List En := [c_iload_n 2, c_iconst 0, c_bipush 99, c_invs 159 [] gX12_in mdX12_in, c_if .ne 7 29, c_iconst 2, c_goto 16 42]
theorem eX12_enter_15 (kb : Co) (a0 a1 a2 y0 : Int) (s : St) : exb (famH (tX12_enter_15 kb) kb) 0 bX12_enter_15 [(3, 12, a0), (0, 0, a1), (0, 0, a2), (7, 0, 0)] [(3, 12, y0)] s = fX12_enter_15 kb a0 a1 a2 y0 s := rfl
noncomputable def bX12_enter_29 : List En := [c_aload_n 0, c_iload_n 1, c_invv 231 [] gX12_canEnter mdX12_canEnter, c_if .eq 7 41, c_iconst 0, c_goto 4 42]
theorem eX12_enter_29 (kb : Co) (a0 a1 a2 y0 : Int) (s : St) : exb (famH (tX12_enter_29 kb) kb) 0 bX12_enter_29 [(3, 12, a0), (0, 0, a1), (0, 0, a2), (7, 0, 0)] [(3, 12, y0)] s = fX12_enter_29 kb a0 a1 a2 y0 s := rfl
noncomputable def bX12_enter_41 : List En := [c_iconst 3]
theorem eX12_enter_41 (kb : Co) (a0 a1 a2 y0 : Int) (s : St) : exb (famH (tX12_enter_41 kb) kb) 42 bX12_enter_41 [(3, 12, a0), (0, 0, a1), (0, 0, a2), (7, 0, 0)] [(3, 12, y0)] s = fX12_enter_41 kb a0 a1 a2 y0 s := rfl
noncomputable def bX12_enter_42 : List En := [c_invv 167 [] gX12_holds mdX12_holds, c_if .ne 5 50, c_iconst 0, c_ireturn]
theorem eX12_enter_42 (kb : Co) (a0 a1 a2 y0 y1 : Int) (s : St) : exb (famH (tX12_enter_42 kb) kb) 0 bX12_enter_42 [(3, 12, a0), (0, 0, a1), (0, 0, a2), (7, 0, 0)] [(0, 0, y0), (3, 12, y1)] s = fX12_enter_42 kb a0 a1 a2 y0 y1 s := rfl
noncomputable def bX12_enter_50 : List En := [c_aload_n 0, c_getC 74 12 124 24, c_iload_n 1, c_iconst 1, c_bast 124 10, c_aload_n 0, c_getC 77 12 125 25, c_iload_n 1, c_iload_n 2, c_iast 125 10, c_aload_n 0, c_aload_n 0, c_getC 7 12 102 2, c_iload_n 1, c_iald 102 10, c_invv 234 [] gX12_findsOrder mdX12_findsOrder, c_aload_n 0, c_getC 80 12 126 26, c_aload_n 0, c_getC 7 12 102 2, c_iload_n 1, c_iald 102 10, c_iald 126 2, c_ireturn]
theorem eX12_enter_50 (kb : Co) (a0 a1 a2 : Int) (s : St) : exb (famH (tX12_enter_50 kb) kb) 0 bX12_enter_50 [(3, 12, a0), (0, 0, a1), (0, 0, a2), (7, 0, 0)] [] s = fX12_enter_50 kb a0 a1 a2 s := rfl
-- FloatparadeModel.placeIn(I)I
noncomputable def bX12_placeIn_0 : List En := [c_aload_n 0, c_getC 7 12 102 2, c_iload_n 1, c_iald 102 10, c_istore_n 2, c_iconst (-1), c_istore_n 3, c_iconst 0, c_istore 4]
theorem eX12_placeIn_0 (kb : Co) (a0 a1 : Int) (s : St) : exb (famH (tX12_placeIn_0 kb) kb) 12 bX12_placeIn_0 [(3, 12, a0), (0, 0, a1), (7, 0, 0), (7, 0, 0), (7, 0, 0)] [] s = fX12_placeIn_0 kb a0 a1 s := rfl
noncomputable def bX12_placeIn_12 : List En := [c_iload 4, c_aload_n 0, c_getC 80 12 126 26, c_iload_n 2, c_iald 126 2, c_icmp .ge 32 52, c_aload_n 0, c_getC 83 12 127 27, c_bipush 10, c_iload_n 2, c_imul, c_iload 4, c_iadd, c_iald 127 20, c_iload_n 1, c_icmp .ne 8 44, c_iload 4, c_goto 4 45]
theorem eX12_placeIn_12 (kb : Co) (a0 a1 a2 a3 a4 : Int) (s : St) : exb (famH (tX12_placeIn_12 kb) kb) 0 bX12_placeIn_12 [(3, 12, a0), (0, 0, a1), (0, 0, a2), (0, 0, a3), (0, 0, a4)] [] s = fX12_placeIn_12 kb a0 a1 a2 a3 a4 s := rfl
noncomputable def bX12_placeIn_44 : List En := [c_iload_n 3]
theorem eX12_placeIn_44 (kb : Co) (a0 a1 a2 a3 a4 : Int) (s : St) : exb (famH (tX12_placeIn_44 kb) kb) 45 bX12_placeIn_44 [(3, 12, a0), (0, 0, a1), (0, 0, a2), (0, 0, a3), (0, 0, a4)] [] s = fX12_placeIn_44 kb a0 a1 a2 a3 a4 s := rfl
noncomputable def bX12_placeIn_45 : List En := [c_istore_n 3, c_iinc 4 1, c_goto (-37) 12]
theorem eX12_placeIn_45 (kb : Co) (a0 a1 a2 a4 y0 : Int) (s : St) : exb (famH (tX12_placeIn_45 kb) kb) 0 bX12_placeIn_45 [(3, 12, a0), (0, 0, a1), (0, 0, a2), (7, 0, 0), (0, 0, a4)] [(0, 0, y0)] s = fX12_placeIn_45 kb a0 a1 a2 a4 y0 s := rfl
noncomputable def bX12_placeIn_52 : List En := [c_iload_n 3, c_ireturn]
theorem eX12_placeIn_52 (kb : Co) (a3 : Int) (s : St) : exb (famH (tX12_placeIn_52 kb) kb) 0 bX12_placeIn_52 [(7, 0, 0), (7, 0, 0), (7, 0, 0), (0, 0, a3), (7, 0, 0)] [] s = fX12_placeIn_52 kb a3 s := rfl
-- FloatparadeModel.areNeighbours(III)Z
noncomputable def bX12_areNeighbours_0 : List En := [c_aload_n 0, c_iload_n 2, c_invv 238 [] gX12_placeIn mdX12_placeIn, c_aload_n 0, c_iload_n 3, c_invv 238 [] gX12_placeIn mdX12_placeIn, c_isub, c_istore 4, c_iload 4, c_iconst 1, c_icmp .eq 9 25, c_iload 4, c_iconst (-1), c_icmp .ne 7 29]
theorem eX12_areNeighbours_0 (kb : Co) (a0 a2 a3 : Int) (s : St) : exb (famH (tX12_areNeighbours_0 kb) kb) 25 bX12_areNeighbours_0 [(3, 12, a0), (7, 0, 0), (0, 0, a2), (0, 0, a3), (7, 0, 0)] [] s = fX12_areNeighbours_0 kb a0 a2 a3 s := rfl
noncomputable def bX12_areNeighbours_25 : List En := [c_iconst 1, c_goto 4 30]
theorem eX12_areNeighbours_25 (kb : Co) (s : St) : exb (famH (tX12_areNeighbours_25 kb) kb) 0 bX12_areNeighbours_25 [(7, 0, 0), (7, 0, 0), (7, 0, 0), (7, 0, 0), (7, 0, 0)] [] s = fX12_areNeighbours_25 kb s := rfl
noncomputable def bX12_areNeighbours_29 : List En := [c_iconst 0]
theorem eX12_areNeighbours_29 (kb : Co) (s : St) : exb (famH (tX12_areNeighbours_29 kb) kb) 30 bX12_areNeighbours_29 [(7, 0, 0), (7, 0, 0), (7, 0, 0), (7, 0, 0), (7, 0, 0)] [] s = fX12_areNeighbours_29 kb s := rfl
noncomputable def bX12_areNeighbours_30 : List En := [c_zreturn]
theorem eX12_areNeighbours_30 (kb : Co) (y0 : Int) (s : St) : exb (famH (tX12_areNeighbours_30 kb) kb) 0 bX12_areNeighbours_30 [(7, 0, 0), (7, 0, 0), (7, 0, 0), (7, 0, 0), (7, 0, 0)] [(0, 0, y0)] s = fX12_areNeighbours_30 kb y0 s := rfl
-- FloatparadeModel.change(II)Z
noncomputable def bX12_change_0 : List En := [c_aload_n 0, c_iload_n 1, c_invv 170 [] gX12_isSociety mdX12_isSociety, c_if .eq 15 20, c_aload_n 0, c_iload_n 2, c_invv 170 [] gX12_isSociety mdX12_isSociety, c_if .eq 7 20, c_iconst 1, c_goto 4 21]
theorem eX12_change_0 (kb : Co) (a0 a1 a2 : Int) (s : St) : exb (famH (tX12_change_0 kb) kb) 0 bX12_change_0 [(3, 12, a0), (0, 0, a1), (0, 0, a2), (7, 0, 0), (7, 0, 0), (7, 0, 0), (7, 0, 0), (7, 0, 0), (7, 0, 0), (7, 0, 0), (7, 0, 0), (7, 0, 0)] [] s = fX12_change_0 kb a0 a1 a2 s := rfl
noncomputable def bX12_change_20 : List En := [c_iconst 0]
theorem eX12_change_20 (kb : Co) (a0 a1 a2 : Int) (s : St) : exb (famH (tX12_change_20 kb) kb) 21 bX12_change_20 [(3, 12, a0), (0, 0, a1), (0, 0, a2), (7, 0, 0), (7, 0, 0), (7, 0, 0), (7, 0, 0), (7, 0, 0), (7, 0, 0), (7, 0, 0), (7, 0, 0), (7, 0, 0)] [] s = fX12_change_20 kb a0 a1 a2 s := rfl
noncomputable def bX12_change_21 : List En := [c_istore_n 3, c_iload_n 3, c_if .eq 54 77, c_aload_n 0, c_getC 74 12 124 24, c_iload_n 1, c_bald 124 10, c_if .eq 45 77, c_aload_n 0, c_getC 74 12 124 24, c_iload_n 2, c_bald 124 10, c_if .eq 36 77, c_aload_n 0, c_getC 7 12 102 2, c_iload_n 1, c_iald 102 10, c_aload_n 0, c_getC 7 12 102 2, c_iload_n 2, c_iald 102 10, c_icmp .ne 21 77, c_aload_n 0, c_getC 93 12 130 30, c_aload_n 0, c_getC 7 12 102 2, c_iload_n 1, c_iald 102 10, c_iald 130 2, c_if .ne 7 77, c_iconst 1, c_goto 4 78]
theorem eX12_change_21 (kb : Co) (a0 a1 a2 y0 : Int) (s : St) : exb (famH (tX12_change_21 kb) kb) 0 bX12_change_21 [(3, 12, a0), (0, 0, a1), (0, 0, a2), (7, 0, 0), (7, 0, 0), (7, 0, 0), (7, 0, 0), (7, 0, 0), (7, 0, 0), (7, 0, 0), (7, 0, 0), (7, 0, 0)] [(0, 0, y0)] s = fX12_change_21 kb a0 a1 a2 y0 s := rfl
noncomputable def bX12_change_77 : List En := [c_iconst 0]
theorem eX12_change_77 (kb : Co) (a0 a1 a2 a3 : Int) (s : St) : exb (famH (tX12_change_77 kb) kb) 78 bX12_change_77 [(3, 12, a0), (0, 0, a1), (0, 0, a2), (0, 0, a3), (7, 0, 0), (7, 0, 0), (7, 0, 0), (7, 0, 0), (7, 0, 0), (7, 0, 0), (7, 0, 0), (7, 0, 0)] [] s = fX12_change_77 kb a0 a1 a2 a3 s := rfl
noncomputable def bX12_change_78 : List En := [c_istore 4, c_aload_n 0, c_iload_n 3, c_if .ne 7 89, c_iconst 1, c_goto 22 108]
theorem eX12_change_78 (kb : Co) (a0 a1 a2 a3 y0 : Int) (s : St) : exb (famH (tX12_change_78 kb) kb) 0 bX12_change_78 [(3, 12, a0), (0, 0, a1), (0, 0, a2), (0, 0, a3), (7, 0, 0), (7, 0, 0), (7, 0, 0), (7, 0, 0), (7, 0, 0), (7, 0, 0), (7, 0, 0), (7, 0, 0)] [(0, 0, y0)] s = fX12_change_78 kb a0 a1 a2 a3 y0 s := rfl
noncomputable def bX12_change_89 : List En := [c_iload_n 1, c_iload_n 2, c_icmp .ne 7 98, c_iconst 2, c_goto 13 108]
theorem eX12_change_89 (kb : Co) (a0 a1 a2 a4 y0 : Int) (s : St) : exb (famH (tX12_change_89 kb) kb) 0 bX12_change_89 [(3, 12, a0), (0, 0, a1), (0, 0, a2), (7, 0, 0), (0, 0, a4), (7, 0, 0), (7, 0, 0), (7, 0, 0), (7, 0, 0), (7, 0, 0), (7, 0, 0), (7, 0, 0)] [(3, 12, y0)] s = fX12_change_89 kb a0 a1 a2 a4 y0 s := rfl
noncomputable def bX12_change_98 : List En := [c_iload 4, c_if .eq 7 107, c_iconst 0, c_goto 4 108]
theorem eX12_change_98 (kb : Co) (a0 a1 a2 a4 y0 : Int) (s : St) : exb (famH (tX12_change_98 kb) kb) 0 bX12_change_98 [(3, 12, a0), (0, 0, a1), (0, 0, a2), (7, 0, 0), (0, 0, a4), (7, 0, 0), (7, 0, 0), (7, 0, 0), (7, 0, 0), (7, 0, 0), (7, 0, 0), (7, 0, 0)] [(3, 12, y0)] s = fX12_change_98 kb a0 a1 a2 a4 y0 s := rfl
noncomputable def bX12_change_107 : List En := [c_iconst 3]
theorem eX12_change_107 (kb : Co) (a0 a1 a2 y0 : Int) (s : St) : exb (famH (tX12_change_107 kb) kb) 108 bX12_change_107 [(3, 12, a0), (0, 0, a1), (0, 0, a2), (7, 0, 0), (7, 0, 0), (7, 0, 0), (7, 0, 0), (7, 0, 0), (7, 0, 0), (7, 0, 0), (7, 0, 0), (7, 0, 0)] [(3, 12, y0)] s = fX12_change_107 kb a0 a1 a2 y0 s := rfl
noncomputable def bX12_change_108 : List En := [c_invv 167 [] gX12_holds mdX12_holds, c_if .ne 5 116, c_iconst 0, c_zreturn]
theorem eX12_change_108 (kb : Co) (a0 a1 a2 y0 y1 : Int) (s : St) : exb (famH (tX12_change_108 kb) kb) 0 bX12_change_108 [(3, 12, a0), (0, 0, a1), (0, 0, a2), (7, 0, 0), (7, 0, 0), (7, 0, 0), (7, 0, 0), (7, 0, 0), (7, 0, 0), (7, 0, 0), (7, 0, 0), (7, 0, 0)] [(0, 0, y0), (3, 12, y1)] s = fX12_change_108 kb a0 a1 a2 y0 y1 s := rfl
noncomputable def bX12_change_116 : List En := [c_aload_n 0, c_getC 7 12 102 2, c_iload_n 1, c_iald 102 10, c_istore 5, c_aload_n 0, c_iload_n 1, c_invv 238 [] gX12_placeIn mdX12_placeIn, c_istore 6, c_aload_n 0, c_iload_n 2, c_invv 238 [] gX12_placeIn mdX12_placeIn, c_istore 7, c_iconst 1, c_istore 8, c_iconst 0, c_istore 9]
theorem eX12_change_116 (kb : Co) (a0 a1 a2 : Int) (s : St) : exb (famH (tX12_change_116 kb) kb) 144 bX12_change_116 [(3, 12, a0), (0, 0, a1), (0, 0, a2), (7, 0, 0), (7, 0, 0), (7, 0, 0), (7, 0, 0), (7, 0, 0), (7, 0, 0), (7, 0, 0), (7, 0, 0), (7, 0, 0)] [] s = fX12_change_116 kb a0 a1 a2 s := rfl
noncomputable def bX12_change_144 : List En := [c_iload 9, c_aload_n 0, c_getC 80 12 126 26, c_iload 5, c_iald 126 2, c_iconst 1, c_isub, c_icmp .ge 134 289, c_aload_n 0, c_getC 83 12 127 27, c_bipush 10, c_iload 5, c_imul, c_iload 9, c_iload 6, c_icmp .ne 8 179, c_iload 7, c_goto 17 193]
theorem eX12_change_144 (kb : Co) (a0 a5 a6 a7 a8 a9 : Int) (s : St) : exb (famH (tX12_change_144 kb) kb) 0 bX12_change_144 [(3, 12, a0), (7, 0, 0), (7, 0, 0), (7, 0, 0), (7, 0, 0), (0, 0, a5), (0, 0, a6), (0, 0, a7), (0, 0, a8), (0, 0, a9), (7, 0, 0), (7, 0, 0)] [] s = fX12_change_144 kb a0 a5 a6 a7 a8 a9 s := rfl
noncomputable def bX12_change_179 : List En := [c_iload 9, c_iload 7, c_icmp .ne 8 191, c_iload 6, c_goto 5 193]
theorem eX12_change_179 (kb : Co) (a0 a5 a6 a7 a8 a9 y0 y1 : Int) (s : St) : exb (famH (tX12_change_179 kb) kb) 0 bX12_change_179 [(3, 12, a0), (7, 0, 0), (7, 0, 0), (7, 0, 0), (7, 0, 0), (0, 0, a5), (0, 0, a6), (0, 0, a7), (0, 0, a8), (0, 0, a9), (7, 0, 0), (7, 0, 0)] [(0, 0, y0), (3, 127, y1)] s = fX12_change_179 kb a0 a5 a6 a7 a8 a9 y0 y1 s := rfl
noncomputable def bX12_change_191 : List En := [c_iload 9]
theorem eX12_change_191 (kb : Co) (a0 a5 a6 a7 a8 a9 y0 y1 : Int) (s : St) : exb (famH (tX12_change_191 kb) kb) 193 bX12_change_191 [(3, 12, a0), (7, 0, 0), (7, 0, 0), (7, 0, 0), (7, 0, 0), (0, 0, a5), (0, 0, a6), (0, 0, a7), (0, 0, a8), (0, 0, a9), (7, 0, 0), (7, 0, 0)] [(0, 0, y0), (3, 127, y1)] s = fX12_change_191 kb a0 a5 a6 a7 a8 a9 y0 y1 s := rfl
noncomputable def bX12_change_193 : List En := [c_iadd, c_iald 127 20, c_istore 10, c_aload_n 0, c_getC 83 12 127 27, c_bipush 10, c_iload 5, c_imul, c_iload 9, c_iconst 1, c_iadd, c_iload 6, c_icmp .ne 8 220, c_iload 7, c_goto 21 238]
theorem eX12_change_193 (kb : Co) (a0 a5 a6 a7 a8 a9 y0 y1 y2 : Int) (s : St) : exb (famH (tX12_change_193 kb) kb) 0 bX12_change_193 [(3, 12, a0), (7, 0, 0), (7, 0, 0), (7, 0, 0), (7, 0, 0), (0, 0, a5), (0, 0, a6), (0, 0, a7), (0, 0, a8), (0, 0, a9), (7, 0, 0), (7, 0, 0)] [(0, 0, y0), (0, 0, y1), (3, 127, y2)] s = fX12_change_193 kb a0 a5 a6 a7 a8 a9 y0 y1 y2 s := rfl
noncomputable def bX12_change_220 : List En := [c_iload 9, c_iconst 1, c_iadd, c_iload 7, c_icmp .ne 8 234, c_iload 6, c_goto 7 238]
theorem eX12_change_220 (kb : Co) (a0 a5 a6 a7 a8 a9 a10 y0 y1 : Int) (s : St) : exb (famH (tX12_change_220 kb) kb) 0 bX12_change_220 [(3, 12, a0), (7, 0, 0), (7, 0, 0), (7, 0, 0), (7, 0, 0), (0, 0, a5), (0, 0, a6), (0, 0, a7), (0, 0, a8), (0, 0, a9), (0, 0, a10), (7, 0, 0)] [(0, 0, y0), (3, 127, y1)] s = fX12_change_220 kb a0 a5 a6 a7 a8 a9 a10 y0 y1 s := rfl
noncomputable def bX12_change_234 : List En := [c_iload 9, c_iconst 1, c_iadd]
theorem eX12_change_234 (kb : Co) (a0 a5 a6 a7 a8 a9 a10 y0 y1 : Int) (s : St) : exb (famH (tX12_change_234 kb) kb) 238 bX12_change_234 [(3, 12, a0), (7, 0, 0), (7, 0, 0), (7, 0, 0), (7, 0, 0), (0, 0, a5), (0, 0, a6), (0, 0, a7), (0, 0, a8), (0, 0, a9), (0, 0, a10), (7, 0, 0)] [(0, 0, y0), (3, 127, y1)] s = fX12_change_234 kb a0 a5 a6 a7 a8 a9 a10 y0 y1 s := rfl
noncomputable def bX12_change_238 : List En := [c_iadd, c_iald 127 20, c_istore 11, c_iload 8, c_if .eq 36 280, c_aload_n 0, c_getC 19 12 105 5, c_bipush 10, c_iload 10, c_imul, c_iload 11, c_iadd, c_bald 105 100, c_if .eq 16 276, c_aload_n 0, c_iload 5, c_iload 10, c_iload 11, c_invv 241 [] gX12_areNeighbours mdX12_areNeighbours, c_if .eq 7 280]
theorem eX12_change_238 (kb : Co) (a0 a5 a6 a7 a8 a9 a10 y0 y1 y2 : Int) (s : St) : exb (famH (tX12_change_238 kb) kb) 276 bX12_change_238 [(3, 12, a0), (7, 0, 0), (7, 0, 0), (7, 0, 0), (7, 0, 0), (0, 0, a5), (0, 0, a6), (0, 0, a7), (0, 0, a8), (0, 0, a9), (0, 0, a10), (7, 0, 0)] [(0, 0, y0), (0, 0, y1), (3, 127, y2)] s = fX12_change_238 kb a0 a5 a6 a7 a8 a9 a10 y0 y1 y2 s := rfl
noncomputable def bX12_change_276 : List En := [c_iconst 1, c_goto 4 281]
theorem eX12_change_276 (kb : Co) (a0 a5 a6 a7 a9 : Int) (s : St) : exb (famH (tX12_change_276 kb) kb) 0 bX12_change_276 [(3, 12, a0), (7, 0, 0), (7, 0, 0), (7, 0, 0), (7, 0, 0), (0, 0, a5), (0, 0, a6), (0, 0, a7), (7, 0, 0), (0, 0, a9), (7, 0, 0), (7, 0, 0)] [] s = fX12_change_276 kb a0 a5 a6 a7 a9 s := rfl
noncomputable def bX12_change_280 : List En := [c_iconst 0]
theorem eX12_change_280 (kb : Co) (a0 a5 a6 a7 a9 : Int) (s : St) : exb (famH (tX12_change_280 kb) kb) 281 bX12_change_280 [(3, 12, a0), (7, 0, 0), (7, 0, 0), (7, 0, 0), (7, 0, 0), (0, 0, a5), (0, 0, a6), (0, 0, a7), (7, 0, 0), (0, 0, a9), (7, 0, 0), (7, 0, 0)] [] s = fX12_change_280 kb a0 a5 a6 a7 a9 s := rfl
noncomputable def bX12_change_281 : List En := [c_istore 8, c_iinc 9 1, c_goto (-142) 144]
theorem eX12_change_281 (kb : Co) (a0 a5 a6 a7 a9 y0 : Int) (s : St) : exb (famH (tX12_change_281 kb) kb) 0 bX12_change_281 [(3, 12, a0), (7, 0, 0), (7, 0, 0), (7, 0, 0), (7, 0, 0), (0, 0, a5), (0, 0, a6), (0, 0, a7), (7, 0, 0), (0, 0, a9), (7, 0, 0), (7, 0, 0)] [(0, 0, y0)] s = fX12_change_281 kb a0 a5 a6 a7 a9 y0 s := rfl
noncomputable def bX12_change_289 : List En := [c_iload 8, c_if .eq 13 304, c_aload_n 0, c_iload 5, c_iload 6, c_iload 7, c_invv 227 [] gX12_swaps mdX12_swaps]
theorem eX12_change_289 (kb : Co) (a0 a5 a6 a7 a8 : Int) (s : St) : exb (famH (tX12_change_289 kb) kb) 304 bX12_change_289 [(3, 12, a0), (7, 0, 0), (7, 0, 0), (7, 0, 0), (7, 0, 0), (0, 0, a5), (0, 0, a6), (0, 0, a7), (0, 0, a8), (7, 0, 0), (7, 0, 0), (7, 0, 0)] [] s = fX12_change_289 kb a0 a5 a6 a7 a8 s := rfl
noncomputable def bX12_change_304 : List En := [c_iload 8, c_zreturn]
theorem eX12_change_304 (kb : Co) (a8 : Int) (s : St) : exb (famH (tX12_change_304 kb) kb) 0 bX12_change_304 [(7, 0, 0), (7, 0, 0), (7, 0, 0), (7, 0, 0), (7, 0, 0), (7, 0, 0), (7, 0, 0), (7, 0, 0), (0, 0, a8), (7, 0, 0), (7, 0, 0), (7, 0, 0)] [] s = fX12_change_304 kb a8 s := rfl
-- FloatparadeModel.order(II)I
noncomputable def bX12_order_0 : List En := [c_aload_n 0, c_iload_n 2, c_if .ge 7 9, c_iconst 1, c_goto 15 21]
theorem eX12_order_0 (kb : Co) (a0 a1 a2 : Int) (s : St) : exb (famH (tX12_order_0 kb) kb) 0 bX12_order_0 [(3, 12, a0), (0, 0, a1), (0, 0, a2)] [] s = fX12_order_0 kb a0 a1 a2 s := rfl
noncomputable def bX12_order_9 : List En := [c_iload_n 1, c_invs 163 [] gX12_isLeague mdX12_isLeague, c_if .eq 7 20, c_iconst 0, c_goto 4 21]
theorem eX12_order_9 (kb : Co) (a0 a1 a2 y0 : Int) (s : St) : exb (famH (tX12_order_9 kb) kb) 0 bX12_order_9 [(3, 12, a0), (0, 0, a1), (0, 0, a2)] [(3, 12, y0)] s = fX12_order_9 kb a0 a1 a2 y0 s := rfl
noncomputable def bX12_order_20 : List En := [c_iconst 2]
theorem eX12_order_20 (kb : Co) (a0 a1 a2 y0 : Int) (s : St) : exb (famH (tX12_order_20 kb) kb) 21 bX12_order_20 [(3, 12, a0), (0, 0, a1), (0, 0, a2)] [(3, 12, y0)] s = fX12_order_20 kb a0 a1 a2 y0 s := rfl
noncomputable def bX12_order_21 : List En := [c_invv 167 [] gX12_holds mdX12_holds, c_if .ne 5 29, c_iconst 0, c_ireturn]
theorem eX12_order_21 (kb : Co) (a0 a1 a2 y0 y1 : Int) (s : St) : exb (famH (tX12_order_21 kb) kb) 0 bX12_order_21 [(3, 12, a0), (0, 0, a1), (0, 0, a2)] [(0, 0, y0), (3, 12, y1)] s = fX12_order_21 kb a0 a1 a2 y0 y1 s := rfl
noncomputable def bX12_order_29 : List En := [c_iload_n 2, c_aload_n 0, c_getC 80 12 126 26, c_iload_n 1, c_iald 126 2, c_icmp .ge 17 53, c_aload_n 0, c_getC 83 12 127 27, c_bipush 10, c_iload_n 1, c_imul, c_iload_n 2, c_iadd, c_iald 127 20, c_goto 4 54]
theorem eX12_order_29 (kb : Co) (a0 a1 a2 : Int) (s : St) : exb (famH (tX12_order_29 kb) kb) 0 bX12_order_29 [(3, 12, a0), (0, 0, a1), (0, 0, a2)] [] s = fX12_order_29 kb a0 a1 a2 s := rfl
noncomputable def bX12_order_53 : List En := [c_iconst (-1)]
theorem eX12_order_53 (kb : Co) (s : St) : exb (famH (tX12_order_53 kb) kb) 54 bX12_order_53 [(7, 0, 0), (7, 0, 0), (7, 0, 0)] [] s = fX12_order_53 kb s := rfl
noncomputable def bX12_order_54 : List En := [c_ireturn]
theorem eX12_order_54 (kb : Co) (y0 : Int) (s : St) : exb (famH (tX12_order_54 kb) kb) 0 bX12_order_54 [(7, 0, 0), (7, 0, 0), (7, 0, 0)] [(0, 0, y0)] s = fX12_order_54 kb y0 s := rfl
-- FloatparadeModel.adds(IIII)V
noncomputable def bX12_adds_0 : List En := [c_bipush 60, c_iload_n 1, c_imul, c_aload_n 0, c_getC 105 12 134 34, c_iload_n 1, c_iald 134 2, c_iadd, c_istore 5, c_aload_n 0, c_getC 108 12 135 35, c_iload 5, c_iload_n 2, c_iast 135 120, c_aload_n 0, c_getC 111 12 136 36, c_iload 5, c_iload_n 3, c_iast 136 120, c_aload_n 0, c_getC 114 12 137 37, c_iload 5, c_iload 4, c_iast 137 120, c_aload_n 0, c_getC 117 12 138 38, c_iload 5, c_iconst (-1), c_iast 138 120, c_aload_n 0, c_getC 120 12 139 39, c_iload 5, c_iconst 0, c_iast 139 120, c_aload_n 0, c_getC 123 12 140 40, c_iload 5, c_iconst 0, c_bast 140 120, c_aload_n 0, c_getC 105 12 134 34, c_iload_n 1, c_dup2, c_iald 134 2, c_iconst 1, c_iadd, c_iast 134 2, c_return]
theorem eX12_adds_0 (kb : Co) (a0 a1 a2 a3 a4 : Int) (s : St) : exb (famH (tX12_adds_0 kb) kb) 0 bX12_adds_0 [(3, 12, a0), (0, 0, a1), (0, 0, a2), (0, 0, a3), (0, 0, a4), (7, 0, 0)] [] s = fX12_adds_0 kb a0 a1 a2 a3 a4 s := rfl
-- FloatparadeModel.begin(III)I
noncomputable def bX12_begin_0 : List En := [c_iload_n 1, c_invs 163 [] gX12_isLeague mdX12_isLeague, c_if .eq 29 33, c_iload_n 2, c_iconst 1, c_sipush 200, c_invs 159 [] gX12_in mdX12_in, c_if .eq 18 33, c_iload_n 3, c_iload_n 2, c_sipush 200, c_invs 159 [] gX12_in mdX12_in, c_if .eq 7 33, c_iconst 1, c_goto 4 34]
theorem eX12_begin_0 (kb : Co) (a0 a1 a2 a3 : Int) (s : St) : exb (famH (tX12_begin_0 kb) kb) 0 bX12_begin_0 [(3, 12, a0), (0, 0, a1), (0, 0, a2), (0, 0, a3), (7, 0, 0), (7, 0, 0), (7, 0, 0), (7, 0, 0), (7, 0, 0)] [] s = fX12_begin_0 kb a0 a1 a2 a3 s := rfl
noncomputable def bX12_begin_33 : List En := [c_iconst 0]
theorem eX12_begin_33 (kb : Co) (a0 a1 a2 a3 : Int) (s : St) : exb (famH (tX12_begin_33 kb) kb) 34 bX12_begin_33 [(3, 12, a0), (0, 0, a1), (0, 0, a2), (0, 0, a3), (7, 0, 0), (7, 0, 0), (7, 0, 0), (7, 0, 0), (7, 0, 0)] [] s = fX12_begin_33 kb a0 a1 a2 a3 s := rfl
noncomputable def bX12_begin_34 : List En := [c_istore 4, c_aload_n 0, c_iload 4, c_if .ne 7 46, c_iconst 1, c_goto 26 69]
theorem eX12_begin_34 (kb : Co) (a0 a1 a2 a3 y0 : Int) (s : St) : exb (famH (tX12_begin_34 kb) kb) 0 bX12_begin_34 [(3, 12, a0), (0, 0, a1), (0, 0, a2), (0, 0, a3), (7, 0, 0), (7, 0, 0), (7, 0, 0), (7, 0, 0), (7, 0, 0)] [(0, 0, y0)] s = fX12_begin_34 kb a0 a1 a2 a3 y0 s := rfl
noncomputable def bX12_begin_46 : List En := [c_aload_n 0, c_getC 93 12 130 30, c_iload_n 1, c_iald 130 2, c_if .gt 12 64, c_aload_n 0, c_getC 80 12 126 26, c_iload_n 1, c_iald 126 2, c_if .ne 7 68]
theorem eX12_begin_46 (kb : Co) (a0 a1 a2 a3 y0 : Int) (s : St) : exb (famH (tX12_begin_46 kb) kb) 64 bX12_begin_46 [(3, 12, a0), (0, 0, a1), (0, 0, a2), (0, 0, a3), (7, 0, 0), (7, 0, 0), (7, 0, 0), (7, 0, 0), (7, 0, 0)] [(3, 12, y0)] s = fX12_begin_46 kb a0 a1 a2 a3 y0 s := rfl
noncomputable def bX12_begin_64 : List En := [c_iconst 2, c_goto 4 69]
theorem eX12_begin_64 (kb : Co) (a0 a1 a2 a3 y0 : Int) (s : St) : exb (famH (tX12_begin_64 kb) kb) 0 bX12_begin_64 [(3, 12, a0), (0, 0, a1), (0, 0, a2), (0, 0, a3), (7, 0, 0), (7, 0, 0), (7, 0, 0), (7, 0, 0), (7, 0, 0)] [(3, 12, y0)] s = fX12_begin_64 kb a0 a1 a2 a3 y0 s := rfl
noncomputable def bX12_begin_68 : List En := [c_iconst 0]
theorem eX12_begin_68 (kb : Co) (a0 a1 a2 a3 y0 : Int) (s : St) : exb (famH (tX12_begin_68 kb) kb) 69 bX12_begin_68 [(3, 12, a0), (0, 0, a1), (0, 0, a2), (0, 0, a3), (7, 0, 0), (7, 0, 0), (7, 0, 0), (7, 0, 0), (7, 0, 0)] [(3, 12, y0)] s = fX12_begin_68 kb a0 a1 a2 a3 y0 s := rfl
noncomputable def bX12_begin_69 : List En := [c_invv 167 [] gX12_holds mdX12_holds, c_if .ne 5 77, c_iconst 0, c_ireturn]
theorem eX12_begin_69 (kb : Co) (a0 a1 a2 a3 y0 y1 : Int) (s : St) : exb (famH (tX12_begin_69 kb) kb) 0 bX12_begin_69 [(3, 12, a0), (0, 0, a1), (0, 0, a2), (0, 0, a3), (7, 0, 0), (7, 0, 0), (7, 0, 0), (7, 0, 0), (7, 0, 0)] [(0, 0, y0), (3, 12, y1)] s = fX12_begin_69 kb a0 a1 a2 a3 y0 y1 s := rfl
noncomputable def bX12_begin_77 : List En := [c_aload_n 0, c_getC 93 12 130 30, c_iload_n 1, c_iconst 1, c_iast 130 2, c_aload_n 0, c_getC 96 12 131 31, c_iload_n 1, c_iconst 0, c_iast 131 2, c_aload_n 0, c_getC 99 12 132 32, c_iload_n 1, c_iload_n 2, c_iast 132 2, c_aload_n 0, c_getC 102 12 133 33, c_iload_n 1, c_iload_n 3, c_iast 133 2, c_aload_n 0, c_getC 105 12 134 34, c_iload_n 1, c_iconst 0, c_iast 134 2, c_iconst 0, c_istore 5]
theorem eX12_begin_77 (kb : Co) (a0 a1 a2 a3 : Int) (s : St) : exb (famH (tX12_begin_77 kb) kb) 115 bX12_begin_77 [(3, 12, a0), (0, 0, a1), (0, 0, a2), (0, 0, a3), (7, 0, 0), (7, 0, 0), (7, 0, 0), (7, 0, 0), (7, 0, 0)] [] s = fX12_begin_77 kb a0 a1 a2 a3 s := rfl
noncomputable def bX12_begin_115 : List En := [c_iload 5, c_bipush 12, c_icmp .ge 22 141, c_aload_n 0, c_getC 126 12 141 41, c_bipush 12, c_iload_n 1, c_imul, c_iload 5, c_iadd, c_iconst 0, c_iast 141 24, c_iinc 5 1, c_goto (-23) 115]
theorem eX12_begin_115 (kb : Co) (a0 a1 a5 : Int) (s : St) : exb (famH (tX12_begin_115 kb) kb) 0 bX12_begin_115 [(3, 12, a0), (0, 0, a1), (7, 0, 0), (7, 0, 0), (7, 0, 0), (0, 0, a5), (7, 0, 0), (7, 0, 0), (7, 0, 0)] [] s = fX12_begin_115 kb a0 a1 a5 s := rfl
noncomputable def bX12_begin_141 : List En := [c_iconst 0, c_istore 5]
theorem eX12_begin_141 (kb : Co) (a0 a1 : Int) (s : St) : exb (famH (tX12_begin_141 kb) kb) 144 bX12_begin_141 [(3, 12, a0), (0, 0, a1), (7, 0, 0), (7, 0, 0), (7, 0, 0), (7, 0, 0), (7, 0, 0), (7, 0, 0), (7, 0, 0)] [] s = fX12_begin_141 kb a0 a1 s := rfl
noncomputable def bX12_begin_144 : List En := [c_iload 5, c_aload_n 0, c_getC 80 12 126 26, c_iload_n 1, c_iald 126 2, c_icmp .ge 127 279, c_aload_n 0, c_getC 83 12 127 27, c_bipush 10, c_iload_n 1, c_imul, c_iload 5, c_iadd, c_iald 127 20, c_istore 6, c_aload_n 0, c_getC 13 12 103 3, c_iload 6, c_iald 103 10, c_bipush 10, c_idiv, c_iconst 1, c_iadd, c_istore 7, c_iload 7, c_bipush 9, c_icmp .le 8 195, c_bipush 9, c_goto 5 197]
theorem eX12_begin_144 (kb : Co) (a0 a1 a5 : Int) (s : St) : exb (famH (tX12_begin_144 kb) kb) 0 bX12_begin_144 [(3, 12, a0), (0, 0, a1), (7, 0, 0), (7, 0, 0), (7, 0, 0), (0, 0, a5), (7, 0, 0), (7, 0, 0), (7, 0, 0)] [] s = fX12_begin_144 kb a0 a1 a5 s := rfl
noncomputable def bX12_begin_195 : List En := [c_iload 7]
theorem eX12_begin_195 (kb : Co) (a0 a1 a5 a6 a7 : Int) (s : St) : exb (famH (tX12_begin_195 kb) kb) 197 bX12_begin_195 [(3, 12, a0), (0, 0, a1), (7, 0, 0), (7, 0, 0), (7, 0, 0), (0, 0, a5), (0, 0, a6), (0, 0, a7), (7, 0, 0)] [] s = fX12_begin_195 kb a0 a1 a5 a6 a7 s := rfl
noncomputable def bX12_begin_197 : List En := [c_istore 7, c_iconst 0, c_istore 8]
theorem eX12_begin_197 (kb : Co) (a0 a1 a5 a6 y0 : Int) (s : St) : exb (famH (tX12_begin_197 kb) kb) 202 bX12_begin_197 [(3, 12, a0), (0, 0, a1), (7, 0, 0), (7, 0, 0), (7, 0, 0), (0, 0, a5), (0, 0, a6), (7, 0, 0), (7, 0, 0)] [(0, 0, y0)] s = fX12_begin_197 kb a0 a1 a5 a6 y0 s := rfl
noncomputable def bX12_begin_202 : List En := [c_iload 8, c_aload_n 0, c_getC 41 12 112 12, c_iload 6, c_iald 112 10, c_icmp .ge 42 253, c_aload_n 0, c_iload_n 1, c_iload 6, c_iload 8, c_aload_n 0, c_getC 44 12 113 13, c_iload 6, c_iload 8, c_invs 209 [] gX12_at mdX12_at, c_iconst 3, c_iadd, c_iald 113 120, c_invv 244 [] gX12_adds mdX12_adds, c_aload_n 0, c_iload_n 1, c_iload 6, c_iconst (-1), c_iload 7, c_invv 244 [] gX12_adds mdX12_adds, c_iinc 8 1, c_goto (-48) 202]
theorem eX12_begin_202 (kb : Co) (a0 a1 a5 a6 a7 a8 : Int) (s : St) : exb (famH (tX12_begin_202 kb) kb) 0 bX12_begin_202 [(3, 12, a0), (0, 0, a1), (7, 0, 0), (7, 0, 0), (7, 0, 0), (0, 0, a5), (0, 0, a6), (0, 0, a7), (0, 0, a8)] [] s = fX12_begin_202 kb a0 a1 a5 a6 a7 a8 s := rfl
noncomputable def bX12_begin_253 : List En := [c_aload_n 0, c_getC 41 12 112 12, c_iload 6, c_iald 112 10, c_if .ne 13 273, c_aload_n 0, c_iload_n 1, c_iload 6, c_iconst (-1), c_iload 7, c_invv 244 [] gX12_adds mdX12_adds]
theorem eX12_begin_253 (kb : Co) (a0 a1 a5 a6 a7 : Int) (s : St) : exb (famH (tX12_begin_253 kb) kb) 273 bX12_begin_253 [(3, 12, a0), (0, 0, a1), (7, 0, 0), (7, 0, 0), (7, 0, 0), (0, 0, a5), (0, 0, a6), (0, 0, a7), (7, 0, 0)] [] s = fX12_begin_253 kb a0 a1 a5 a6 a7 s := rfl
noncomputable def bX12_begin_273 : List En := [c_iinc 5 1, c_goto (-132) 144]
theorem eX12_begin_273 (kb : Co) (a0 a1 a5 : Int) (s : St) : exb (famH (tX12_begin_273 kb) kb) 0 bX12_begin_273 [(3, 12, a0), (0, 0, a1), (7, 0, 0), (7, 0, 0), (7, 0, 0), (0, 0, a5), (7, 0, 0), (7, 0, 0), (7, 0, 0)] [] s = fX12_begin_273 kb a0 a1 a5 s := rfl
noncomputable def bX12_begin_279 : List En := [c_aload_n 0, c_getC 105 12 134 34, c_iload_n 1, c_iald 134 2, c_ireturn]
theorem eX12_begin_279 (kb : Co) (a0 a1 : Int) (s : St) : exb (famH (tX12_begin_279 kb) kb) 0 bX12_begin_279 [(3, 12, a0), (0, 0, a1), (7, 0, 0), (7, 0, 0), (7, 0, 0), (7, 0, 0), (7, 0, 0), (7, 0, 0), (7, 0, 0)] [] s = fX12_begin_279 kb a0 a1 s := rfl
-- FloatparadeModel.tailOf(I)I
noncomputable def bX12_tailOf_0 : List En := [c_aload_n 0, c_getC 117 12 138 38, c_iload_n 1, c_iald 138 120, c_aload_n 0, c_getC 114 12 137 37, c_iload_n 1, c_iald 137 120, c_isub, c_iconst 1, c_iadd, c_ireturn]
theorem eX12_tailOf_0 (kb : Co) (a0 a1 : Int) (s : St) : exb (famH (tX12_tailOf_0 kb) kb) 0 bX12_tailOf_0 [(3, 12, a0), (0, 0, a1)] [] s = fX12_tailOf_0 kb a0 a1 s := rfl
-- FloatparadeModel.isOut(II)Z
noncomputable def bX12_isOut_0 : List En := [c_aload_n 0, c_bipush 60, c_iload_n 1, c_imul, c_iload_n 2, c_iadd, c_invv 248 [] gX12_tailOf mdX12_tailOf, c_aload_n 0, c_iload_n 1, c_invv 206 [] gX12_cells mdX12_cells, c_icmp .lt 7 22, c_iconst 1, c_goto 4 23]
theorem eX12_isOut_0 (kb : Co) (a0 a1 a2 : Int) (s : St) : exb (famH (tX12_isOut_0 kb) kb) 0 bX12_isOut_0 [(3, 12, a0), (0, 0, a1), (0, 0, a2)] [] s = fX12_isOut_0 kb a0 a1 a2 s := rfl
noncomputable def bX12_isOut_22 : List En := [c_iconst 0]
theorem eX12_isOut_22 (kb : Co) (s : St) : exb (famH (tX12_isOut_22 kb) kb) 23 bX12_isOut_22 [(7, 0, 0), (7, 0, 0), (7, 0, 0)] [] s = fX12_isOut_22 kb s := rfl
noncomputable def bX12_isOut_23 : List En := [c_zreturn]
theorem eX12_isOut_23 (kb : Co) (y0 : Int) (s : St) : exb (famH (tX12_isOut_23 kb) kb) 0 bX12_isOut_23 [(7, 0, 0), (7, 0, 0), (7, 0, 0)] [(0, 0, y0)] s = fX12_isOut_23 kb y0 s := rfl
-- FloatparadeModel.stop(III)I
noncomputable def bX12_stop_0 : List En := [c_iload_n 1, c_invs 163 [] gX12_isLeague mdX12_isLeague, c_if .eq 17 21, c_iload_n 3, c_iconst 1, c_bipush 20, c_invs 159 [] gX12_in mdX12_in, c_if .eq 7 21, c_iconst 1, c_goto 4 22]
theorem eX12_stop_0 (kb : Co) (a0 a1 a2 a3 : Int) (s : St) : exb (famH (tX12_stop_0 kb) kb) 0 bX12_stop_0 [(3, 12, a0), (0, 0, a1), (0, 0, a2), (0, 0, a3), (7, 0, 0), (7, 0, 0), (7, 0, 0)] [] s = fX12_stop_0 kb a0 a1 a2 a3 s := rfl
noncomputable def bX12_stop_21 : List En := [c_iconst 0]
theorem eX12_stop_21 (kb : Co) (a0 a1 a2 a3 : Int) (s : St) : exb (famH (tX12_stop_21 kb) kb) 22 bX12_stop_21 [(3, 12, a0), (0, 0, a1), (0, 0, a2), (0, 0, a3), (7, 0, 0), (7, 0, 0), (7, 0, 0)] [] s = fX12_stop_21 kb a0 a1 a2 a3 s := rfl
noncomputable def bX12_stop_22 : List En := [c_istore 4, c_iload 4, c_if .eq 17 43, c_aload_n 0, c_getC 93 12 130 30, c_iload_n 1, c_iald 130 2, c_iconst 1, c_icmp .ne 7 43, c_iconst 1, c_goto 4 44]
theorem eX12_stop_22 (kb : Co) (a0 a1 a2 a3 y0 : Int) (s : St) : exb (famH (tX12_stop_22 kb) kb) 0 bX12_stop_22 [(3, 12, a0), (0, 0, a1), (0, 0, a2), (0, 0, a3), (7, 0, 0), (7, 0, 0), (7, 0, 0)] [(0, 0, y0)] s = fX12_stop_22 kb a0 a1 a2 a3 y0 s := rfl
noncomputable def bX12_stop_43 : List En := [c_iconst 0]
theorem eX12_stop_43 (kb : Co) (a0 a1 a2 a3 a4 : Int) (s : St) : exb (famH (tX12_stop_43 kb) kb) 44 bX12_stop_43 [(3, 12, a0), (0, 0, a1), (0, 0, a2), (0, 0, a3), (0, 0, a4), (7, 0, 0), (7, 0, 0)] [] s = fX12_stop_43 kb a0 a1 a2 a3 a4 s := rfl
noncomputable def bX12_stop_44 : List En := [c_istore 5, c_iload 5, c_if .eq 32 80, c_iload_n 2, c_iconst 0, c_aload_n 0, c_getC 105 12 134 34, c_iload_n 1, c_iald 134 2, c_iconst 1, c_isub, c_invs 159 [] gX12_in mdX12_in, c_if .eq 16 80, c_aload_n 0, c_iload_n 1, c_iload_n 2, c_invv 251 [] gX12_isOut mdX12_isOut, c_if .ne 7 80, c_iconst 1, c_goto 4 81]
theorem eX12_stop_44 (kb : Co) (a0 a1 a2 a3 a4 y0 : Int) (s : St) : exb (famH (tX12_stop_44 kb) kb) 0 bX12_stop_44 [(3, 12, a0), (0, 0, a1), (0, 0, a2), (0, 0, a3), (0, 0, a4), (7, 0, 0), (7, 0, 0)] [(0, 0, y0)] s = fX12_stop_44 kb a0 a1 a2 a3 a4 y0 s := rfl
noncomputable def bX12_stop_80 : List En := [c_iconst 0]
theorem eX12_stop_80 (kb : Co) (a0 a1 a2 a3 a4 a5 : Int) (s : St) : exb (famH (tX12_stop_80 kb) kb) 81 bX12_stop_80 [(3, 12, a0), (0, 0, a1), (0, 0, a2), (0, 0, a3), (0, 0, a4), (0, 0, a5), (7, 0, 0)] [] s = fX12_stop_80 kb a0 a1 a2 a3 a4 a5 s := rfl
noncomputable def bX12_stop_81 : List En := [c_istore 6, c_aload_n 0, c_iload 4, c_if .ne 7 93, c_iconst 1, c_goto 22 112]
theorem eX12_stop_81 (kb : Co) (a0 a1 a2 a3 a4 a5 y0 : Int) (s : St) : exb (famH (tX12_stop_81 kb) kb) 0 bX12_stop_81 [(3, 12, a0), (0, 0, a1), (0, 0, a2), (0, 0, a3), (0, 0, a4), (0, 0, a5), (7, 0, 0)] [(0, 0, y0)] s = fX12_stop_81 kb a0 a1 a2 a3 a4 a5 y0 s := rfl
noncomputable def bX12_stop_93 : List En := [c_iload 5, c_if .ne 7 102, c_iconst 2, c_goto 13 112]
theorem eX12_stop_93 (kb : Co) (a0 a1 a2 a3 a5 a6 y0 : Int) (s : St) : exb (famH (tX12_stop_93 kb) kb) 0 bX12_stop_93 [(3, 12, a0), (0, 0, a1), (0, 0, a2), (0, 0, a3), (7, 0, 0), (0, 0, a5), (0, 0, a6)] [(3, 12, y0)] s = fX12_stop_93 kb a0 a1 a2 a3 a5 a6 y0 s := rfl
noncomputable def bX12_stop_102 : List En := [c_iload 6, c_if .eq 7 111, c_iconst 0, c_goto 4 112]
theorem eX12_stop_102 (kb : Co) (a0 a1 a2 a3 a6 y0 : Int) (s : St) : exb (famH (tX12_stop_102 kb) kb) 0 bX12_stop_102 [(3, 12, a0), (0, 0, a1), (0, 0, a2), (0, 0, a3), (7, 0, 0), (7, 0, 0), (0, 0, a6)] [(3, 12, y0)] s = fX12_stop_102 kb a0 a1 a2 a3 a6 y0 s := rfl
noncomputable def bX12_stop_111 : List En := [c_iconst 3]
theorem eX12_stop_111 (kb : Co) (a0 a1 a2 a3 y0 : Int) (s : St) : exb (famH (tX12_stop_111 kb) kb) 112 bX12_stop_111 [(3, 12, a0), (0, 0, a1), (0, 0, a2), (0, 0, a3), (7, 0, 0), (7, 0, 0), (7, 0, 0)] [(3, 12, y0)] s = fX12_stop_111 kb a0 a1 a2 a3 y0 s := rfl
noncomputable def bX12_stop_112 : List En := [c_invv 167 [] gX12_holds mdX12_holds, c_if .ne 5 120, c_iconst 0, c_ireturn]
theorem eX12_stop_112 (kb : Co) (a0 a1 a2 a3 y0 y1 : Int) (s : St) : exb (famH (tX12_stop_112 kb) kb) 0 bX12_stop_112 [(3, 12, a0), (0, 0, a1), (0, 0, a2), (0, 0, a3), (7, 0, 0), (7, 0, 0), (7, 0, 0)] [(0, 0, y0), (3, 12, y1)] s = fX12_stop_112 kb a0 a1 a2 a3 y0 y1 s := rfl
noncomputable def bX12_stop_120 : List En := [c_aload_n 0, c_getC 120 12 139 39, c_bipush 60, c_iload_n 1, c_imul, c_iload_n 2, c_iadd, c_dup2, c_iald 139 120, c_iload_n 3, c_iadd, c_iast 139 120, c_aload_n 0, c_getC 120 12 139 39, c_bipush 60, c_iload_n 1, c_imul, c_iload_n 2, c_iadd, c_iald 139 120, c_ireturn]
theorem eX12_stop_120 (kb : Co) (a0 a1 a2 a3 : Int) (s : St) : exb (famH (tX12_stop_120 kb) kb) 0 bX12_stop_120 [(3, 12, a0), (0, 0, a1), (0, 0, a2), (0, 0, a3), (7, 0, 0), (7, 0, 0), (7, 0, 0)] [] s = fX12_stop_120 kb a0 a1 a2 a3 s := rfl
-- FloatparadeModel.rain(Z)Z
noncomputable def bX12_rain_0 : List En := [c_aload_n 0, c_iconst 0, c_putI 153 12 0, c_aload_n 0, c_getI 254 12 42, c_istore_n 2, c_aload_n 0, c_iload_n 1, c_putZ 254 12 42, c_iload_n 2, c_zreturn]
theorem eX12_rain_0 (kb : Co) (a0 a1 : Int) (s : St) : exb (famH (tX12_rain_0 kb) kb) 0 bX12_rain_0 [(3, 12, a0), (0, 0, a1), (7, 0, 0)] [] s = fX12_rain_0 kb a0 a1 s := rfl
-- FloatparadeModel.ambulance(I)I
noncomputable def bX12_ambulance_0 : List En := [c_aload_n 0, c_iload_n 1, c_invs 187 [] gX12_isCorner mdX12_isCorner, c_if .eq 7 12, c_iconst 0, c_goto 4 13]
theorem eX12_ambulance_0 (kb : Co) (a0 a1 : Int) (s : St) : exb (famH (tX12_ambulance_0 kb) kb) 0 bX12_ambulance_0 [(3, 12, a0), (0, 0, a1), (7, 0, 0), (7, 0, 0), (7, 0, 0), (7, 0, 0), (7, 0, 0)] [] s = fX12_ambulance_0 kb a0 a1 s := rfl
noncomputable def bX12_ambulance_12 : List En := [c_iconst 1]
theorem eX12_ambulance_12 (kb : Co) (a0 a1 y0 : Int) (s : St) : exb (famH (tX12_ambulance_12 kb) kb) 13 bX12_ambulance_12 [(3, 12, a0), (0, 0, a1), (7, 0, 0), (7, 0, 0), (7, 0, 0), (7, 0, 0), (7, 0, 0)] [(3, 12, y0)] s = fX12_ambulance_12 kb a0 a1 y0 s := rfl
noncomputable def bX12_ambulance_13 : List En := [c_invv 167 [] gX12_holds mdX12_holds, c_if .ne 5 21, c_iconst 0, c_ireturn]
theorem eX12_ambulance_13 (kb : Co) (a0 a1 y0 y1 : Int) (s : St) : exb (famH (tX12_ambulance_13 kb) kb) 0 bX12_ambulance_13 [(3, 12, a0), (0, 0, a1), (7, 0, 0), (7, 0, 0), (7, 0, 0), (7, 0, 0), (7, 0, 0)] [(0, 0, y0), (3, 12, y1)] s = fX12_ambulance_13 kb a0 a1 y0 y1 s := rfl
noncomputable def bX12_ambulance_21 : List En := [c_iconst 0, c_istore_n 2, c_iconst 0, c_istore_n 3]
theorem eX12_ambulance_21 (kb : Co) (a0 a1 : Int) (s : St) : exb (famH (tX12_ambulance_21 kb) kb) 25 bX12_ambulance_21 [(3, 12, a0), (0, 0, a1), (7, 0, 0), (7, 0, 0), (7, 0, 0), (7, 0, 0), (7, 0, 0)] [] s = fX12_ambulance_21 kb a0 a1 s := rfl
noncomputable def bX12_ambulance_25 : List En := [c_iload_n 3, c_iconst 2, c_icmp .ge 111 138, c_aload_n 0, c_iload_n 3, c_iload_n 1, c_invv 200 [] gX12_placeOf mdX12_placeOf, c_istore 4, c_aload_n 0, c_getC 93 12 130 30, c_iload_n 3, c_iald 130 2, c_iconst 1, c_icmp .ne 87 132, c_iload 4, c_iconst (-1), c_icmp .eq 81 132, c_aload_n 0, c_iload_n 3, c_iload 4, c_invv 258 [] gX12_cellOf mdX12_cellOf, c_istore 5, c_aload_n 0, c_getC 126 12 141 41, c_bipush 12, c_iload_n 3, c_imul, c_iload_n 1, c_iadd, c_iconst 2, c_iast 141 24, c_bipush 60, c_iload_n 3, c_imul, c_istore 6]
theorem eX12_ambulance_25 (kb : Co) (a0 a1 a2 a3 : Int) (s : St) : exb (famH (tX12_ambulance_25 kb) kb) 81 bX12_ambulance_25 [(3, 12, a0), (0, 0, a1), (0, 0, a2), (0, 0, a3), (7, 0, 0), (7, 0, 0), (7, 0, 0)] [] s = fX12_ambulance_25 kb a0 a1 a2 a3 s := rfl
noncomputable def bX12_ambulance_81 : List En := [c_iload 6, c_bipush 60, c_iload_n 3, c_imul, c_aload_n 0, c_getC 105 12 134 34, c_iload_n 3, c_iald 134 2, c_iadd, c_icmp .ge 38 132, c_iload_n 2, c_iload 5, c_aload_n 0, c_iload 6, c_invv 248 [] gX12_tailOf mdX12_tailOf, c_aload_n 0, c_getC 117 12 138 38, c_iload 6, c_iald 138 120, c_invs 159 [] gX12_in mdX12_in, c_if .eq 7 123, c_iconst 1, c_goto 4 124]
theorem eX12_ambulance_81 (kb : Co) (a0 a1 a2 a3 a5 a6 : Int) (s : St) : exb (famH (tX12_ambulance_81 kb) kb) 0 bX12_ambulance_81 [(3, 12, a0), (0, 0, a1), (0, 0, a2), (0, 0, a3), (7, 0, 0), (0, 0, a5), (0, 0, a6)] [] s = fX12_ambulance_81 kb a0 a1 a2 a3 a5 a6 s := rfl
noncomputable def bX12_ambulance_123 : List En := [c_iconst 0]
theorem eX12_ambulance_123 (kb : Co) (a0 a1 a3 a5 a6 y0 : Int) (s : St) : exb (famH (tX12_ambulance_123 kb) kb) 124 bX12_ambulance_123 [(3, 12, a0), (0, 0, a1), (7, 0, 0), (0, 0, a3), (7, 0, 0), (0, 0, a5), (0, 0, a6)] [(0, 0, y0)] s = fX12_ambulance_123 kb a0 a1 a3 a5 a6 y0 s := rfl
noncomputable def bX12_ambulance_124 : List En := [c_iadd, c_istore_n 2, c_iinc 6 1, c_goto (-48) 81]
theorem eX12_ambulance_124 (kb : Co) (a0 a1 a3 a5 a6 y0 y1 : Int) (s : St) : exb (famH (tX12_ambulance_124 kb) kb) 0 bX12_ambulance_124 [(3, 12, a0), (0, 0, a1), (7, 0, 0), (0, 0, a3), (7, 0, 0), (0, 0, a5), (0, 0, a6)] [(0, 0, y0), (0, 0, y1)] s = fX12_ambulance_124 kb a0 a1 a3 a5 a6 y0 y1 s := rfl
noncomputable def bX12_ambulance_132 : List En := [c_iinc 3 1, c_goto (-110) 25]
theorem eX12_ambulance_132 (kb : Co) (a0 a1 a2 a3 : Int) (s : St) : exb (famH (tX12_ambulance_132 kb) kb) 0 bX12_ambulance_132 [(3, 12, a0), (0, 0, a1), (0, 0, a2), (0, 0, a3), (7, 0, 0), (7, 0, 0), (7, 0, 0)] [] s = fX12_ambulance_132 kb a0 a1 a2 a3 s := rfl
noncomputable def bX12_ambulance_138 : List En := [c_iload_n 2, c_ireturn]
theorem eX12_ambulance_138 (kb : Co) (a2 : Int) (s : St) : exb (famH (tX12_ambulance_138 kb) kb) 0 bX12_ambulance_138 [(7, 0, 0), (7, 0, 0), (0, 0, a2), (7, 0, 0), (7, 0, 0), (7, 0, 0), (7, 0, 0)] [] s = fX12_ambulance_138 kb a2 s := rfl
-- FloatparadeModel.moves(II)V
noncomputable def bX12_moves_0 : List En := [c_bipush 60, c_iload_n 1, c_imul, c_iload_n 2, c_iadd, c_istore_n 3, c_aload_n 0, c_getC 120 12 139 39, c_iload_n 3, c_iald 139 120, c_if .gt 12 25, c_aload_n 0, c_getC 123 12 140 40, c_iload_n 3, c_bald 140 120, c_if .eq 7 29]
theorem eX12_moves_0 (kb : Co) (a0 a1 a2 : Int) (s : St) : exb (famH (tX12_moves_0 kb) kb) 25 bX12_moves_0 [(3, 12, a0), (0, 0, a1), (0, 0, a2), (7, 0, 0), (7, 0, 0), (7, 0, 0), (7, 0, 0), (7, 0, 0), (7, 0, 0)] [] s = fX12_moves_0 kb a0 a1 a2 s := rfl
noncomputable def bX12_moves_25 : List En := [c_iconst 1, c_goto 4 30]
theorem eX12_moves_25 (kb : Co) (a0 a1 a2 a3 : Int) (s : St) : exb (famH (tX12_moves_25 kb) kb) 0 bX12_moves_25 [(3, 12, a0), (0, 0, a1), (0, 0, a2), (0, 0, a3), (7, 0, 0), (7, 0, 0), (7, 0, 0), (7, 0, 0), (7, 0, 0)] [] s = fX12_moves_25 kb a0 a1 a2 a3 s := rfl
noncomputable def bX12_moves_29 : List En := [c_iconst 0]
theorem eX12_moves_29 (kb : Co) (a0 a1 a2 a3 : Int) (s : St) : exb (famH (tX12_moves_29 kb) kb) 30 bX12_moves_29 [(3, 12, a0), (0, 0, a1), (0, 0, a2), (0, 0, a3), (7, 0, 0), (7, 0, 0), (7, 0, 0), (7, 0, 0), (7, 0, 0)] [] s = fX12_moves_29 kb a0 a1 a2 a3 s := rfl
noncomputable def bX12_moves_30 : List En := [c_istore 4, c_aload_n 0, c_getC 123 12 140 40, c_iload_n 3, c_iconst 0, c_bast 140 120, c_aload_n 0, c_getC 117 12 138 38, c_iload_n 3, c_iald 138 120, c_aload_n 0, c_getC 111 12 136 36, c_iload_n 3, c_iald 136 120, c_iconst (-1), c_icmp .ne 14 66, c_aload_n 0, c_getI 254 12 42, c_if .ne 7 66, c_iconst 3, c_goto 4 67]
theorem eX12_moves_30 (kb : Co) (a0 a1 a2 a3 y0 : Int) (s : St) : exb (famH (tX12_moves_30 kb) kb) 0 bX12_moves_30 [(3, 12, a0), (0, 0, a1), (0, 0, a2), (0, 0, a3), (7, 0, 0), (7, 0, 0), (7, 0, 0), (7, 0, 0), (7, 0, 0)] [(0, 0, y0)] s = fX12_moves_30 kb a0 a1 a2 a3 y0 s := rfl
noncomputable def bX12_moves_66 : List En := [c_iconst 2]
theorem eX12_moves_66 (kb : Co) (a0 a1 a2 a3 a4 y0 : Int) (s : St) : exb (famH (tX12_moves_66 kb) kb) 67 bX12_moves_66 [(3, 12, a0), (0, 0, a1), (0, 0, a2), (0, 0, a3), (0, 0, a4), (7, 0, 0), (7, 0, 0), (7, 0, 0), (7, 0, 0)] [(0, 0, y0)] s = fX12_moves_66 kb a0 a1 a2 a3 a4 y0 s := rfl
noncomputable def bX12_moves_67 : List En := [c_iadd, c_istore 5, c_iload 4, c_if .eq 4 76, c_return]
theorem eX12_moves_67 (kb : Co) (a0 a1 a2 a3 a4 y0 y1 : Int) (s : St) : exb (famH (tX12_moves_67 kb) kb) 0 bX12_moves_67 [(3, 12, a0), (0, 0, a1), (0, 0, a2), (0, 0, a3), (0, 0, a4), (7, 0, 0), (7, 0, 0), (7, 0, 0), (7, 0, 0)] [(0, 0, y0), (0, 0, y1)] s = fX12_moves_67 kb a0 a1 a2 a3 a4 y0 y1 s := rfl
noncomputable def bX12_moves_76 : List En := [c_iload_n 2, c_if .le 44 121, c_aload_n 0, c_iload_n 1, c_iload_n 2, c_iconst 1, c_isub, c_invv 251 [] gX12_isOut mdX12_isOut, c_if .ne 33 121, c_iload 5, c_aload_n 0, c_iload_n 3, c_iconst 1, c_isub, c_invv 248 [] gX12_tailOf mdX12_tailOf, c_iconst 2, c_isub, c_icmp .le 15 117, c_aload_n 0, c_iload_n 3, c_iconst 1, c_isub, c_invv 248 [] gX12_tailOf mdX12_tailOf, c_iconst 2, c_isub, c_goto 5 119]
theorem eX12_moves_76 (kb : Co) (a0 a1 a2 a3 a5 : Int) (s : St) : exb (famH (tX12_moves_76 kb) kb) 0 bX12_moves_76 [(3, 12, a0), (0, 0, a1), (0, 0, a2), (0, 0, a3), (7, 0, 0), (0, 0, a5), (7, 0, 0), (7, 0, 0), (7, 0, 0)] [] s = fX12_moves_76 kb a0 a1 a2 a3 a5 s := rfl
noncomputable def bX12_moves_117 : List En := [c_iload 5]
theorem eX12_moves_117 (kb : Co) (a0 a1 a3 a5 : Int) (s : St) : exb (famH (tX12_moves_117 kb) kb) 119 bX12_moves_117 [(3, 12, a0), (0, 0, a1), (7, 0, 0), (0, 0, a3), (7, 0, 0), (0, 0, a5), (7, 0, 0), (7, 0, 0), (7, 0, 0)] [] s = fX12_moves_117 kb a0 a1 a3 a5 s := rfl
noncomputable def bX12_moves_119 : List En := [c_istore 5]
theorem eX12_moves_119 (kb : Co) (a0 a1 a3 y0 : Int) (s : St) : exb (famH (tX12_moves_119 kb) kb) 121 bX12_moves_119 [(3, 12, a0), (0, 0, a1), (7, 0, 0), (0, 0, a3), (7, 0, 0), (7, 0, 0), (7, 0, 0), (7, 0, 0), (7, 0, 0)] [(0, 0, y0)] s = fX12_moves_119 kb a0 a1 a3 y0 s := rfl
noncomputable def bX12_moves_121 : List En := [c_iconst 0, c_istore 6]
theorem eX12_moves_121 (kb : Co) (a0 a1 a3 a5 : Int) (s : St) : exb (famH (tX12_moves_121 kb) kb) 124 bX12_moves_121 [(3, 12, a0), (0, 0, a1), (7, 0, 0), (0, 0, a3), (7, 0, 0), (0, 0, a5), (7, 0, 0), (7, 0, 0), (7, 0, 0)] [] s = fX12_moves_121 kb a0 a1 a3 a5 s := rfl
noncomputable def bX12_moves_124 : List En := [c_iload 6, c_aload_n 0, c_getC 65 12 121 21, c_iload_n 1, c_iald 121 2, c_icmp .ge 84 216, c_aload_n 0, c_iload_n 1, c_iload 6, c_invv 258 [] gX12_cellOf mdX12_cellOf, c_istore 7, c_aload_n 0, c_getC 126 12 141 41, c_bipush 12, c_iload_n 1, c_imul, c_aload_n 0, c_getC 68 12 122 22, c_bipush 10, c_iload_n 1, c_imul, c_iload 6, c_iadd, c_iald 122 20, c_iadd, c_iald 141 24, c_if .le 7 173, c_iconst 1, c_goto 4 174]
theorem eX12_moves_124 (kb : Co) (a0 a1 a3 a5 a6 : Int) (s : St) : exb (famH (tX12_moves_124 kb) kb) 0 bX12_moves_124 [(3, 12, a0), (0, 0, a1), (7, 0, 0), (0, 0, a3), (7, 0, 0), (0, 0, a5), (0, 0, a6), (7, 0, 0), (7, 0, 0)] [] s = fX12_moves_124 kb a0 a1 a3 a5 a6 s := rfl
noncomputable def bX12_moves_173 : List En := [c_iconst 0]
theorem eX12_moves_173 (kb : Co) (a0 a1 a3 a5 a6 a7 : Int) (s : St) : exb (famH (tX12_moves_173 kb) kb) 174 bX12_moves_173 [(3, 12, a0), (0, 0, a1), (7, 0, 0), (0, 0, a3), (7, 0, 0), (0, 0, a5), (0, 0, a6), (0, 0, a7), (7, 0, 0)] [] s = fX12_moves_173 kb a0 a1 a3 a5 a6 a7 s := rfl
noncomputable def bX12_moves_174 : List En := [c_istore 8, c_iload 8, c_if .eq 28 206, c_iload 7, c_aload_n 0, c_getC 117 12 138 38, c_iload_n 3, c_iald 138 120, c_icmp .le 17 206, c_iload 5, c_iload 7, c_icmp .lt 10 206, c_iload 7, c_iconst 1, c_isub, c_goto 5 208]
theorem eX12_moves_174 (kb : Co) (a0 a1 a3 a5 a6 a7 y0 : Int) (s : St) : exb (famH (tX12_moves_174 kb) kb) 0 bX12_moves_174 [(3, 12, a0), (0, 0, a1), (7, 0, 0), (0, 0, a3), (7, 0, 0), (0, 0, a5), (0, 0, a6), (0, 0, a7), (7, 0, 0)] [(0, 0, y0)] s = fX12_moves_174 kb a0 a1 a3 a5 a6 a7 y0 s := rfl
noncomputable def bX12_moves_206 : List En := [c_iload 5]
theorem eX12_moves_206 (kb : Co) (a0 a1 a3 a5 a6 : Int) (s : St) : exb (famH (tX12_moves_206 kb) kb) 208 bX12_moves_206 [(3, 12, a0), (0, 0, a1), (7, 0, 0), (0, 0, a3), (7, 0, 0), (0, 0, a5), (0, 0, a6), (7, 0, 0), (7, 0, 0)] [] s = fX12_moves_206 kb a0 a1 a3 a5 a6 s := rfl
noncomputable def bX12_moves_208 : List En := [c_istore 5, c_iinc 6 1, c_goto (-89) 124]
theorem eX12_moves_208 (kb : Co) (a0 a1 a3 a6 y0 : Int) (s : St) : exb (famH (tX12_moves_208 kb) kb) 0 bX12_moves_208 [(3, 12, a0), (0, 0, a1), (7, 0, 0), (0, 0, a3), (7, 0, 0), (7, 0, 0), (0, 0, a6), (7, 0, 0), (7, 0, 0)] [(0, 0, y0)] s = fX12_moves_208 kb a0 a1 a3 a6 y0 s := rfl
noncomputable def bX12_moves_216 : List En := [c_iconst 0, c_istore 6]
theorem eX12_moves_216 (kb : Co) (a0 a1 a3 a5 : Int) (s : St) : exb (famH (tX12_moves_216 kb) kb) 219 bX12_moves_216 [(3, 12, a0), (0, 0, a1), (7, 0, 0), (0, 0, a3), (7, 0, 0), (0, 0, a5), (7, 0, 0), (7, 0, 0), (7, 0, 0)] [] s = fX12_moves_216 kb a0 a1 a3 a5 s := rfl
noncomputable def bX12_moves_219 : List En := [c_iload 6, c_aload_n 0, c_getC 65 12 121 21, c_iload_n 1, c_iald 121 2, c_icmp .ge 67 294, c_aload_n 0, c_iload_n 1, c_iload 6, c_invv 258 [] gX12_cellOf mdX12_cellOf, c_istore 7, c_aload_n 0, c_getC 71 12 123 23, c_aload_n 0, c_getC 68 12 122 22, c_bipush 10, c_iload_n 1, c_imul, c_iload 6, c_iadd, c_iald 122 20, c_bald 123 12, c_if .eq 32 288, c_iload 7, c_aload_n 0, c_getC 117 12 138 38, c_iload_n 3, c_iald 138 120, c_icmp .le 21 288, c_iload 5, c_iload 7, c_icmp .lt 14 288, c_iload 7, c_istore 5, c_aload_n 0, c_getC 123 12 140 40, c_iload_n 3, c_iconst 1, c_bast 140 120]
theorem eX12_moves_219 (kb : Co) (a0 a1 a3 a5 a6 : Int) (s : St) : exb (famH (tX12_moves_219 kb) kb) 288 bX12_moves_219 [(3, 12, a0), (0, 0, a1), (7, 0, 0), (0, 0, a3), (7, 0, 0), (0, 0, a5), (0, 0, a6), (7, 0, 0), (7, 0, 0)] [] s = fX12_moves_219 kb a0 a1 a3 a5 a6 s := rfl
noncomputable def bX12_moves_288 : List En := [c_iinc 6 1, c_goto (-72) 219]
theorem eX12_moves_288 (kb : Co) (a0 a1 a3 a5 a6 : Int) (s : St) : exb (famH (tX12_moves_288 kb) kb) 0 bX12_moves_288 [(3, 12, a0), (0, 0, a1), (7, 0, 0), (0, 0, a3), (7, 0, 0), (0, 0, a5), (0, 0, a6), (7, 0, 0), (7, 0, 0)] [] s = fX12_moves_288 kb a0 a1 a3 a5 a6 s := rfl
noncomputable def bX12_moves_294 : List En := [c_aload_n 0, c_getC 117 12 138 38, c_iload_n 3, c_iload 5, c_aload_n 0, c_getC 117 12 138 38, c_iload_n 3, c_iald 138 120, c_icmp .le 8 315, c_iload 5, c_goto 9 321]
theorem eX12_moves_294 (kb : Co) (a0 a3 a5 : Int) (s : St) : exb (famH (tX12_moves_294 kb) kb) 0 bX12_moves_294 [(3, 12, a0), (7, 0, 0), (7, 0, 0), (0, 0, a3), (7, 0, 0), (0, 0, a5), (7, 0, 0), (7, 0, 0), (7, 0, 0)] [] s = fX12_moves_294 kb a0 a3 a5 s := rfl
noncomputable def bX12_moves_315 : List En := [c_aload_n 0, c_getC 117 12 138 38, c_iload_n 3, c_iald 138 120]
theorem eX12_moves_315 (kb : Co) (a0 a3 y0 y1 : Int) (s : St) : exb (famH (tX12_moves_315 kb) kb) 321 bX12_moves_315 [(3, 12, a0), (7, 0, 0), (7, 0, 0), (0, 0, a3), (7, 0, 0), (7, 0, 0), (7, 0, 0), (7, 0, 0), (7, 0, 0)] [(0, 0, y0), (3, 138, y1)] s = fX12_moves_315 kb a0 a3 y0 y1 s := rfl
noncomputable def bX12_moves_321 : List En := [c_iast 138 120, c_return]
theorem eX12_moves_321 (kb : Co) (y0 y1 y2 : Int) (s : St) : exb (famH (tX12_moves_321 kb) kb) 0 bX12_moves_321 [(7, 0, 0), (7, 0, 0), (7, 0, 0), (7, 0, 0), (7, 0, 0), (7, 0, 0), (7, 0, 0), (7, 0, 0), (7, 0, 0)] [(0, 0, y0), (0, 0, y1), (3, 138, y2)] s = fX12_moves_321 kb y0 y1 y2 s := rfl
-- FloatparadeModel.penalizes(III)V
noncomputable def bX12_penalizes_0 : List En := [c_iload_n 3, c_if .le 50 51, c_bipush 20, c_iload_n 1, c_imul, c_aload_n 0, c_getC 141 12 147 47, c_iload_n 1, c_iald 147 10, c_iadd, c_istore 4, c_aload_n 0, c_getC 144 12 148 48, c_iload 4, c_iload_n 2, c_iast 148 200, c_aload_n 0, c_getC 147 12 149 49, c_iload 4, c_iload_n 3, c_iast 149 200, c_aload_n 0, c_getC 150 12 150 50, c_iload 4, c_iconst 0, c_bast 150 200, c_aload_n 0, c_getC 141 12 147 47, c_iload_n 1, c_dup2, c_iald 147 10, c_iconst 1, c_iadd, c_iast 147 10]
theorem eX12_penalizes_0 (kb : Co) (a0 a1 a2 a3 : Int) (s : St) : exb (famH (tX12_penalizes_0 kb) kb) 51 bX12_penalizes_0 [(3, 12, a0), (0, 0, a1), (0, 0, a2), (0, 0, a3), (7, 0, 0)] [] s = fX12_penalizes_0 kb a0 a1 a2 a3 s := rfl
noncomputable def bX12_penalizes_51 : List En := [c_return]
theorem eX12_penalizes_51 (kb : Co) (s : St) : exb (famH (tX12_penalizes_51 kb) kb) 0 bX12_penalizes_51 [(7, 0, 0), (7, 0, 0), (7, 0, 0), (7, 0, 0), (7, 0, 0)] [] s = fX12_penalizes_51 kb s := rfl
-- FloatparadeModel.timeOf(I)I
noncomputable def bX12_timeOf_0 : List En := [c_aload_n 0, c_getC 132 12 144 44, c_iload_n 1, c_iald 144 10, c_iconst (-1), c_icmp .ne 7 14, c_iconst (-1), c_goto 18 29]
theorem eX12_timeOf_0 (kb : Co) (a0 a1 : Int) (s : St) : exb (famH (tX12_timeOf_0 kb) kb) 0 bX12_timeOf_0 [(3, 12, a0), (0, 0, a1)] [] s = fX12_timeOf_0 kb a0 a1 s := rfl
noncomputable def bX12_timeOf_14 : List En := [c_aload_n 0, c_getC 132 12 144 44, c_iload_n 1, c_iald 144 10, c_aload_n 0, c_getC 129 12 143 43, c_iload_n 1, c_iald 143 10, c_isub, c_iconst 1, c_iadd]
theorem eX12_timeOf_14 (kb : Co) (a0 a1 : Int) (s : St) : exb (famH (tX12_timeOf_14 kb) kb) 29 bX12_timeOf_14 [(3, 12, a0), (0, 0, a1)] [] s = fX12_timeOf_14 kb a0 a1 s := rfl
noncomputable def bX12_timeOf_29 : List En := [c_ireturn]
theorem eX12_timeOf_29 (kb : Co) (y0 : Int) (s : St) : exb (famH (tX12_timeOf_29 kb) kb) 0 bX12_timeOf_29 [(7, 0, 0), (7, 0, 0)] [(0, 0, y0)] s = fX12_timeOf_29 kb y0 s := rfl
-- FloatparadeModel.looksAtClocks(I)V
noncomputable def bX12_looksAtClocks_0 : List En := [c_aload_n 0, c_iload_n 1, c_invv 206 [] gX12_cells mdX12_cells, c_iconst 1, c_isub, c_istore_n 2, c_iconst 0, c_istore_n 3]
theorem eX12_looksAtClocks_0 (kb : Co) (a0 a1 : Int) (s : St) : exb (famH (tX12_looksAtClocks_0 kb) kb) 10 bX12_looksAtClocks_0 [(3, 12, a0), (0, 0, a1), (7, 0, 0), (7, 0, 0), (7, 0, 0), (7, 0, 0), (7, 0, 0), (7, 0, 0)] [] s = fX12_looksAtClocks_0 kb a0 a1 s := rfl
noncomputable def bX12_looksAtClocks_10 : List En := [c_iload_n 3, c_aload_n 0, c_getC 105 12 134 34, c_iload_n 1, c_iald 134 2, c_icmp .ge 260 277, c_bipush 60, c_iload_n 1, c_imul, c_iload_n 3, c_iadd, c_istore 4, c_aload_n 0, c_getC 108 12 135 35, c_iload 4, c_iald 135 120, c_istore 5, c_aload_n 0, c_getC 129 12 143 43, c_iload 5, c_aload_n 0, c_getC 129 12 143 43, c_iload 5, c_iald 143 10, c_iconst (-1), c_icmp .ne 22 73, c_aload_n 0, c_getC 117 12 138 38, c_iload 4, c_iald 138 120, c_if .lt 12 73, c_aload_n 0, c_getC 96 12 131 31, c_iload_n 1, c_iald 131 2, c_goto 10 80]
theorem eX12_looksAtClocks_10 (kb : Co) (a0 a1 a2 a3 : Int) (s : St) : exb (famH (tX12_looksAtClocks_10 kb) kb) 0 bX12_looksAtClocks_10 [(3, 12, a0), (0, 0, a1), (0, 0, a2), (0, 0, a3), (7, 0, 0), (7, 0, 0), (7, 0, 0), (7, 0, 0)] [] s = fX12_looksAtClocks_10 kb a0 a1 a2 a3 s := rfl
noncomputable def bX12_looksAtClocks_73 : List En := [c_aload_n 0, c_getC 129 12 143 43, c_iload 5, c_iald 143 10]
theorem eX12_looksAtClocks_73 (kb : Co) (a0 a1 a2 a3 a4 a5 y0 y1 : Int) (s : St) : exb (famH (tX12_looksAtClocks_73 kb) kb) 80 bX12_looksAtClocks_73 [(3, 12, a0), (0, 0, a1), (0, 0, a2), (0, 0, a3), (0, 0, a4), (0, 0, a5), (7, 0, 0), (7, 0, 0)] [(0, 0, y0), (3, 143, y1)] s = fX12_looksAtClocks_73 kb a0 a1 a2 a3 a4 a5 y0 y1 s := rfl
noncomputable def bX12_looksAtClocks_80 : List En := [c_iast 143 10, c_iload_n 3, c_aload_n 0, c_getC 105 12 134 34, c_iload_n 1, c_iald 134 2, c_iconst 1, c_isub, c_icmp .eq 17 107, c_aload_n 0, c_getC 108 12 135 35, c_iload 4, c_iconst 1, c_iadd, c_iald 135 120, c_iload 5, c_icmp .eq 7 111]
theorem eX12_looksAtClocks_80 (kb : Co) (a0 a1 a2 a3 a4 a5 y0 y1 y2 : Int) (s : St) : exb (famH (tX12_looksAtClocks_80 kb) kb) 107 bX12_looksAtClocks_80 [(3, 12, a0), (0, 0, a1), (0, 0, a2), (0, 0, a3), (0, 0, a4), (0, 0, a5), (7, 0, 0), (7, 0, 0)] [(0, 0, y0), (0, 0, y1), (3, 143, y2)] s = fX12_looksAtClocks_80 kb a0 a1 a2 a3 a4 a5 y0 y1 y2 s := rfl
noncomputable def bX12_looksAtClocks_107 : List En := [c_iconst 1, c_goto 4 112]
theorem eX12_looksAtClocks_107 (kb : Co) (a0 a1 a2 a3 a4 a5 : Int) (s : St) : exb (famH (tX12_looksAtClocks_107 kb) kb) 0 bX12_looksAtClocks_107 [(3, 12, a0), (0, 0, a1), (0, 0, a2), (0, 0, a3), (0, 0, a4), (0, 0, a5), (7, 0, 0), (7, 0, 0)] [] s = fX12_looksAtClocks_107 kb a0 a1 a2 a3 a4 a5 s := rfl
noncomputable def bX12_looksAtClocks_111 : List En := [c_iconst 0]
theorem eX12_looksAtClocks_111 (kb : Co) (a0 a1 a2 a3 a4 a5 : Int) (s : St) : exb (famH (tX12_looksAtClocks_111 kb) kb) 112 bX12_looksAtClocks_111 [(3, 12, a0), (0, 0, a1), (0, 0, a2), (0, 0, a3), (0, 0, a4), (0, 0, a5), (7, 0, 0), (7, 0, 0)] [] s = fX12_looksAtClocks_111 kb a0 a1 a2 a3 a4 a5 s := rfl
noncomputable def bX12_looksAtClocks_112 : List En := [c_istore 6, c_aload_n 0, c_getC 132 12 144 44, c_iload 5, c_iload 6, c_if .eq 32 154, c_aload_n 0, c_getC 132 12 144 44, c_iload 5, c_iald 144 10, c_iconst (-1), c_icmp .ne 21 154, c_aload_n 0, c_iload_n 1, c_iload_n 3, c_invv 251 [] gX12_isOut mdX12_isOut, c_if .eq 12 154, c_aload_n 0, c_getC 96 12 131 31, c_iload_n 1, c_iald 131 2, c_goto 10 161]
theorem eX12_looksAtClocks_112 (kb : Co) (a0 a1 a2 a3 a4 a5 y0 : Int) (s : St) : exb (famH (tX12_looksAtClocks_112 kb) kb) 0 bX12_looksAtClocks_112 [(3, 12, a0), (0, 0, a1), (0, 0, a2), (0, 0, a3), (0, 0, a4), (0, 0, a5), (7, 0, 0), (7, 0, 0)] [(0, 0, y0)] s = fX12_looksAtClocks_112 kb a0 a1 a2 a3 a4 a5 y0 s := rfl
noncomputable def bX12_looksAtClocks_154 : List En := [c_aload_n 0, c_getC 132 12 144 44, c_iload 5, c_iald 144 10]
theorem eX12_looksAtClocks_154 (kb : Co) (a0 a1 a2 a3 a4 a5 y0 y1 : Int) (s : St) : exb (famH (tX12_looksAtClocks_154 kb) kb) 161 bX12_looksAtClocks_154 [(3, 12, a0), (0, 0, a1), (0, 0, a2), (0, 0, a3), (0, 0, a4), (0, 0, a5), (7, 0, 0), (7, 0, 0)] [(0, 0, y0), (3, 144, y1)] s = fX12_looksAtClocks_154 kb a0 a1 a2 a3 a4 a5 y0 y1 s := rfl
noncomputable def bX12_looksAtClocks_161 : List En := [c_iast 144 10, c_iload_n 3, c_if .le 62 225, c_aload_n 0, c_getC 108 12 135 35, c_iload 4, c_iconst 1, c_isub, c_iald 135 120, c_iload 5, c_icmp .ne 48 225, c_aload_n 0, c_getC 117 12 138 38, c_iload 4, c_iald 138 120, c_iconst 0, c_iload_n 2, c_invs 159 [] gX12_in mdX12_in, c_if .eq 33 225, c_aload_n 0, c_getC 117 12 138 38, c_iload_n 3, c_if .le 10 210, c_iload 4, c_iconst 1, c_isub, c_goto 5 212]
theorem eX12_looksAtClocks_161 (kb : Co) (a0 a1 a2 a3 a4 a5 y0 y1 y2 : Int) (s : St) : exb (famH (tX12_looksAtClocks_161 kb) kb) 0 bX12_looksAtClocks_161 [(3, 12, a0), (0, 0, a1), (0, 0, a2), (0, 0, a3), (0, 0, a4), (0, 0, a5), (7, 0, 0), (7, 0, 0)] [(0, 0, y0), (0, 0, y1), (3, 144, y2)] s = fX12_looksAtClocks_161 kb a0 a1 a2 a3 a4 a5 y0 y1 y2 s := rfl
noncomputable def bX12_looksAtClocks_210 : List En := [c_iload 4]
theorem eX12_looksAtClocks_210 (kb : Co) (a0 a1 a2 a3 a4 a5 y0 : Int) (s : St) : exb (famH (tX12_looksAtClocks_210 kb) kb) 212 bX12_looksAtClocks_210 [(3, 12, a0), (0, 0, a1), (0, 0, a2), (0, 0, a3), (0, 0, a4), (0, 0, a5), (7, 0, 0), (7, 0, 0)] [(3, 138, y0)] s = fX12_looksAtClocks_210 kb a0 a1 a2 a3 a4 a5 y0 s := rfl
noncomputable def bX12_looksAtClocks_212 : List En := [c_iald 138 120, c_iconst 0, c_iload_n 2, c_invs 159 [] gX12_in mdX12_in, c_if .eq 7 225, c_iconst 1, c_goto 4 226]
theorem eX12_looksAtClocks_212 (kb : Co) (a0 a1 a2 a3 a4 a5 y0 y1 : Int) (s : St) : exb (famH (tX12_looksAtClocks_212 kb) kb) 0 bX12_looksAtClocks_212 [(3, 12, a0), (0, 0, a1), (0, 0, a2), (0, 0, a3), (0, 0, a4), (0, 0, a5), (7, 0, 0), (7, 0, 0)] [(0, 0, y0), (3, 138, y1)] s = fX12_looksAtClocks_212 kb a0 a1 a2 a3 a4 a5 y0 y1 s := rfl
noncomputable def bX12_looksAtClocks_225 : List En := [c_iconst 0]
theorem eX12_looksAtClocks_225 (kb : Co) (a0 a1 a2 a3 a4 a5 : Int) (s : St) : exb (famH (tX12_looksAtClocks_225 kb) kb) 226 bX12_looksAtClocks_225 [(3, 12, a0), (0, 0, a1), (0, 0, a2), (0, 0, a3), (0, 0, a4), (0, 0, a5), (7, 0, 0), (7, 0, 0)] [] s = fX12_looksAtClocks_225 kb a0 a1 a2 a3 a4 a5 s := rfl
noncomputable def bX12_looksAtClocks_226 : List En := [c_istore 7, c_aload_n 0, c_getC 135 12 145 45, c_iload 5, c_dup2, c_iald 145 10, c_iload 7, c_if .eq 30 268, c_aload_n 0, c_iload 4, c_iconst 1, c_isub, c_invv 248 [] gX12_tailOf mdX12_tailOf, c_aload_n 0, c_getC 117 12 138 38, c_iload 4, c_iald 138 120, c_isub, c_iconst 1, c_isub, c_bipush 6, c_icmp .le 7 268, c_iconst 1, c_goto 4 269]
theorem eX12_looksAtClocks_226 (kb : Co) (a0 a1 a2 a3 a4 a5 y0 : Int) (s : St) : exb (famH (tX12_looksAtClocks_226 kb) kb) 0 bX12_looksAtClocks_226 [(3, 12, a0), (0, 0, a1), (0, 0, a2), (0, 0, a3), (0, 0, a4), (0, 0, a5), (7, 0, 0), (7, 0, 0)] [(0, 0, y0)] s = fX12_looksAtClocks_226 kb a0 a1 a2 a3 a4 a5 y0 s := rfl
noncomputable def bX12_looksAtClocks_268 : List En := [c_iconst 0]
theorem eX12_looksAtClocks_268 (kb : Co) (a0 a1 a2 a3 y0 y1 y2 : Int) (s : St) : exb (famH (tX12_looksAtClocks_268 kb) kb) 269 bX12_looksAtClocks_268 [(3, 12, a0), (0, 0, a1), (0, 0, a2), (0, 0, a3), (7, 0, 0), (7, 0, 0), (7, 0, 0), (7, 0, 0)] [(0, 0, y0), (0, 0, y1), (3, 145, y2)] s = fX12_looksAtClocks_268 kb a0 a1 a2 a3 y0 y1 y2 s := rfl
noncomputable def bX12_looksAtClocks_269 : List En := [c_iadd, c_iast 145 10, c_iinc 3 1, c_goto (-264) 10]
theorem eX12_looksAtClocks_269 (kb : Co) (a0 a1 a2 a3 y0 y1 y2 y3 : Int) (s : St) : exb (famH (tX12_looksAtClocks_269 kb) kb) 0 bX12_looksAtClocks_269 [(3, 12, a0), (0, 0, a1), (0, 0, a2), (0, 0, a3), (7, 0, 0), (7, 0, 0), (7, 0, 0), (7, 0, 0)] [(0, 0, y0), (0, 0, y1), (0, 0, y2), (3, 145, y3)] s = fX12_looksAtClocks_269 kb a0 a1 a2 a3 y0 y1 y2 y3 s := rfl
noncomputable def bX12_looksAtClocks_277 : List En := [c_return]
theorem eX12_looksAtClocks_277 (kb : Co) (s : St) : exb (famH (tX12_looksAtClocks_277 kb) kb) 0 bX12_looksAtClocks_277 [(7, 0, 0), (7, 0, 0), (7, 0, 0), (7, 0, 0), (7, 0, 0), (7, 0, 0), (7, 0, 0), (7, 0, 0)] [] s = fX12_looksAtClocks_277 kb s := rfl
-- FloatparadeModel.goes(I)Z
noncomputable def bX12_goes_0 : List En := [c_aload_n 0, c_getC 96 12 131 31, c_iload_n 1, c_dup2, c_iald 131 2, c_iconst 1, c_iadd, c_iast 131 2, c_iconst 0, c_istore_n 2]
theorem eX12_goes_0 (kb : Co) (a0 a1 : Int) (s : St) : exb (famH (tX12_goes_0 kb) kb) 12 bX12_goes_0 [(3, 12, a0), (0, 0, a1), (7, 0, 0)] [] s = fX12_goes_0 kb a0 a1 s := rfl
noncomputable def bX12_goes_12 : List En := [c_iload_n 2, c_aload_n 0, c_getC 105 12 134 34, c_iload_n 1, c_iald 134 2, c_icmp .ge 24 43, c_aload_n 0, c_iload_n 1, c_iload_n 2, c_invv 251 [] gX12_isOut mdX12_isOut, c_if .ne 9 37, c_aload_n 0, c_iload_n 1, c_iload_n 2, c_invv 261 [] gX12_moves mdX12_moves]
theorem eX12_goes_12 (kb : Co) (a0 a1 a2 : Int) (s : St) : exb (famH (tX12_goes_12 kb) kb) 37 bX12_goes_12 [(3, 12, a0), (0, 0, a1), (0, 0, a2)] [] s = fX12_goes_12 kb a0 a1 a2 s := rfl
noncomputable def bX12_goes_37 : List En := [c_iinc 2 1, c_goto (-28) 12]
theorem eX12_goes_37 (kb : Co) (a0 a1 a2 : Int) (s : St) : exb (famH (tX12_goes_37 kb) kb) 0 bX12_goes_37 [(3, 12, a0), (0, 0, a1), (0, 0, a2)] [] s = fX12_goes_37 kb a0 a1 a2 s := rfl
noncomputable def bX12_goes_43 : List En := [c_aload_n 0, c_iload_n 1, c_invv 265 [] gX12_looksAtClocks mdX12_looksAtClocks, c_bipush 60, c_iload_n 1, c_imul, c_istore_n 2]
theorem eX12_goes_43 (kb : Co) (a0 a1 : Int) (s : St) : exb (famH (tX12_goes_43 kb) kb) 53 bX12_goes_43 [(3, 12, a0), (0, 0, a1), (7, 0, 0)] [] s = fX12_goes_43 kb a0 a1 s := rfl
noncomputable def bX12_goes_53 : List En := [c_iload_n 2, c_bipush 60, c_iload_n 1, c_imul, c_aload_n 0, c_getC 105 12 134 34, c_iload_n 1, c_iald 134 2, c_iadd, c_icmp .ge 32 97, c_aload_n 0, c_getC 120 12 139 39, c_iload_n 2, c_dup2, c_iald 139 120, c_aload_n 0, c_getC 120 12 139 39, c_iload_n 2, c_iald 139 120, c_if .le 7 88, c_iconst 1, c_goto 4 89]
theorem eX12_goes_53 (kb : Co) (a0 a1 a2 : Int) (s : St) : exb (famH (tX12_goes_53 kb) kb) 0 bX12_goes_53 [(3, 12, a0), (0, 0, a1), (0, 0, a2)] [] s = fX12_goes_53 kb a0 a1 a2 s := rfl
noncomputable def bX12_goes_88 : List En := [c_iconst 0]
theorem eX12_goes_88 (kb : Co) (a0 a1 a2 y0 y1 y2 : Int) (s : St) : exb (famH (tX12_goes_88 kb) kb) 89 bX12_goes_88 [(3, 12, a0), (0, 0, a1), (0, 0, a2)] [(0, 0, y0), (0, 0, y1), (3, 139, y2)] s = fX12_goes_88 kb a0 a1 a2 y0 y1 y2 s := rfl
noncomputable def bX12_goes_89 : List En := [c_isub, c_iast 139 120, c_iinc 2 1, c_goto (-41) 53]
theorem eX12_goes_89 (kb : Co) (a0 a1 a2 y0 y1 y2 y3 : Int) (s : St) : exb (famH (tX12_goes_89 kb) kb) 0 bX12_goes_89 [(3, 12, a0), (0, 0, a1), (0, 0, a2)] [(0, 0, y0), (0, 0, y1), (0, 0, y2), (3, 139, y3)] s = fX12_goes_89 kb a0 a1 a2 y0 y1 y2 y3 s := rfl
noncomputable def bX12_goes_97 : List En := [c_bipush 12, c_iload_n 1, c_imul, c_istore_n 2]
theorem eX12_goes_97 (kb : Co) (a0 a1 : Int) (s : St) : exb (famH (tX12_goes_97 kb) kb) 102 bX12_goes_97 [(3, 12, a0), (0, 0, a1), (7, 0, 0)] [] s = fX12_goes_97 kb a0 a1 s := rfl
noncomputable def bX12_goes_102 : List En := [c_iload_n 2, c_bipush 12, c_iload_n 1, c_imul, c_bipush 12, c_iadd, c_icmp .ge 32 142, c_aload_n 0, c_getC 126 12 141 41, c_iload_n 2, c_dup2, c_iald 141 24, c_aload_n 0, c_getC 126 12 141 41, c_iload_n 2, c_iald 141 24, c_if .le 7 133, c_iconst 1, c_goto 4 134]
theorem eX12_goes_102 (kb : Co) (a0 a1 a2 : Int) (s : St) : exb (famH (tX12_goes_102 kb) kb) 0 bX12_goes_102 [(3, 12, a0), (0, 0, a1), (0, 0, a2)] [] s = fX12_goes_102 kb a0 a1 a2 s := rfl
noncomputable def bX12_goes_133 : List En := [c_iconst 0]
theorem eX12_goes_133 (kb : Co) (a0 a1 a2 y0 y1 y2 : Int) (s : St) : exb (famH (tX12_goes_133 kb) kb) 134 bX12_goes_133 [(3, 12, a0), (0, 0, a1), (0, 0, a2)] [(0, 0, y0), (0, 0, y1), (3, 141, y2)] s = fX12_goes_133 kb a0 a1 a2 y0 y1 y2 s := rfl
noncomputable def bX12_goes_134 : List En := [c_isub, c_iast 141 24, c_iinc 2 1, c_goto (-37) 102]
theorem eX12_goes_134 (kb : Co) (a0 a1 a2 y0 y1 y2 y3 : Int) (s : St) : exb (famH (tX12_goes_134 kb) kb) 0 bX12_goes_134 [(3, 12, a0), (0, 0, a1), (0, 0, a2)] [(0, 0, y0), (0, 0, y1), (0, 0, y2), (3, 141, y3)] s = fX12_goes_134 kb a0 a1 a2 y0 y1 y2 y3 s := rfl
noncomputable def bX12_goes_142 : List En := [c_aload_n 0, c_iload_n 1, c_aload_n 0, c_getC 105 12 134 34, c_iload_n 1, c_iald 134 2, c_iconst 1, c_isub, c_invv 251 [] gX12_isOut mdX12_isOut, c_if .ne 7 162, c_iconst 1, c_goto 4 163]
theorem eX12_goes_142 (kb : Co) (a0 a1 : Int) (s : St) : exb (famH (tX12_goes_142 kb) kb) 0 bX12_goes_142 [(3, 12, a0), (0, 0, a1), (7, 0, 0)] [] s = fX12_goes_142 kb a0 a1 s := rfl
noncomputable def bX12_goes_162 : List En := [c_iconst 0]
theorem eX12_goes_162 (kb : Co) (s : St) : exb (famH (tX12_goes_162 kb) kb) 163 bX12_goes_162 [(7, 0, 0), (7, 0, 0), (7, 0, 0)] [] s = fX12_goes_162 kb s := rfl
noncomputable def bX12_goes_163 : List En := [c_zreturn]
theorem eX12_goes_163 (kb : Co) (y0 : Int) (s : St) : exb (famH (tX12_goes_163 kb) kb) 0 bX12_goes_163 [(7, 0, 0), (7, 0, 0), (7, 0, 0)] [(0, 0, y0)] s = fX12_goes_163 kb y0 s := rfl
-- FloatparadeModel.ends(I)V
noncomputable def bX12_ends_0 : List En := [c_aload_n 0, c_getC 93 12 130 30, c_iload_n 1, c_iconst 2, c_iast 130 2, c_iconst 0, c_istore_n 2]
theorem eX12_ends_0 (kb : Co) (a0 a1 : Int) (s : St) : exb (famH (tX12_ends_0 kb) kb) 9 bX12_ends_0 [(3, 12, a0), (0, 0, a1), (7, 0, 0)] [] s = fX12_ends_0 kb a0 a1 s := rfl
noncomputable def bX12_ends_9 : List En := [c_iload_n 2, c_aload_n 0, c_getI 156 12 1, c_icmp .ge 80 94, c_aload_n 0, c_getC 7 12 102 2, c_iload_n 2, c_iald 102 10, c_iload_n 1, c_icmp .ne 64 88, c_aload_n 0, c_getC 74 12 124 24, c_iload_n 2, c_bald 124 10, c_if .eq 55 88, c_aload_n 0, c_iload_n 2, c_iconst 1, c_iconst 2, c_aload_n 0, c_getC 99 12 132 32, c_iload_n 1, c_iald 132 2, c_aload_n 0, c_iload_n 2, c_invv 268 [] gX12_timeOf mdX12_timeOf, c_isub, c_imul, c_invv 271 [] gX12_penalizes mdX12_penalizes, c_aload_n 0, c_iload_n 2, c_iconst 2, c_iconst 2, c_aload_n 0, c_iload_n 2, c_invv 268 [] gX12_timeOf mdX12_timeOf, c_aload_n 0, c_getC 102 12 133 33, c_iload_n 1, c_iald 133 2, c_isub, c_imul, c_invv 271 [] gX12_penalizes mdX12_penalizes, c_aload_n 0, c_iload_n 2, c_iconst 3, c_aload_n 0, c_getC 135 12 145 45, c_iload_n 2, c_iald 145 10, c_invv 271 [] gX12_penalizes mdX12_penalizes]
theorem eX12_ends_9 (kb : Co) (a0 a1 a2 : Int) (s : St) : exb (famH (tX12_ends_9 kb) kb) 88 bX12_ends_9 [(3, 12, a0), (0, 0, a1), (0, 0, a2)] [] s = fX12_ends_9 kb a0 a1 a2 s := rfl
noncomputable def bX12_ends_88 : List En := [c_iinc 2 1, c_goto (-82) 9]
theorem eX12_ends_88 (kb : Co) (a0 a1 a2 : Int) (s : St) : exb (famH (tX12_ends_88 kb) kb) 0 bX12_ends_88 [(3, 12, a0), (0, 0, a1), (0, 0, a2)] [] s = fX12_ends_88 kb a0 a1 a2 s := rfl
noncomputable def bX12_ends_94 : List En := [c_return]
theorem eX12_ends_94 (kb : Co) (s : St) : exb (famH (tX12_ends_94 kb) kb) 0 bX12_ends_94 [(7, 0, 0), (7, 0, 0), (7, 0, 0)] [] s = fX12_ends_94 kb s := rfl
-- FloatparadeModel.march(II)I
noncomputable def bX12_march_0 : List En := [c_iload_n 1, c_invs 163 [] gX12_isLeague mdX12_isLeague, c_if .eq 17 21, c_iload_n 2, c_iconst 1, c_bipush 60, c_invs 159 [] gX12_in mdX12_in, c_if .eq 7 21, c_iconst 1, c_goto 4 22]
theorem eX12_march_0 (kb : Co) (a0 a1 a2 : Int) (s : St) : exb (famH (tX12_march_0 kb) kb) 0 bX12_march_0 [(3, 12, a0), (0, 0, a1), (0, 0, a2), (7, 0, 0), (7, 0, 0)] [] s = fX12_march_0 kb a0 a1 a2 s := rfl
noncomputable def bX12_march_21 : List En := [c_iconst 0]
theorem eX12_march_21 (kb : Co) (a0 a1 a2 : Int) (s : St) : exb (famH (tX12_march_21 kb) kb) 22 bX12_march_21 [(3, 12, a0), (0, 0, a1), (0, 0, a2), (7, 0, 0), (7, 0, 0)] [] s = fX12_march_21 kb a0 a1 a2 s := rfl
noncomputable def bX12_march_22 : List En := [c_istore_n 3, c_aload_n 0, c_iload_n 3, c_if .ne 7 32, c_iconst 1, c_goto 18 47]
theorem eX12_march_22 (kb : Co) (a0 a1 a2 y0 : Int) (s : St) : exb (famH (tX12_march_22 kb) kb) 0 bX12_march_22 [(3, 12, a0), (0, 0, a1), (0, 0, a2), (7, 0, 0), (7, 0, 0)] [(0, 0, y0)] s = fX12_march_22 kb a0 a1 a2 y0 s := rfl
noncomputable def bX12_march_32 : List En := [c_aload_n 0, c_getC 93 12 130 30, c_iload_n 1, c_iald 130 2, c_iconst 1, c_icmp .ne 7 46, c_iconst 0, c_goto 4 47]
theorem eX12_march_32 (kb : Co) (a0 a1 a2 y0 : Int) (s : St) : exb (famH (tX12_march_32 kb) kb) 0 bX12_march_32 [(3, 12, a0), (0, 0, a1), (0, 0, a2), (7, 0, 0), (7, 0, 0)] [(3, 12, y0)] s = fX12_march_32 kb a0 a1 a2 y0 s := rfl
noncomputable def bX12_march_46 : List En := [c_iconst 2]
theorem eX12_march_46 (kb : Co) (a0 a1 a2 y0 : Int) (s : St) : exb (famH (tX12_march_46 kb) kb) 47 bX12_march_46 [(3, 12, a0), (0, 0, a1), (0, 0, a2), (7, 0, 0), (7, 0, 0)] [(3, 12, y0)] s = fX12_march_46 kb a0 a1 a2 y0 s := rfl
noncomputable def bX12_march_47 : List En := [c_invv 167 [] gX12_holds mdX12_holds, c_if .ne 5 55, c_iconst 0, c_ireturn]
theorem eX12_march_47 (kb : Co) (a0 a1 a2 y0 y1 : Int) (s : St) : exb (famH (tX12_march_47 kb) kb) 0 bX12_march_47 [(3, 12, a0), (0, 0, a1), (0, 0, a2), (7, 0, 0), (7, 0, 0)] [(0, 0, y0), (3, 12, y1)] s = fX12_march_47 kb a0 a1 a2 y0 y1 s := rfl
noncomputable def bX12_march_55 : List En := [c_iconst 0, c_istore 4]
theorem eX12_march_55 (kb : Co) (a0 a1 a2 : Int) (s : St) : exb (famH (tX12_march_55 kb) kb) 58 bX12_march_55 [(3, 12, a0), (0, 0, a1), (0, 0, a2), (7, 0, 0), (7, 0, 0)] [] s = fX12_march_55 kb a0 a1 a2 s := rfl
noncomputable def bX12_march_58 : List En := [c_iload 4, c_iload_n 2, c_icmp .ge 32 93, c_aload_n 0, c_getC 93 12 130 30, c_iload_n 1, c_iald 130 2, c_iconst 1, c_icmp .ne 22 93, c_aload_n 0, c_iload_n 1, c_invv 274 [] gX12_goes mdX12_goes, c_if .ne 8 87, c_aload_n 0, c_iload_n 1, c_invv 277 [] gX12_ends mdX12_ends]
theorem eX12_march_58 (kb : Co) (a0 a1 a2 a4 : Int) (s : St) : exb (famH (tX12_march_58 kb) kb) 87 bX12_march_58 [(3, 12, a0), (0, 0, a1), (0, 0, a2), (7, 0, 0), (0, 0, a4)] [] s = fX12_march_58 kb a0 a1 a2 a4 s := rfl
noncomputable def bX12_march_87 : List En := [c_iinc 4 1, c_goto (-32) 58]
theorem eX12_march_87 (kb : Co) (a0 a1 a2 a4 : Int) (s : St) : exb (famH (tX12_march_87 kb) kb) 0 bX12_march_87 [(3, 12, a0), (0, 0, a1), (0, 0, a2), (7, 0, 0), (0, 0, a4)] [] s = fX12_march_87 kb a0 a1 a2 a4 s := rfl
noncomputable def bX12_march_93 : List En := [c_aload_n 0, c_getC 96 12 131 31, c_iload_n 1, c_iald 131 2, c_ireturn]
theorem eX12_march_93 (kb : Co) (a0 a1 : Int) (s : St) : exb (famH (tX12_march_93 kb) kb) 0 bX12_march_93 [(3, 12, a0), (0, 0, a1), (7, 0, 0), (7, 0, 0), (7, 0, 0)] [] s = fX12_march_93 kb a0 a1 s := rfl
-- FloatparadeModel.part(III)I
noncomputable def bX12_part_0 : List En := [c_iload_n 1, c_invs 163 [] gX12_isLeague mdX12_isLeague, c_if .eq 16 20, c_iload_n 3, c_iconst 0, c_iconst 4, c_invs 159 [] gX12_in mdX12_in, c_if .eq 7 20, c_iconst 1, c_goto 4 21]
theorem eX12_part_0 (kb : Co) (a0 a1 a2 a3 : Int) (s : St) : exb (famH (tX12_part_0 kb) kb) 0 bX12_part_0 [(3, 12, a0), (0, 0, a1), (0, 0, a2), (0, 0, a3), (7, 0, 0), (7, 0, 0), (7, 0, 0)] [] s = fX12_part_0 kb a0 a1 a2 a3 s := rfl
noncomputable def bX12_part_20 : List En := [c_iconst 0]
theorem eX12_part_20 (kb : Co) (a0 a1 a2 a3 : Int) (s : St) : exb (famH (tX12_part_20 kb) kb) 21 bX12_part_20 [(3, 12, a0), (0, 0, a1), (0, 0, a2), (0, 0, a3), (7, 0, 0), (7, 0, 0), (7, 0, 0)] [] s = fX12_part_20 kb a0 a1 a2 a3 s := rfl
noncomputable def bX12_part_21 : List En := [c_istore 4, c_iload 4, c_if .eq 16 41, c_aload_n 0, c_getC 93 12 130 30, c_iload_n 1, c_iald 130 2, c_if .le 7 41, c_iconst 1, c_goto 4 42]
theorem eX12_part_21 (kb : Co) (a0 a1 a2 a3 y0 : Int) (s : St) : exb (famH (tX12_part_21 kb) kb) 0 bX12_part_21 [(3, 12, a0), (0, 0, a1), (0, 0, a2), (0, 0, a3), (7, 0, 0), (7, 0, 0), (7, 0, 0)] [(0, 0, y0)] s = fX12_part_21 kb a0 a1 a2 a3 y0 s := rfl
noncomputable def bX12_part_41 : List En := [c_iconst 0]
theorem eX12_part_41 (kb : Co) (a0 a1 a2 a3 a4 : Int) (s : St) : exb (famH (tX12_part_41 kb) kb) 42 bX12_part_41 [(3, 12, a0), (0, 0, a1), (0, 0, a2), (0, 0, a3), (0, 0, a4), (7, 0, 0), (7, 0, 0)] [] s = fX12_part_41 kb a0 a1 a2 a3 a4 s := rfl
noncomputable def bX12_part_42 : List En := [c_istore 5, c_aload_n 0, c_iload 4, c_if .ne 7 54, c_iconst 1, c_goto 33 84]
theorem eX12_part_42 (kb : Co) (a0 a1 a2 a3 a4 y0 : Int) (s : St) : exb (famH (tX12_part_42 kb) kb) 0 bX12_part_42 [(3, 12, a0), (0, 0, a1), (0, 0, a2), (0, 0, a3), (0, 0, a4), (7, 0, 0), (7, 0, 0)] [(0, 0, y0)] s = fX12_part_42 kb a0 a1 a2 a3 a4 y0 s := rfl
noncomputable def bX12_part_54 : List En := [c_iload 5, c_if .ne 7 63, c_iconst 2, c_goto 24 84]
theorem eX12_part_54 (kb : Co) (a0 a1 a2 a3 a5 y0 : Int) (s : St) : exb (famH (tX12_part_54 kb) kb) 0 bX12_part_54 [(3, 12, a0), (0, 0, a1), (0, 0, a2), (0, 0, a3), (7, 0, 0), (0, 0, a5), (7, 0, 0)] [(3, 12, y0)] s = fX12_part_54 kb a0 a1 a2 a3 a5 y0 s := rfl
noncomputable def bX12_part_63 : List En := [c_iload_n 2, c_iconst 0, c_aload_n 0, c_getC 105 12 134 34, c_iload_n 1, c_iald 134 2, c_iconst 1, c_isub, c_invs 159 [] gX12_in mdX12_in, c_if .eq 7 83, c_iconst 0, c_goto 4 84]
theorem eX12_part_63 (kb : Co) (a0 a1 a2 a3 y0 : Int) (s : St) : exb (famH (tX12_part_63 kb) kb) 0 bX12_part_63 [(3, 12, a0), (0, 0, a1), (0, 0, a2), (0, 0, a3), (7, 0, 0), (7, 0, 0), (7, 0, 0)] [(3, 12, y0)] s = fX12_part_63 kb a0 a1 a2 a3 y0 s := rfl
noncomputable def bX12_part_83 : List En := [c_iconst 3]
theorem eX12_part_83 (kb : Co) (a0 a1 a2 a3 y0 : Int) (s : St) : exb (famH (tX12_part_83 kb) kb) 84 bX12_part_83 [(3, 12, a0), (0, 0, a1), (0, 0, a2), (0, 0, a3), (7, 0, 0), (7, 0, 0), (7, 0, 0)] [(3, 12, y0)] s = fX12_part_83 kb a0 a1 a2 a3 y0 s := rfl
noncomputable def bX12_part_84 : List En := [c_invv 167 [] gX12_holds mdX12_holds, c_if .ne 5 92, c_iconst 0, c_ireturn]
theorem eX12_part_84 (kb : Co) (a0 a1 a2 a3 y0 y1 : Int) (s : St) : exb (famH (tX12_part_84 kb) kb) 0 bX12_part_84 [(3, 12, a0), (0, 0, a1), (0, 0, a2), (0, 0, a3), (7, 0, 0), (7, 0, 0), (7, 0, 0)] [(0, 0, y0), (3, 12, y1)] s = fX12_part_84 kb a0 a1 a2 a3 y0 y1 s := rfl
noncomputable def bX12_part_92 : List En := [c_bipush 60, c_iload_n 1, c_imul, c_iload_n 2, c_iadd, c_istore 6, c_iload_n 3, c_iconst 3, c_icmp .ge 40 142, c_iload_n 3, c_if .ne 13 119, c_aload_n 0, c_getC 108 12 135 35, c_iload 6, c_iald 135 120, c_goto 25 141]
theorem eX12_part_92 (kb : Co) (a0 a1 a2 a3 : Int) (s : St) : exb (famH (tX12_part_92 kb) kb) 0 bX12_part_92 [(3, 12, a0), (0, 0, a1), (0, 0, a2), (0, 0, a3), (7, 0, 0), (7, 0, 0), (7, 0, 0)] [] s = fX12_part_92 kb a0 a1 a2 a3 s := rfl
noncomputable def bX12_part_119 : List En := [c_iload_n 3, c_iconst 1, c_icmp .ne 13 134, c_aload_n 0, c_getC 111 12 136 36, c_iload 6, c_iald 136 120, c_goto 10 141]
theorem eX12_part_119 (kb : Co) (a0 a3 a6 : Int) (s : St) : exb (famH (tX12_part_119 kb) kb) 0 bX12_part_119 [(3, 12, a0), (7, 0, 0), (7, 0, 0), (0, 0, a3), (7, 0, 0), (7, 0, 0), (0, 0, a6)] [] s = fX12_part_119 kb a0 a3 a6 s := rfl
noncomputable def bX12_part_134 : List En := [c_aload_n 0, c_getC 117 12 138 38, c_iload 6, c_iald 138 120]
theorem eX12_part_134 (kb : Co) (a0 a6 : Int) (s : St) : exb (famH (tX12_part_134 kb) kb) 141 bX12_part_134 [(3, 12, a0), (7, 0, 0), (7, 0, 0), (7, 0, 0), (7, 0, 0), (7, 0, 0), (0, 0, a6)] [] s = fX12_part_134 kb a0 a6 s := rfl
noncomputable def bX12_part_141 : List En := [c_ireturn]
theorem eX12_part_141 (kb : Co) (y0 : Int) (s : St) : exb (famH (tX12_part_141 kb) kb) 0 bX12_part_141 [(7, 0, 0), (7, 0, 0), (7, 0, 0), (7, 0, 0), (7, 0, 0), (7, 0, 0), (7, 0, 0)] [(0, 0, y0)] s = fX12_part_141 kb y0 s := rfl
noncomputable def bX12_part_142 : List En := [c_iload_n 3, c_iconst 3, c_icmp .ne 13 157, c_aload_n 0, c_getC 114 12 137 37, c_iload 6, c_iald 137 120, c_goto 17 171]
theorem eX12_part_142 (kb : Co) (a0 a1 a2 a3 a6 : Int) (s : St) : exb (famH (tX12_part_142 kb) kb) 0 bX12_part_142 [(3, 12, a0), (0, 0, a1), (0, 0, a2), (0, 0, a3), (7, 0, 0), (7, 0, 0), (0, 0, a6)] [] s = fX12_part_142 kb a0 a1 a2 a3 a6 s := rfl
noncomputable def bX12_part_157 : List En := [c_aload_n 0, c_iload_n 1, c_iload_n 2, c_invv 251 [] gX12_isOut mdX12_isOut, c_if .eq 7 170, c_iconst 1, c_goto 4 171]
theorem eX12_part_157 (kb : Co) (a0 a1 a2 : Int) (s : St) : exb (famH (tX12_part_157 kb) kb) 0 bX12_part_157 [(3, 12, a0), (0, 0, a1), (0, 0, a2), (7, 0, 0), (7, 0, 0), (7, 0, 0), (7, 0, 0)] [] s = fX12_part_157 kb a0 a1 a2 s := rfl
noncomputable def bX12_part_170 : List En := [c_iconst 0]
theorem eX12_part_170 (kb : Co) (s : St) : exb (famH (tX12_part_170 kb) kb) 171 bX12_part_170 [(7, 0, 0), (7, 0, 0), (7, 0, 0), (7, 0, 0), (7, 0, 0), (7, 0, 0), (7, 0, 0)] [] s = fX12_part_170 kb s := rfl
noncomputable def bX12_part_171 : List En := [c_ireturn]
theorem eX12_part_171 (kb : Co) (y0 : Int) (s : St) : exb (famH (tX12_part_171 kb) kb) 0 bX12_part_171 [(7, 0, 0), (7, 0, 0), (7, 0, 0), (7, 0, 0), (7, 0, 0), (7, 0, 0), (7, 0, 0)] [(0, 0, y0)] s = fX12_part_171 kb y0 s := rfl
-- FloatparadeModel.clock(II)I
noncomputable def bX12_clock_0 : List En := [c_aload_n 0, c_aload_n 0, c_iload_n 1, c_invv 170 [] gX12_isSociety mdX12_isSociety, c_if .ne 7 13, c_iconst 1, c_goto 17 27]
theorem eX12_clock_0 (kb : Co) (a0 a1 a2 : Int) (s : St) : exb (famH (tX12_clock_0 kb) kb) 0 bX12_clock_0 [(3, 12, a0), (0, 0, a1), (0, 0, a2)] [] s = fX12_clock_0 kb a0 a1 a2 s := rfl
noncomputable def bX12_clock_13 : List En := [c_iload_n 2, c_iconst 0, c_iconst 3, c_invs 159 [] gX12_in mdX12_in, c_if .eq 7 26, c_iconst 0, c_goto 4 27]
theorem eX12_clock_13 (kb : Co) (a0 a1 a2 y0 : Int) (s : St) : exb (famH (tX12_clock_13 kb) kb) 0 bX12_clock_13 [(3, 12, a0), (0, 0, a1), (0, 0, a2)] [(3, 12, y0)] s = fX12_clock_13 kb a0 a1 a2 y0 s := rfl
noncomputable def bX12_clock_26 : List En := [c_iconst 2]
theorem eX12_clock_26 (kb : Co) (a0 a1 a2 y0 : Int) (s : St) : exb (famH (tX12_clock_26 kb) kb) 27 bX12_clock_26 [(3, 12, a0), (0, 0, a1), (0, 0, a2)] [(3, 12, y0)] s = fX12_clock_26 kb a0 a1 a2 y0 s := rfl
noncomputable def bX12_clock_27 : List En := [c_invv 167 [] gX12_holds mdX12_holds, c_if .ne 5 35, c_iconst 0, c_ireturn]
theorem eX12_clock_27 (kb : Co) (a0 a1 a2 y0 y1 : Int) (s : St) : exb (famH (tX12_clock_27 kb) kb) 0 bX12_clock_27 [(3, 12, a0), (0, 0, a1), (0, 0, a2)] [(0, 0, y0), (3, 12, y1)] s = fX12_clock_27 kb a0 a1 a2 y0 y1 s := rfl
noncomputable def bX12_clock_35 : List En := [c_iload_n 2, c_if .ne 12 48, c_aload_n 0, c_getC 129 12 143 43, c_iload_n 1, c_iald 143 10, c_goto 36 81]
theorem eX12_clock_35 (kb : Co) (a0 a1 a2 : Int) (s : St) : exb (famH (tX12_clock_35 kb) kb) 0 bX12_clock_35 [(3, 12, a0), (0, 0, a1), (0, 0, a2)] [] s = fX12_clock_35 kb a0 a1 a2 s := rfl
noncomputable def bX12_clock_48 : List En := [c_iload_n 2, c_iconst 1, c_icmp .ne 12 62, c_aload_n 0, c_getC 132 12 144 44, c_iload_n 1, c_iald 144 10, c_goto 22 81]
theorem eX12_clock_48 (kb : Co) (a0 a1 a2 : Int) (s : St) : exb (famH (tX12_clock_48 kb) kb) 0 bX12_clock_48 [(3, 12, a0), (0, 0, a1), (0, 0, a2)] [] s = fX12_clock_48 kb a0 a1 a2 s := rfl
noncomputable def bX12_clock_62 : List En := [c_iload_n 2, c_iconst 2, c_icmp .ne 12 76, c_aload_n 0, c_getC 135 12 145 45, c_iload_n 1, c_iald 145 10, c_goto 8 81]
theorem eX12_clock_62 (kb : Co) (a0 a1 a2 : Int) (s : St) : exb (famH (tX12_clock_62 kb) kb) 0 bX12_clock_62 [(3, 12, a0), (0, 0, a1), (0, 0, a2)] [] s = fX12_clock_62 kb a0 a1 a2 s := rfl
noncomputable def bX12_clock_76 : List En := [c_aload_n 0, c_iload_n 1, c_invv 268 [] gX12_timeOf mdX12_timeOf]
theorem eX12_clock_76 (kb : Co) (a0 a1 : Int) (s : St) : exb (famH (tX12_clock_76 kb) kb) 81 bX12_clock_76 [(3, 12, a0), (0, 0, a1), (7, 0, 0)] [] s = fX12_clock_76 kb a0 a1 s := rfl
noncomputable def bX12_clock_81 : List En := [c_ireturn]
theorem eX12_clock_81 (kb : Co) (y0 : Int) (s : St) : exb (famH (tX12_clock_81 kb) kb) 0 bX12_clock_81 [(7, 0, 0), (7, 0, 0), (7, 0, 0)] [(0, 0, y0)] s = fX12_clock_81 kb y0 s := rfl
-- FloatparadeModel.hasMarched(I)Z
noncomputable def bX12_hasMarched_0 : List En := [c_aload_n 0, c_getC 74 12 124 24, c_iload_n 1, c_bald 124 10, c_if .eq 22 28, c_aload_n 0, c_getC 93 12 130 30, c_aload_n 0, c_getC 7 12 102 2, c_iload_n 1, c_iald 102 10, c_iald 130 2, c_iconst 2, c_icmp .ne 7 28, c_iconst 1, c_goto 4 29]
theorem eX12_hasMarched_0 (kb : Co) (a0 a1 : Int) (s : St) : exb (famH (tX12_hasMarched_0 kb) kb) 0 bX12_hasMarched_0 [(3, 12, a0), (0, 0, a1)] [] s = fX12_hasMarched_0 kb a0 a1 s := rfl
noncomputable def bX12_hasMarched_28 : List En := [c_iconst 0]
theorem eX12_hasMarched_28 (kb : Co) (s : St) : exb (famH (tX12_hasMarched_28 kb) kb) 29 bX12_hasMarched_28 [(7, 0, 0), (7, 0, 0)] [] s = fX12_hasMarched_28 kb s := rfl
noncomputable def bX12_hasMarched_29 : List En := [c_zreturn]
theorem eX12_hasMarched_29 (kb : Co) (y0 : Int) (s : St) : exb (famH (tX12_hasMarched_29 kb) kb) 0 bX12_hasMarched_29 [(7, 0, 0), (7, 0, 0)] [(0, 0, y0)] s = fX12_hasMarched_29 kb y0 s := rfl
-- FloatparadeModel.note(IIII)I
noncomputable def bX12_note_0 : List En := [c_aload_n 0, c_iload_n 2, c_invv 170 [] gX12_isSociety mdX12_isSociety, c_istore 5, c_iload_n 1, c_iconst 0, c_iconst 3, c_invs 159 [] gX12_in mdX12_in, c_if .eq 28 41, c_iload_n 3, c_iconst 0, c_iconst 4, c_invs 159 [] gX12_in mdX12_in, c_if .eq 19 41, c_iload 4, c_bipush 50, c_bipush 100, c_invs 159 [] gX12_in mdX12_in, c_if .eq 7 41, c_iconst 1, c_goto 4 42]
theorem eX12_note_0 (kb : Co) (a0 a1 a2 a3 a4 : Int) (s : St) : exb (famH (tX12_note_0 kb) kb) 0 bX12_note_0 [(3, 12, a0), (0, 0, a1), (0, 0, a2), (0, 0, a3), (0, 0, a4), (7, 0, 0), (7, 0, 0), (7, 0, 0), (7, 0, 0)] [] s = fX12_note_0 kb a0 a1 a2 a3 a4 s := rfl
noncomputable def bX12_note_41 : List En := [c_iconst 0]
theorem eX12_note_41 (kb : Co) (a0 a1 a2 a3 a4 a5 : Int) (s : St) : exb (famH (tX12_note_41 kb) kb) 42 bX12_note_41 [(3, 12, a0), (0, 0, a1), (0, 0, a2), (0, 0, a3), (0, 0, a4), (0, 0, a5), (7, 0, 0), (7, 0, 0), (7, 0, 0)] [] s = fX12_note_41 kb a0 a1 a2 a3 a4 a5 s := rfl
noncomputable def bX12_note_42 : List En := [c_istore 6, c_aload_n 0, c_iload 5, c_if .ne 7 54, c_iconst 1, c_goto 25 76]
theorem eX12_note_42 (kb : Co) (a0 a1 a2 a3 a4 a5 y0 : Int) (s : St) : exb (famH (tX12_note_42 kb) kb) 0 bX12_note_42 [(3, 12, a0), (0, 0, a1), (0, 0, a2), (0, 0, a3), (0, 0, a4), (0, 0, a5), (7, 0, 0), (7, 0, 0), (7, 0, 0)] [(0, 0, y0)] s = fX12_note_42 kb a0 a1 a2 a3 a4 a5 y0 s := rfl
noncomputable def bX12_note_54 : List En := [c_iload 6, c_if .ne 7 63, c_iconst 2, c_goto 16 76]
theorem eX12_note_54 (kb : Co) (a0 a1 a2 a3 a4 a6 y0 : Int) (s : St) : exb (famH (tX12_note_54 kb) kb) 0 bX12_note_54 [(3, 12, a0), (0, 0, a1), (0, 0, a2), (0, 0, a3), (0, 0, a4), (7, 0, 0), (0, 0, a6), (7, 0, 0), (7, 0, 0)] [(3, 12, y0)] s = fX12_note_54 kb a0 a1 a2 a3 a4 a6 y0 s := rfl
noncomputable def bX12_note_63 : List En := [c_aload_n 0, c_iload_n 2, c_invv 280 [] gX12_hasMarched mdX12_hasMarched, c_if .eq 7 75, c_iconst 0, c_goto 4 76]
theorem eX12_note_63 (kb : Co) (a0 a1 a2 a3 a4 y0 : Int) (s : St) : exb (famH (tX12_note_63 kb) kb) 0 bX12_note_63 [(3, 12, a0), (0, 0, a1), (0, 0, a2), (0, 0, a3), (0, 0, a4), (7, 0, 0), (7, 0, 0), (7, 0, 0), (7, 0, 0)] [(3, 12, y0)] s = fX12_note_63 kb a0 a1 a2 a3 a4 y0 s := rfl
noncomputable def bX12_note_75 : List En := [c_iconst 3]
theorem eX12_note_75 (kb : Co) (a0 a1 a2 a3 a4 y0 : Int) (s : St) : exb (famH (tX12_note_75 kb) kb) 76 bX12_note_75 [(3, 12, a0), (0, 0, a1), (0, 0, a2), (0, 0, a3), (0, 0, a4), (7, 0, 0), (7, 0, 0), (7, 0, 0), (7, 0, 0)] [(3, 12, y0)] s = fX12_note_75 kb a0 a1 a2 a3 a4 y0 s := rfl
noncomputable def bX12_note_76 : List En := [c_invv 167 [] gX12_holds mdX12_holds, c_if .ne 5 84, c_iconst 0, c_ireturn]
theorem eX12_note_76 (kb : Co) (a0 a1 a2 a3 a4 y0 y1 : Int) (s : St) : exb (famH (tX12_note_76 kb) kb) 0 bX12_note_76 [(3, 12, a0), (0, 0, a1), (0, 0, a2), (0, 0, a3), (0, 0, a4), (7, 0, 0), (7, 0, 0), (7, 0, 0), (7, 0, 0)] [(0, 0, y0), (3, 12, y1)] s = fX12_note_76 kb a0 a1 a2 a3 a4 y0 y1 s := rfl
noncomputable def bX12_note_84 : List En := [c_bipush 20, c_iload_n 2, c_imul, c_iconst 5, c_iload_n 1, c_imul, c_iadd, c_iload_n 3, c_iadd, c_istore 7, c_aload_n 0, c_getC 138 12 146 46, c_iload 7, c_iald 146 200, c_if .ne 7 110, c_iconst (-1), c_goto 10 117]
theorem eX12_note_84 (kb : Co) (a0 a1 a2 a3 a4 : Int) (s : St) : exb (famH (tX12_note_84 kb) kb) 0 bX12_note_84 [(3, 12, a0), (0, 0, a1), (0, 0, a2), (0, 0, a3), (0, 0, a4), (7, 0, 0), (7, 0, 0), (7, 0, 0), (7, 0, 0)] [] s = fX12_note_84 kb a0 a1 a2 a3 a4 s := rfl
noncomputable def bX12_note_110 : List En := [c_aload_n 0, c_getC 138 12 146 46, c_iload 7, c_iald 146 200]
theorem eX12_note_110 (kb : Co) (a0 a4 a7 : Int) (s : St) : exb (famH (tX12_note_110 kb) kb) 117 bX12_note_110 [(3, 12, a0), (7, 0, 0), (7, 0, 0), (7, 0, 0), (0, 0, a4), (7, 0, 0), (7, 0, 0), (0, 0, a7), (7, 0, 0)] [] s = fX12_note_110 kb a0 a4 a7 s := rfl
noncomputable def bX12_note_117 : List En := [c_istore 8, c_aload_n 0, c_getC 138 12 146 46, c_iload 7, c_iload 4, c_iast 146 200, c_iload 8, c_ireturn]
theorem eX12_note_117 (kb : Co) (a0 a4 a7 y0 : Int) (s : St) : exb (famH (tX12_note_117 kb) kb) 0 bX12_note_117 [(3, 12, a0), (7, 0, 0), (7, 0, 0), (7, 0, 0), (0, 0, a4), (7, 0, 0), (7, 0, 0), (0, 0, a7), (7, 0, 0)] [(0, 0, y0)] s = fX12_note_117 kb a0 a4 a7 y0 s := rfl
-- FloatparadeModel.penalty(III)I
noncomputable def bX12_penalty_0 : List En := [c_aload_n 0, c_iload_n 1, c_invv 170 [] gX12_isSociety mdX12_isSociety, c_istore 4, c_iload_n 2, c_iconst 4, c_bipush 9, c_invs 159 [] gX12_in mdX12_in, c_if .eq 17 31, c_iload_n 3, c_iconst 1, c_bipush 99, c_invs 159 [] gX12_in mdX12_in, c_if .eq 7 31, c_iconst 1, c_goto 4 32]
theorem eX12_penalty_0 (kb : Co) (a0 a1 a2 a3 : Int) (s : St) : exb (famH (tX12_penalty_0 kb) kb) 0 bX12_penalty_0 [(3, 12, a0), (0, 0, a1), (0, 0, a2), (0, 0, a3), (7, 0, 0), (7, 0, 0)] [] s = fX12_penalty_0 kb a0 a1 a2 a3 s := rfl
noncomputable def bX12_penalty_31 : List En := [c_iconst 0]
theorem eX12_penalty_31 (kb : Co) (a0 a1 a2 a3 a4 : Int) (s : St) : exb (famH (tX12_penalty_31 kb) kb) 32 bX12_penalty_31 [(3, 12, a0), (0, 0, a1), (0, 0, a2), (0, 0, a3), (0, 0, a4), (7, 0, 0)] [] s = fX12_penalty_31 kb a0 a1 a2 a3 a4 s := rfl
noncomputable def bX12_penalty_32 : List En := [c_istore 5, c_aload_n 0, c_iload 4, c_if .ne 7 44, c_iconst 1, c_goto 36 77]
theorem eX12_penalty_32 (kb : Co) (a0 a1 a2 a3 a4 y0 : Int) (s : St) : exb (famH (tX12_penalty_32 kb) kb) 0 bX12_penalty_32 [(3, 12, a0), (0, 0, a1), (0, 0, a2), (0, 0, a3), (0, 0, a4), (7, 0, 0)] [(0, 0, y0)] s = fX12_penalty_32 kb a0 a1 a2 a3 a4 y0 s := rfl
noncomputable def bX12_penalty_44 : List En := [c_iload 5, c_if .ne 7 53, c_iconst 2, c_goto 27 77]
theorem eX12_penalty_44 (kb : Co) (a0 a1 a2 a3 a5 y0 : Int) (s : St) : exb (famH (tX12_penalty_44 kb) kb) 0 bX12_penalty_44 [(3, 12, a0), (0, 0, a1), (0, 0, a2), (0, 0, a3), (7, 0, 0), (0, 0, a5)] [(3, 12, y0)] s = fX12_penalty_44 kb a0 a1 a2 a3 a5 y0 s := rfl
noncomputable def bX12_penalty_53 : List En := [c_aload_n 0, c_iload_n 1, c_invv 280 [] gX12_hasMarched mdX12_hasMarched, c_if .eq 14 72, c_aload_n 0, c_getC 141 12 147 47, c_iload_n 1, c_iald 147 10, c_bipush 20, c_icmp .ne 7 76]
theorem eX12_penalty_53 (kb : Co) (a0 a1 a2 a3 y0 : Int) (s : St) : exb (famH (tX12_penalty_53 kb) kb) 72 bX12_penalty_53 [(3, 12, a0), (0, 0, a1), (0, 0, a2), (0, 0, a3), (7, 0, 0), (7, 0, 0)] [(3, 12, y0)] s = fX12_penalty_53 kb a0 a1 a2 a3 y0 s := rfl
noncomputable def bX12_penalty_72 : List En := [c_iconst 3, c_goto 4 77]
theorem eX12_penalty_72 (kb : Co) (a0 a1 a2 a3 y0 : Int) (s : St) : exb (famH (tX12_penalty_72 kb) kb) 0 bX12_penalty_72 [(3, 12, a0), (0, 0, a1), (0, 0, a2), (0, 0, a3), (7, 0, 0), (7, 0, 0)] [(3, 12, y0)] s = fX12_penalty_72 kb a0 a1 a2 a3 y0 s := rfl
noncomputable def bX12_penalty_76 : List En := [c_iconst 0]
theorem eX12_penalty_76 (kb : Co) (a0 a1 a2 a3 y0 : Int) (s : St) : exb (famH (tX12_penalty_76 kb) kb) 77 bX12_penalty_76 [(3, 12, a0), (0, 0, a1), (0, 0, a2), (0, 0, a3), (7, 0, 0), (7, 0, 0)] [(3, 12, y0)] s = fX12_penalty_76 kb a0 a1 a2 a3 y0 s := rfl
noncomputable def bX12_penalty_77 : List En := [c_invv 167 [] gX12_holds mdX12_holds, c_if .ne 5 85, c_iconst 0, c_ireturn]
theorem eX12_penalty_77 (kb : Co) (a0 a1 a2 a3 y0 y1 : Int) (s : St) : exb (famH (tX12_penalty_77 kb) kb) 0 bX12_penalty_77 [(3, 12, a0), (0, 0, a1), (0, 0, a2), (0, 0, a3), (7, 0, 0), (7, 0, 0)] [(0, 0, y0), (3, 12, y1)] s = fX12_penalty_77 kb a0 a1 a2 a3 y0 y1 s := rfl
noncomputable def bX12_penalty_85 : List En := [c_aload_n 0, c_iload_n 1, c_iload_n 2, c_iload_n 3, c_invv 271 [] gX12_penalizes mdX12_penalizes, c_aload_n 0, c_getC 141 12 147 47, c_iload_n 1, c_iald 147 10, c_ireturn]
theorem eX12_penalty_85 (kb : Co) (a0 a1 a2 a3 : Int) (s : St) : exb (famH (tX12_penalty_85 kb) kb) 0 bX12_penalty_85 [(3, 12, a0), (0, 0, a1), (0, 0, a2), (0, 0, a3), (7, 0, 0), (7, 0, 0)] [] s = fX12_penalty_85 kb a0 a1 a2 a3 s := rfl
-- FloatparadeModel.noteSum(II)I
noncomputable def bX12_noteSum_0 : List En := [c_iconst 0, c_istore_n 3, c_iconst 0, c_istore 4, c_sipush 1000, c_istore 5, c_iconst 0, c_istore 6, c_iconst 0, c_istore 7]
theorem eX12_noteSum_0 (kb : Co) (a0 a1 a2 : Int) (s : St) : exb (famH (tX12_noteSum_0 kb) kb) 16 bX12_noteSum_0 [(3, 12, a0), (0, 0, a1), (0, 0, a2), (7, 0, 0), (7, 0, 0), (7, 0, 0), (7, 0, 0), (7, 0, 0), (7, 0, 0)] [] s = fX12_noteSum_0 kb a0 a1 a2 s := rfl
noncomputable def bX12_noteSum_16 : List En := [c_iload 7, c_iconst 4, c_icmp .ge 84 103, c_aload_n 0, c_getC 138 12 146 46, c_bipush 20, c_iload_n 1, c_imul, c_iconst 5, c_iload 7, c_imul, c_iadd, c_iload_n 2, c_iadd, c_iald 146 200, c_istore 8, c_iload_n 3, c_iload 8, c_iadd, c_istore_n 3, c_iload 4, c_iload 8, c_if .le 7 56, c_iconst 1, c_goto 4 57]
theorem eX12_noteSum_16 (kb : Co) (a0 a1 a2 a3 a4 a5 a6 a7 : Int) (s : St) : exb (famH (tX12_noteSum_16 kb) kb) 0 bX12_noteSum_16 [(3, 12, a0), (0, 0, a1), (0, 0, a2), (0, 0, a3), (0, 0, a4), (0, 0, a5), (0, 0, a6), (0, 0, a7), (7, 0, 0)] [] s = fX12_noteSum_16 kb a0 a1 a2 a3 a4 a5 a6 a7 s := rfl
noncomputable def bX12_noteSum_56 : List En := [c_iconst 0]
theorem eX12_noteSum_56 (kb : Co) (a0 a1 a2 a3 a5 a6 a7 a8 y0 : Int) (s : St) : exb (famH (tX12_noteSum_56 kb) kb) 57 bX12_noteSum_56 [(3, 12, a0), (0, 0, a1), (0, 0, a2), (0, 0, a3), (7, 0, 0), (0, 0, a5), (0, 0, a6), (0, 0, a7), (0, 0, a8)] [(0, 0, y0)] s = fX12_noteSum_56 kb a0 a1 a2 a3 a5 a6 a7 a8 y0 s := rfl
noncomputable def bX12_noteSum_57 : List En := [c_iadd, c_istore 4, c_iload 8, c_if .le 15 77, c_iload 8, c_iload 5, c_icmp .ge 8 77, c_iload 8, c_goto 5 79]
theorem eX12_noteSum_57 (kb : Co) (a0 a1 a2 a3 a5 a6 a7 a8 y0 y1 : Int) (s : St) : exb (famH (tX12_noteSum_57 kb) kb) 0 bX12_noteSum_57 [(3, 12, a0), (0, 0, a1), (0, 0, a2), (0, 0, a3), (7, 0, 0), (0, 0, a5), (0, 0, a6), (0, 0, a7), (0, 0, a8)] [(0, 0, y0), (0, 0, y1)] s = fX12_noteSum_57 kb a0 a1 a2 a3 a5 a6 a7 a8 y0 y1 s := rfl
noncomputable def bX12_noteSum_77 : List En := [c_iload 5]
theorem eX12_noteSum_77 (kb : Co) (a0 a1 a2 a3 a4 a5 a6 a7 a8 : Int) (s : St) : exb (famH (tX12_noteSum_77 kb) kb) 79 bX12_noteSum_77 [(3, 12, a0), (0, 0, a1), (0, 0, a2), (0, 0, a3), (0, 0, a4), (0, 0, a5), (0, 0, a6), (0, 0, a7), (0, 0, a8)] [] s = fX12_noteSum_77 kb a0 a1 a2 a3 a4 a5 a6 a7 a8 s := rfl
noncomputable def bX12_noteSum_79 : List En := [c_istore 5, c_iload 8, c_iload 6, c_icmp .le 8 93, c_iload 8, c_goto 5 95]
theorem eX12_noteSum_79 (kb : Co) (a0 a1 a2 a3 a4 a6 a7 a8 y0 : Int) (s : St) : exb (famH (tX12_noteSum_79 kb) kb) 0 bX12_noteSum_79 [(3, 12, a0), (0, 0, a1), (0, 0, a2), (0, 0, a3), (0, 0, a4), (7, 0, 0), (0, 0, a6), (0, 0, a7), (0, 0, a8)] [(0, 0, y0)] s = fX12_noteSum_79 kb a0 a1 a2 a3 a4 a6 a7 a8 y0 s := rfl
noncomputable def bX12_noteSum_93 : List En := [c_iload 6]
theorem eX12_noteSum_93 (kb : Co) (a0 a1 a2 a3 a4 a5 a6 a7 : Int) (s : St) : exb (famH (tX12_noteSum_93 kb) kb) 95 bX12_noteSum_93 [(3, 12, a0), (0, 0, a1), (0, 0, a2), (0, 0, a3), (0, 0, a4), (0, 0, a5), (0, 0, a6), (0, 0, a7), (7, 0, 0)] [] s = fX12_noteSum_93 kb a0 a1 a2 a3 a4 a5 a6 a7 s := rfl
noncomputable def bX12_noteSum_95 : List En := [c_istore 6, c_iinc 7 1, c_goto (-84) 16]
theorem eX12_noteSum_95 (kb : Co) (a0 a1 a2 a3 a4 a5 a7 y0 : Int) (s : St) : exb (famH (tX12_noteSum_95 kb) kb) 0 bX12_noteSum_95 [(3, 12, a0), (0, 0, a1), (0, 0, a2), (0, 0, a3), (0, 0, a4), (0, 0, a5), (7, 0, 0), (0, 0, a7), (7, 0, 0)] [(0, 0, y0)] s = fX12_noteSum_95 kb a0 a1 a2 a3 a4 a5 a7 y0 s := rfl
noncomputable def bX12_noteSum_103 : List En := [c_iload_n 3, c_iload 4, c_iconst 2, c_icmp .le 8 115, c_iload 5, c_goto 4 116]
theorem eX12_noteSum_103 (kb : Co) (a3 a4 a5 a6 : Int) (s : St) : exb (famH (tX12_noteSum_103 kb) kb) 0 bX12_noteSum_103 [(7, 0, 0), (7, 0, 0), (7, 0, 0), (0, 0, a3), (0, 0, a4), (0, 0, a5), (0, 0, a6), (7, 0, 0), (7, 0, 0)] [] s = fX12_noteSum_103 kb a3 a4 a5 a6 s := rfl
noncomputable def bX12_noteSum_115 : List En := [c_iconst 0]
theorem eX12_noteSum_115 (kb : Co) (a4 a6 y0 : Int) (s : St) : exb (famH (tX12_noteSum_115 kb) kb) 116 bX12_noteSum_115 [(7, 0, 0), (7, 0, 0), (7, 0, 0), (7, 0, 0), (0, 0, a4), (7, 0, 0), (0, 0, a6), (7, 0, 0), (7, 0, 0)] [(0, 0, y0)] s = fX12_noteSum_115 kb a4 a6 y0 s := rfl
noncomputable def bX12_noteSum_116 : List En := [c_isub, c_iload 4, c_iconst 3, c_icmp .le 8 128, c_iload 6, c_goto 4 129]
theorem eX12_noteSum_116 (kb : Co) (a4 a6 y0 y1 : Int) (s : St) : exb (famH (tX12_noteSum_116 kb) kb) 0 bX12_noteSum_116 [(7, 0, 0), (7, 0, 0), (7, 0, 0), (7, 0, 0), (0, 0, a4), (7, 0, 0), (0, 0, a6), (7, 0, 0), (7, 0, 0)] [(0, 0, y0), (0, 0, y1)] s = fX12_noteSum_116 kb a4 a6 y0 y1 s := rfl
noncomputable def bX12_noteSum_128 : List En := [c_iconst 0]
theorem eX12_noteSum_128 (kb : Co) (y0 : Int) (s : St) : exb (famH (tX12_noteSum_128 kb) kb) 129 bX12_noteSum_128 [(7, 0, 0), (7, 0, 0), (7, 0, 0), (7, 0, 0), (7, 0, 0), (7, 0, 0), (7, 0, 0), (7, 0, 0), (7, 0, 0)] [(0, 0, y0)] s = fX12_noteSum_128 kb y0 s := rfl
noncomputable def bX12_noteSum_129 : List En := [c_isub, c_ireturn]
theorem eX12_noteSum_129 (kb : Co) (y0 y1 : Int) (s : St) : exb (famH (tX12_noteSum_129 kb) kb) 0 bX12_noteSum_129 [(7, 0, 0), (7, 0, 0), (7, 0, 0), (7, 0, 0), (7, 0, 0), (7, 0, 0), (7, 0, 0), (7, 0, 0), (7, 0, 0)] [(0, 0, y0), (0, 0, y1)] s = fX12_noteSum_129 kb y0 y1 s := rfl
-- FloatparadeModel.pointsOf(I)I
noncomputable def bX12_pointsOf_0 : List En := [c_iconst 0, c_istore_n 2, c_iconst 0, c_istore_n 3]
theorem eX12_pointsOf_0 (kb : Co) (a0 a1 : Int) (s : St) : exb (famH (tX12_pointsOf_0 kb) kb) 4 bX12_pointsOf_0 [(3, 12, a0), (0, 0, a1), (7, 0, 0), (7, 0, 0)] [] s = fX12_pointsOf_0 kb a0 a1 s := rfl
noncomputable def bX12_pointsOf_4 : List En := [c_iload_n 3, c_iconst 5, c_icmp .ge 18 24, c_iload_n 2, c_aload_n 0, c_iload_n 1, c_iload_n 3, c_invv 283 [] gX12_noteSum mdX12_noteSum, c_iadd, c_istore_n 2, c_iinc 3 1, c_goto (-17) 4]
theorem eX12_pointsOf_4 (kb : Co) (a0 a1 a2 a3 : Int) (s : St) : exb (famH (tX12_pointsOf_4 kb) kb) 0 bX12_pointsOf_4 [(3, 12, a0), (0, 0, a1), (0, 0, a2), (0, 0, a3)] [] s = fX12_pointsOf_4 kb a0 a1 a2 a3 s := rfl
noncomputable def bX12_pointsOf_24 : List En := [c_bipush 20, c_iload_n 1, c_imul, c_istore_n 3]
theorem eX12_pointsOf_24 (kb : Co) (a0 a1 a2 : Int) (s : St) : exb (famH (tX12_pointsOf_24 kb) kb) 29 bX12_pointsOf_24 [(3, 12, a0), (0, 0, a1), (0, 0, a2), (7, 0, 0)] [] s = fX12_pointsOf_24 kb a0 a1 a2 s := rfl
noncomputable def bX12_pointsOf_29 : List En := [c_iload_n 3, c_bipush 20, c_iload_n 1, c_imul, c_aload_n 0, c_getC 141 12 147 47, c_iload_n 1, c_iald 147 10, c_iadd, c_icmp .ge 31 72, c_iload_n 2, c_aload_n 0, c_getC 150 12 150 50, c_iload_n 3, c_bald 150 200, c_if .eq 7 58, c_iconst 0, c_goto 9 64]
theorem eX12_pointsOf_29 (kb : Co) (a0 a1 a2 a3 : Int) (s : St) : exb (famH (tX12_pointsOf_29 kb) kb) 0 bX12_pointsOf_29 [(3, 12, a0), (0, 0, a1), (0, 0, a2), (0, 0, a3)] [] s = fX12_pointsOf_29 kb a0 a1 a2 a3 s := rfl
noncomputable def bX12_pointsOf_58 : List En := [c_aload_n 0, c_getC 147 12 149 49, c_iload_n 3, c_iald 149 200]
theorem eX12_pointsOf_58 (kb : Co) (a0 a1 a3 y0 : Int) (s : St) : exb (famH (tX12_pointsOf_58 kb) kb) 64 bX12_pointsOf_58 [(3, 12, a0), (0, 0, a1), (7, 0, 0), (0, 0, a3)] [(0, 0, y0)] s = fX12_pointsOf_58 kb a0 a1 a3 y0 s := rfl
noncomputable def bX12_pointsOf_64 : List En := [c_isub, c_istore_n 2, c_iinc 3 1, c_goto (-40) 29]
theorem eX12_pointsOf_64 (kb : Co) (a0 a1 a3 y0 y1 : Int) (s : St) : exb (famH (tX12_pointsOf_64 kb) kb) 0 bX12_pointsOf_64 [(3, 12, a0), (0, 0, a1), (7, 0, 0), (0, 0, a3)] [(0, 0, y0), (0, 0, y1)] s = fX12_pointsOf_64 kb a0 a1 a3 y0 y1 s := rfl
noncomputable def bX12_pointsOf_72 : List En := [c_iload_n 2, c_ireturn]
theorem eX12_pointsOf_72 (kb : Co) (a2 : Int) (s : St) : exb (famH (tX12_pointsOf_72 kb) kb) 0 bX12_pointsOf_72 [(7, 0, 0), (7, 0, 0), (0, 0, a2), (7, 0, 0)] [] s = fX12_pointsOf_72 kb a2 s := rfl
-- FloatparadeModel.isPenalty(II)Z
noncomputable def bX12_isPenalty_0 : List En := [c_aload_n 0, c_iload_n 1, c_invv 170 [] gX12_isSociety mdX12_isSociety, c_if .eq 23 28, c_iload_n 2, c_iconst 0, c_aload_n 0, c_getC 141 12 147 47, c_iload_n 1, c_iald 147 10, c_iconst 1, c_isub, c_invs 159 [] gX12_in mdX12_in, c_if .eq 7 28, c_iconst 1, c_goto 4 29]
theorem eX12_isPenalty_0 (kb : Co) (a0 a1 a2 : Int) (s : St) : exb (famH (tX12_isPenalty_0 kb) kb) 0 bX12_isPenalty_0 [(3, 12, a0), (0, 0, a1), (0, 0, a2)] [] s = fX12_isPenalty_0 kb a0 a1 a2 s := rfl
noncomputable def bX12_isPenalty_28 : List En := [c_iconst 0]
theorem eX12_isPenalty_28 (kb : Co) (s : St) : exb (famH (tX12_isPenalty_28 kb) kb) 29 bX12_isPenalty_28 [(7, 0, 0), (7, 0, 0), (7, 0, 0)] [] s = fX12_isPenalty_28 kb s := rfl
noncomputable def bX12_isPenalty_29 : List En := [c_zreturn]
theorem eX12_isPenalty_29 (kb : Co) (y0 : Int) (s : St) : exb (famH (tX12_isPenalty_29 kb) kb) 0 bX12_isPenalty_29 [(7, 0, 0), (7, 0, 0), (7, 0, 0)] [(0, 0, y0)] s = fX12_isPenalty_29 kb y0 s := rfl
-- FloatparadeModel.appeal(II)I
noncomputable def bX12_appeal_0 : List En := [c_aload_n 0, c_iload_n 1, c_iload_n 2, c_invv 286 [] gX12_isPenalty mdX12_isPenalty, c_istore_n 3, c_aload_n 0, c_iload_n 3, c_if .ne 7 16, c_iconst 1, c_goto 22 35]
theorem eX12_appeal_0 (kb : Co) (a0 a1 a2 : Int) (s : St) : exb (famH (tX12_appeal_0 kb) kb) 0 bX12_appeal_0 [(3, 12, a0), (0, 0, a1), (0, 0, a2), (7, 0, 0)] [] s = fX12_appeal_0 kb a0 a1 a2 s := rfl
noncomputable def bX12_appeal_16 : List En := [c_aload_n 0, c_getC 150 12 150 50, c_bipush 20, c_iload_n 1, c_imul, c_iload_n 2, c_iadd, c_bald 150 200, c_if .eq 7 34, c_iconst 2, c_goto 4 35]
theorem eX12_appeal_16 (kb : Co) (a0 a1 a2 y0 : Int) (s : St) : exb (famH (tX12_appeal_16 kb) kb) 0 bX12_appeal_16 [(3, 12, a0), (0, 0, a1), (0, 0, a2), (7, 0, 0)] [(3, 12, y0)] s = fX12_appeal_16 kb a0 a1 a2 y0 s := rfl
noncomputable def bX12_appeal_34 : List En := [c_iconst 0]
theorem eX12_appeal_34 (kb : Co) (a0 a1 a2 y0 : Int) (s : St) : exb (famH (tX12_appeal_34 kb) kb) 35 bX12_appeal_34 [(3, 12, a0), (0, 0, a1), (0, 0, a2), (7, 0, 0)] [(3, 12, y0)] s = fX12_appeal_34 kb a0 a1 a2 y0 s := rfl
noncomputable def bX12_appeal_35 : List En := [c_invv 167 [] gX12_holds mdX12_holds, c_if .ne 5 43, c_iconst 0, c_ireturn]
theorem eX12_appeal_35 (kb : Co) (a0 a1 a2 y0 y1 : Int) (s : St) : exb (famH (tX12_appeal_35 kb) kb) 0 bX12_appeal_35 [(3, 12, a0), (0, 0, a1), (0, 0, a2), (7, 0, 0)] [(0, 0, y0), (3, 12, y1)] s = fX12_appeal_35 kb a0 a1 a2 y0 y1 s := rfl
noncomputable def bX12_appeal_43 : List En := [c_aload_n 0, c_getC 150 12 150 50, c_bipush 20, c_iload_n 1, c_imul, c_iload_n 2, c_iadd, c_iconst 1, c_bast 150 200, c_aload_n 0, c_iload_n 1, c_invv 289 [] gX12_pointsOf mdX12_pointsOf, c_ireturn]
theorem eX12_appeal_43 (kb : Co) (a0 a1 a2 : Int) (s : St) : exb (famH (tX12_appeal_43 kb) kb) 0 bX12_appeal_43 [(3, 12, a0), (0, 0, a1), (0, 0, a2), (7, 0, 0)] [] s = fX12_appeal_43 kb a0 a1 a2 s := rfl
-- FloatparadeModel.draw(I)I
noncomputable def bX12_draw_0 : List En := [c_aload_n 0, c_iload_n 1, c_iconst 0, c_iconst 4, c_invs 159 [] gX12_in mdX12_in, c_if .eq 7 14, c_iconst 0, c_goto 4 15]
theorem eX12_draw_0 (kb : Co) (a0 a1 : Int) (s : St) : exb (famH (tX12_draw_0 kb) kb) 0 bX12_draw_0 [(3, 12, a0), (0, 0, a1), (7, 0, 0)] [] s = fX12_draw_0 kb a0 a1 s := rfl
noncomputable def bX12_draw_14 : List En := [c_iconst 1]
theorem eX12_draw_14 (kb : Co) (a0 a1 y0 : Int) (s : St) : exb (famH (tX12_draw_14 kb) kb) 15 bX12_draw_14 [(3, 12, a0), (0, 0, a1), (7, 0, 0)] [(3, 12, y0)] s = fX12_draw_14 kb a0 a1 y0 s := rfl
noncomputable def bX12_draw_15 : List En := [c_invv 167 [] gX12_holds mdX12_holds, c_if .ne 5 23, c_iconst 0, c_ireturn]
theorem eX12_draw_15 (kb : Co) (a0 a1 y0 y1 : Int) (s : St) : exb (famH (tX12_draw_15 kb) kb) 0 bX12_draw_15 [(3, 12, a0), (0, 0, a1), (7, 0, 0)] [(0, 0, y0), (3, 12, y1)] s = fX12_draw_15 kb a0 a1 y0 y1 s := rfl
noncomputable def bX12_draw_23 : List En := [c_aload_n 0, c_getI 292 12 51, c_istore_n 2, c_aload_n 0, c_iload_n 1, c_putI 292 12 51, c_iload_n 2, c_ireturn]
theorem eX12_draw_23 (kb : Co) (a0 a1 : Int) (s : St) : exb (famH (tX12_draw_23 kb) kb) 0 bX12_draw_23 [(3, 12, a0), (0, 0, a1), (7, 0, 0)] [] s = fX12_draw_23 kb a0 a1 s := rfl
-- FloatparadeModel.isAhead(II)Z
noncomputable def bX12_isAhead_0 : List En := [c_aload_n 0, c_iload_n 1, c_invv 289 [] gX12_pointsOf mdX12_pointsOf, c_aload_n 0, c_iload_n 2, c_invv 289 [] gX12_pointsOf mdX12_pointsOf, c_icmp .eq 22 32, c_aload_n 0, c_iload_n 1, c_invv 289 [] gX12_pointsOf mdX12_pointsOf, c_aload_n 0, c_iload_n 2, c_invv 289 [] gX12_pointsOf mdX12_pointsOf, c_icmp .le 7 30, c_iconst 1, c_goto 4 31]
theorem eX12_isAhead_0 (kb : Co) (a0 a1 a2 : Int) (s : St) : exb (famH (tX12_isAhead_0 kb) kb) 0 bX12_isAhead_0 [(3, 12, a0), (0, 0, a1), (0, 0, a2), (7, 0, 0), (7, 0, 0)] [] s = fX12_isAhead_0 kb a0 a1 a2 s := rfl
noncomputable def bX12_isAhead_30 : List En := [c_iconst 0]
theorem eX12_isAhead_30 (kb : Co) (s : St) : exb (famH (tX12_isAhead_30 kb) kb) 31 bX12_isAhead_30 [(7, 0, 0), (7, 0, 0), (7, 0, 0), (7, 0, 0), (7, 0, 0)] [] s = fX12_isAhead_30 kb s := rfl
noncomputable def bX12_isAhead_31 : List En := [c_zreturn]
theorem eX12_isAhead_31 (kb : Co) (y0 : Int) (s : St) : exb (famH (tX12_isAhead_31 kb) kb) 0 bX12_isAhead_31 [(7, 0, 0), (7, 0, 0), (7, 0, 0), (7, 0, 0), (7, 0, 0)] [(0, 0, y0)] s = fX12_isAhead_31 kb y0 s := rfl
noncomputable def bX12_isAhead_32 : List En := [c_iconst 0, c_istore_n 3]
theorem eX12_isAhead_32 (kb : Co) (a0 a1 a2 : Int) (s : St) : exb (famH (tX12_isAhead_32 kb) kb) 34 bX12_isAhead_32 [(3, 12, a0), (0, 0, a1), (0, 0, a2), (7, 0, 0), (7, 0, 0)] [] s = fX12_isAhead_32 kb a0 a1 a2 s := rfl
noncomputable def bX12_isAhead_34 : List En := [c_iload_n 3, c_iconst 5, c_icmp .ge 59 95, c_aload_n 0, c_getI 292 12 51, c_iload_n 3, c_iadd, c_iconst 5, c_irem, c_istore 4, c_aload_n 0, c_iload_n 1, c_iload 4, c_invv 283 [] gX12_noteSum mdX12_noteSum, c_aload_n 0, c_iload_n 2, c_iload 4, c_invv 283 [] gX12_noteSum mdX12_noteSum, c_icmp .eq 26 89, c_aload_n 0, c_iload_n 1, c_iload 4, c_invv 283 [] gX12_noteSum mdX12_noteSum, c_aload_n 0, c_iload_n 2, c_iload 4, c_invv 283 [] gX12_noteSum mdX12_noteSum, c_icmp .le 7 87, c_iconst 1, c_goto 4 88]
theorem eX12_isAhead_34 (kb : Co) (a0 a1 a2 a3 : Int) (s : St) : exb (famH (tX12_isAhead_34 kb) kb) 0 bX12_isAhead_34 [(3, 12, a0), (0, 0, a1), (0, 0, a2), (0, 0, a3), (7, 0, 0)] [] s = fX12_isAhead_34 kb a0 a1 a2 a3 s := rfl
noncomputable def bX12_isAhead_87 : List En := [c_iconst 0]
theorem eX12_isAhead_87 (kb : Co) (s : St) : exb (famH (tX12_isAhead_87 kb) kb) 88 bX12_isAhead_87 [(7, 0, 0), (7, 0, 0), (7, 0, 0), (7, 0, 0), (7, 0, 0)] [] s = fX12_isAhead_87 kb s := rfl
noncomputable def bX12_isAhead_88 : List En := [c_zreturn]
theorem eX12_isAhead_88 (kb : Co) (y0 : Int) (s : St) : exb (famH (tX12_isAhead_88 kb) kb) 0 bX12_isAhead_88 [(7, 0, 0), (7, 0, 0), (7, 0, 0), (7, 0, 0), (7, 0, 0)] [(0, 0, y0)] s = fX12_isAhead_88 kb y0 s := rfl
noncomputable def bX12_isAhead_89 : List En := [c_iinc 3 1, c_goto (-58) 34]
theorem eX12_isAhead_89 (kb : Co) (a0 a1 a2 a3 : Int) (s : St) : exb (famH (tX12_isAhead_89 kb) kb) 0 bX12_isAhead_89 [(3, 12, a0), (0, 0, a1), (0, 0, a2), (0, 0, a3), (7, 0, 0)] [] s = fX12_isAhead_89 kb a0 a1 a2 a3 s := rfl
noncomputable def bX12_isAhead_95 : List En := [c_iload_n 1, c_iload_n 2, c_icmp .ge 7 104, c_iconst 1, c_goto 4 105]
theorem eX12_isAhead_95 (kb : Co) (a1 a2 : Int) (s : St) : exb (famH (tX12_isAhead_95 kb) kb) 0 bX12_isAhead_95 [(7, 0, 0), (0, 0, a1), (0, 0, a2), (7, 0, 0), (7, 0, 0)] [] s = fX12_isAhead_95 kb a1 a2 s := rfl
noncomputable def bX12_isAhead_104 : List En := [c_iconst 0]
theorem eX12_isAhead_104 (kb : Co) (s : St) : exb (famH (tX12_isAhead_104 kb) kb) 105 bX12_isAhead_104 [(7, 0, 0), (7, 0, 0), (7, 0, 0), (7, 0, 0), (7, 0, 0)] [] s = fX12_isAhead_104 kb s := rfl
noncomputable def bX12_isAhead_105 : List En := [c_zreturn]
theorem eX12_isAhead_105 (kb : Co) (y0 : Int) (s : St) : exb (famH (tX12_isAhead_105 kb) kb) 0 bX12_isAhead_105 [(7, 0, 0), (7, 0, 0), (7, 0, 0), (7, 0, 0), (7, 0, 0)] [(0, 0, y0)] s = fX12_isAhead_105 kb y0 s := rfl
-- FloatparadeModel.tableAt(II)I
noncomputable def bX12_tableAt_0 : List En := [c_iconst 0, c_istore_n 3]
theorem eX12_tableAt_0 (kb : Co) (a0 a1 a2 : Int) (s : St) : exb (famH (tX12_tableAt_0 kb) kb) 2 bX12_tableAt_0 [(3, 12, a0), (0, 0, a1), (0, 0, a2), (7, 0, 0), (7, 0, 0), (7, 0, 0)] [] s = fX12_tableAt_0 kb a0 a1 a2 s := rfl
noncomputable def bX12_tableAt_2 : List En := [c_iload_n 3, c_aload_n 0, c_getI 156 12 1, c_icmp .ge 114 121, c_iconst 0, c_istore 4, c_iconst 0, c_istore 5]
theorem eX12_tableAt_2 (kb : Co) (a0 a1 a2 a3 : Int) (s : St) : exb (famH (tX12_tableAt_2 kb) kb) 16 bX12_tableAt_2 [(3, 12, a0), (0, 0, a1), (0, 0, a2), (0, 0, a3), (7, 0, 0), (7, 0, 0)] [] s = fX12_tableAt_2 kb a0 a1 a2 a3 s := rfl
noncomputable def bX12_tableAt_16 : List En := [c_iload 5, c_aload_n 0, c_getI 156 12 1, c_icmp .ge 56 78, c_iload 4, c_aload_n 0, c_getC 7 12 102 2, c_iload 5, c_iald 102 10, c_iload_n 1, c_icmp .ne 33 68, c_aload_n 0, c_getC 74 12 124 24, c_iload 5, c_bald 124 10, c_if .eq 23 68, c_iload 5, c_iload_n 3, c_icmp .eq 17 68, c_aload_n 0, c_iload 5, c_iload_n 3, c_invv 295 [] gX12_isAhead mdX12_isAhead, c_if .eq 7 68, c_iconst 1, c_goto 4 69]
theorem eX12_tableAt_16 (kb : Co) (a0 a1 a2 a3 a4 a5 : Int) (s : St) : exb (famH (tX12_tableAt_16 kb) kb) 0 bX12_tableAt_16 [(3, 12, a0), (0, 0, a1), (0, 0, a2), (0, 0, a3), (0, 0, a4), (0, 0, a5)] [] s = fX12_tableAt_16 kb a0 a1 a2 a3 a4 a5 s := rfl
noncomputable def bX12_tableAt_68 : List En := [c_iconst 0]
theorem eX12_tableAt_68 (kb : Co) (a0 a1 a2 a3 a5 y0 : Int) (s : St) : exb (famH (tX12_tableAt_68 kb) kb) 69 bX12_tableAt_68 [(3, 12, a0), (0, 0, a1), (0, 0, a2), (0, 0, a3), (7, 0, 0), (0, 0, a5)] [(0, 0, y0)] s = fX12_tableAt_68 kb a0 a1 a2 a3 a5 y0 s := rfl
noncomputable def bX12_tableAt_69 : List En := [c_iadd, c_istore 4, c_iinc 5 1, c_goto (-59) 16]
theorem eX12_tableAt_69 (kb : Co) (a0 a1 a2 a3 a5 y0 y1 : Int) (s : St) : exb (famH (tX12_tableAt_69 kb) kb) 0 bX12_tableAt_69 [(3, 12, a0), (0, 0, a1), (0, 0, a2), (0, 0, a3), (7, 0, 0), (0, 0, a5)] [(0, 0, y0), (0, 0, y1)] s = fX12_tableAt_69 kb a0 a1 a2 a3 a5 y0 y1 s := rfl
noncomputable def bX12_tableAt_78 : List En := [c_aload_n 0, c_getC 7 12 102 2, c_iload_n 3, c_iald 102 10, c_iload_n 1, c_icmp .ne 30 115, c_aload_n 0, c_getC 74 12 124 24, c_iload_n 3, c_bald 124 10, c_if .eq 21 115, c_aload_n 0, c_getC 93 12 130 30, c_iload_n 1, c_iald 130 2, c_iconst 2, c_icmp .ne 11 115, c_iload 4, c_iload_n 2, c_icmp .ne 5 115, c_iload_n 3, c_ireturn]
theorem eX12_tableAt_78 (kb : Co) (a0 a1 a2 a3 a4 : Int) (s : St) : exb (famH (tX12_tableAt_78 kb) kb) 0 bX12_tableAt_78 [(3, 12, a0), (0, 0, a1), (0, 0, a2), (0, 0, a3), (0, 0, a4), (7, 0, 0)] [] s = fX12_tableAt_78 kb a0 a1 a2 a3 a4 s := rfl
noncomputable def bX12_tableAt_115 : List En := [c_iinc 3 1, c_goto (-116) 2]
theorem eX12_tableAt_115 (kb : Co) (a0 a1 a2 a3 : Int) (s : St) : exb (famH (tX12_tableAt_115 kb) kb) 0 bX12_tableAt_115 [(3, 12, a0), (0, 0, a1), (0, 0, a2), (0, 0, a3), (7, 0, 0), (7, 0, 0)] [] s = fX12_tableAt_115 kb a0 a1 a2 a3 s := rfl
noncomputable def bX12_tableAt_121 : List En := [c_iconst (-1), c_ireturn]
theorem eX12_tableAt_121 (kb : Co) (s : St) : exb (famH (tX12_tableAt_121 kb) kb) 0 bX12_tableAt_121 [(7, 0, 0), (7, 0, 0), (7, 0, 0), (7, 0, 0), (7, 0, 0), (7, 0, 0)] [] s = fX12_tableAt_121 kb s := rfl
-- FloatparadeModel.forgets(I)V
noncomputable def bX12_forgets_0 : List En := [c_aload_n 0, c_getC 23 12 106 6, c_iload_n 1, c_iconst 0, c_iast 106 10, c_aload_n 0, c_getC 29 12 108 8, c_iload_n 1, c_iconst 0, c_iast 108 10, c_aload_n 0, c_getC 32 12 109 9, c_iload_n 1, c_iconst 0, c_iast 109 10, c_aload_n 0, c_getC 35 12 110 10, c_iload_n 1, c_iconst 0, c_bast 110 10, c_aload_n 0, c_getC 41 12 112 12, c_iload_n 1, c_iconst 0, c_iast 112 10, c_aload_n 0, c_getC 74 12 124 24, c_iload_n 1, c_iconst 0, c_bast 124 10, c_aload_n 0, c_getC 77 12 125 25, c_iload_n 1, c_iconst 0, c_iast 125 10, c_aload_n 0, c_getC 141 12 147 47, c_iload_n 1, c_iconst 0, c_iast 147 10, c_aload_n 0, c_getC 129 12 143 43, c_iload_n 1, c_iconst (-1), c_iast 143 10, c_aload_n 0, c_getC 132 12 144 44, c_iload_n 1, c_iconst (-1), c_iast 144 10, c_aload_n 0, c_getC 135 12 145 45, c_iload_n 1, c_iconst 0, c_iast 145 10, c_bipush 20, c_iload_n 1, c_imul, c_istore_n 2]
theorem eX12_forgets_0 (kb : Co) (a0 a1 : Int) (s : St) : exb (famH (tX12_forgets_0 kb) kb) 82 bX12_forgets_0 [(3, 12, a0), (0, 0, a1), (7, 0, 0)] [] s = fX12_forgets_0 kb a0 a1 s := rfl
noncomputable def bX12_forgets_82 : List En := [c_iload_n 2, c_bipush 20, c_iload_n 1, c_imul, c_bipush 20, c_iadd, c_icmp .ge 16 106, c_aload_n 0, c_getC 138 12 146 46, c_iload_n 2, c_iconst 0, c_iast 146 200, c_iinc 2 1, c_goto (-21) 82]
theorem eX12_forgets_82 (kb : Co) (a0 a1 a2 : Int) (s : St) : exb (famH (tX12_forgets_82 kb) kb) 0 bX12_forgets_82 [(3, 12, a0), (0, 0, a1), (0, 0, a2)] [] s = fX12_forgets_82 kb a0 a1 a2 s := rfl
noncomputable def bX12_forgets_106 : List En := [c_return]
theorem eX12_forgets_106 (kb : Co) (s : St) : exb (famH (tX12_forgets_106 kb) kb) 0 bX12_forgets_106 [(7, 0, 0), (7, 0, 0), (7, 0, 0)] [] s = fX12_forgets_106 kb s := rfl
-- FloatparadeModel.endYear()I
noncomputable def bX12_endYear_0 : List En := [c_aload_n 0, c_aload_n 0, c_getC 93 12 130 30, c_iconst 0, c_iald 130 2, c_iconst 1, c_icmp .eq 29 37, c_aload_n 0, c_getC 93 12 130 30, c_iconst 1, c_iald 130 2, c_iconst 1, c_icmp .eq 19 37, c_aload_n 0, c_getC 93 12 130 30, c_iconst 0, c_iald 130 2, c_aload_n 0, c_getC 93 12 130 30, c_iconst 1, c_iald 130 2, c_iadd, c_if .ne 7 41]
theorem eX12_endYear_0 (kb : Co) (a0 : Int) (s : St) : exb (famH (tX12_endYear_0 kb) kb) 37 bX12_endYear_0 [(3, 12, a0), (7, 0, 0), (7, 0, 0), (7, 0, 0), (7, 0, 0)] [] s = fX12_endYear_0 kb a0 s := rfl
noncomputable def bX12_endYear_37 : List En := [c_iconst 1, c_goto 4 42]
theorem eX12_endYear_37 (kb : Co) (a0 y0 : Int) (s : St) : exb (famH (tX12_endYear_37 kb) kb) 0 bX12_endYear_37 [(3, 12, a0), (7, 0, 0), (7, 0, 0), (7, 0, 0), (7, 0, 0)] [(3, 12, y0)] s = fX12_endYear_37 kb a0 y0 s := rfl
noncomputable def bX12_endYear_41 : List En := [c_iconst 0]
theorem eX12_endYear_41 (kb : Co) (a0 y0 : Int) (s : St) : exb (famH (tX12_endYear_41 kb) kb) 42 bX12_endYear_41 [(3, 12, a0), (7, 0, 0), (7, 0, 0), (7, 0, 0), (7, 0, 0)] [(3, 12, y0)] s = fX12_endYear_41 kb a0 y0 s := rfl
noncomputable def bX12_endYear_42 : List En := [c_invv 167 [] gX12_holds mdX12_holds, c_if .ne 5 50, c_iconst 0, c_ireturn]
theorem eX12_endYear_42 (kb : Co) (a0 y0 y1 : Int) (s : St) : exb (famH (tX12_endYear_42 kb) kb) 0 bX12_endYear_42 [(3, 12, a0), (7, 0, 0), (7, 0, 0), (7, 0, 0), (7, 0, 0)] [(0, 0, y0), (3, 12, y1)] s = fX12_endYear_42 kb a0 y0 y1 s := rfl
noncomputable def bX12_endYear_50 : List En := [c_aload_n 0, c_getC 93 12 130 30, c_iconst 0, c_iald 130 2, c_iconst 2, c_icmp .ne 17 74, c_aload_n 0, c_getC 93 12 130 30, c_iconst 1, c_iald 130 2, c_iconst 2, c_icmp .ne 7 74, c_iconst 1, c_goto 4 75]
theorem eX12_endYear_50 (kb : Co) (a0 : Int) (s : St) : exb (famH (tX12_endYear_50 kb) kb) 0 bX12_endYear_50 [(3, 12, a0), (7, 0, 0), (7, 0, 0), (7, 0, 0), (7, 0, 0)] [] s = fX12_endYear_50 kb a0 s := rfl
noncomputable def bX12_endYear_74 : List En := [c_iconst 0]
theorem eX12_endYear_74 (kb : Co) (a0 : Int) (s : St) : exb (famH (tX12_endYear_74 kb) kb) 75 bX12_endYear_74 [(3, 12, a0), (7, 0, 0), (7, 0, 0), (7, 0, 0), (7, 0, 0)] [] s = fX12_endYear_74 kb a0 s := rfl
noncomputable def bX12_endYear_75 : List En := [c_istore_n 1, c_iload_n 1, c_if .eq 19 96, c_aload_n 0, c_iconst 0, c_aload_n 0, c_getC 80 12 126 26, c_iconst 0, c_iald 126 2, c_iconst 1, c_isub, c_invv 298 [] gX12_tableAt mdX12_tableAt, c_goto 4 97]
theorem eX12_endYear_75 (kb : Co) (a0 y0 : Int) (s : St) : exb (famH (tX12_endYear_75 kb) kb) 0 bX12_endYear_75 [(3, 12, a0), (7, 0, 0), (7, 0, 0), (7, 0, 0), (7, 0, 0)] [(0, 0, y0)] s = fX12_endYear_75 kb a0 y0 s := rfl
noncomputable def bX12_endYear_96 : List En := [c_iconst (-1)]
theorem eX12_endYear_96 (kb : Co) (a0 a1 : Int) (s : St) : exb (famH (tX12_endYear_96 kb) kb) 97 bX12_endYear_96 [(3, 12, a0), (0, 0, a1), (7, 0, 0), (7, 0, 0), (7, 0, 0)] [] s = fX12_endYear_96 kb a0 a1 s := rfl
noncomputable def bX12_endYear_97 : List En := [c_istore_n 2, c_aload_n 0, c_iload_n 1, c_if .eq 12 112, c_aload_n 0, c_iconst 1, c_iconst 0, c_invv 298 [] gX12_tableAt mdX12_tableAt, c_goto 4 113]
theorem eX12_endYear_97 (kb : Co) (a0 a1 y0 : Int) (s : St) : exb (famH (tX12_endYear_97 kb) kb) 0 bX12_endYear_97 [(3, 12, a0), (0, 0, a1), (7, 0, 0), (7, 0, 0), (7, 0, 0)] [(0, 0, y0)] s = fX12_endYear_97 kb a0 a1 y0 s := rfl
noncomputable def bX12_endYear_112 : List En := [c_iconst (-1)]
theorem eX12_endYear_112 (kb : Co) (a0 a1 a2 y0 : Int) (s : St) : exb (famH (tX12_endYear_112 kb) kb) 113 bX12_endYear_112 [(3, 12, a0), (0, 0, a1), (0, 0, a2), (7, 0, 0), (7, 0, 0)] [(3, 12, y0)] s = fX12_endYear_112 kb a0 a1 a2 y0 s := rfl
noncomputable def bX12_endYear_113 : List En := [c_putI 86 12 28, c_iconst 0, c_istore_n 3]
theorem eX12_endYear_113 (kb : Co) (a0 a1 a2 y0 y1 : Int) (s : St) : exb (famH (tX12_endYear_113 kb) kb) 118 bX12_endYear_113 [(3, 12, a0), (0, 0, a1), (0, 0, a2), (7, 0, 0), (7, 0, 0)] [(0, 0, y0), (3, 12, y1)] s = fX12_endYear_113 kb a0 a1 a2 y0 y1 s := rfl
noncomputable def bX12_endYear_118 : List En := [c_iload_n 3, c_iconst 2, c_icmp .ge 97 217, c_iconst 0, c_istore 4]
theorem eX12_endYear_118 (kb : Co) (a0 a1 a2 a3 : Int) (s : St) : exb (famH (tX12_endYear_118 kb) kb) 126 bX12_endYear_118 [(3, 12, a0), (0, 0, a1), (0, 0, a2), (0, 0, a3), (7, 0, 0)] [] s = fX12_endYear_118 kb a0 a1 a2 a3 s := rfl
noncomputable def bX12_endYear_126 : List En := [c_iload 4, c_aload_n 0, c_getC 80 12 126 26, c_iload_n 3, c_iald 126 2, c_icmp .ge 46 180, c_aload_n 0, c_getC 93 12 130 30, c_iload_n 3, c_iald 130 2, c_iconst 2, c_icmp .ne 36 180, c_aload_n 0, c_getC 16 12 104 4, c_aload_n 0, c_iload_n 3, c_iload 4, c_invv 298 [] gX12_tableAt mdX12_tableAt, c_dup2, c_iald 104 10, c_bipush 100, c_aload_n 0, c_getC 80 12 126 26, c_iload_n 3, c_iald 126 2, c_iload 4, c_isub, c_imul, c_iadd, c_iast 104 10, c_iinc 4 1, c_goto (-51) 126]
theorem eX12_endYear_126 (kb : Co) (a0 a1 a2 a3 a4 : Int) (s : St) : exb (famH (tX12_endYear_126 kb) kb) 0 bX12_endYear_126 [(3, 12, a0), (0, 0, a1), (0, 0, a2), (0, 0, a3), (0, 0, a4)] [] s = fX12_endYear_126 kb a0 a1 a2 a3 a4 s := rfl
noncomputable def bX12_endYear_180 : List En := [c_aload_n 0, c_getC 90 12 129 29, c_iload_n 3, c_aload_n 0, c_getC 93 12 130 30, c_iload_n 3, c_iald 130 2, c_iconst 2, c_icmp .ne 12 204, c_aload_n 0, c_iload_n 3, c_iconst 0, c_invv 298 [] gX12_tableAt mdX12_tableAt, c_goto 9 210]
theorem eX12_endYear_180 (kb : Co) (a0 a1 a2 a3 : Int) (s : St) : exb (famH (tX12_endYear_180 kb) kb) 0 bX12_endYear_180 [(3, 12, a0), (0, 0, a1), (0, 0, a2), (0, 0, a3), (7, 0, 0)] [] s = fX12_endYear_180 kb a0 a1 a2 a3 s := rfl
noncomputable def bX12_endYear_204 : List En := [c_aload_n 0, c_getC 90 12 129 29, c_iload_n 3, c_iald 129 2]
theorem eX12_endYear_204 (kb : Co) (a0 a1 a2 a3 y0 y1 : Int) (s : St) : exb (famH (tX12_endYear_204 kb) kb) 210 bX12_endYear_204 [(3, 12, a0), (0, 0, a1), (0, 0, a2), (0, 0, a3), (7, 0, 0)] [(0, 0, y0), (3, 129, y1)] s = fX12_endYear_204 kb a0 a1 a2 a3 y0 y1 s := rfl
noncomputable def bX12_endYear_210 : List En := [c_iast 129 2, c_iinc 3 1, c_goto (-96) 118]
theorem eX12_endYear_210 (kb : Co) (a0 a1 a2 a3 y0 y1 y2 : Int) (s : St) : exb (famH (tX12_endYear_210 kb) kb) 0 bX12_endYear_210 [(3, 12, a0), (0, 0, a1), (0, 0, a2), (0, 0, a3), (7, 0, 0)] [(0, 0, y0), (0, 0, y1), (3, 129, y2)] s = fX12_endYear_210 kb a0 a1 a2 a3 y0 y1 y2 s := rfl
noncomputable def bX12_endYear_217 : List En := [c_iload_n 1, c_if .eq 20 238, c_aload_n 0, c_getC 7 12 102 2, c_iload_n 2, c_iconst 1, c_iast 102 10, c_aload_n 0, c_getC 7 12 102 2, c_aload_n 0, c_getI 86 12 28, c_iconst 0, c_iast 102 10]
theorem eX12_endYear_217 (kb : Co) (a0 a1 a2 : Int) (s : St) : exb (famH (tX12_endYear_217 kb) kb) 238 bX12_endYear_217 [(3, 12, a0), (0, 0, a1), (0, 0, a2), (7, 0, 0), (7, 0, 0)] [] s = fX12_endYear_217 kb a0 a1 a2 s := rfl
noncomputable def bX12_endYear_238 : List En := [c_iconst 0, c_istore_n 3]
theorem eX12_endYear_238 (kb : Co) (a0 : Int) (s : St) : exb (famH (tX12_endYear_238 kb) kb) 240 bX12_endYear_238 [(3, 12, a0), (7, 0, 0), (7, 0, 0), (7, 0, 0), (7, 0, 0)] [] s = fX12_endYear_238 kb a0 s := rfl
noncomputable def bX12_endYear_240 : List En := [c_iload_n 3, c_aload_n 0, c_getI 156 12 1, c_icmp .ge 14 259, c_aload_n 0, c_iload_n 3, c_invv 301 [] gX12_forgets mdX12_forgets, c_iinc 3 1, c_goto (-16) 240]
theorem eX12_endYear_240 (kb : Co) (a0 a3 : Int) (s : St) : exb (famH (tX12_endYear_240 kb) kb) 0 bX12_endYear_240 [(3, 12, a0), (7, 0, 0), (7, 0, 0), (0, 0, a3), (7, 0, 0)] [] s = fX12_endYear_240 kb a0 a3 s := rfl
noncomputable def bX12_endYear_259 : List En := [c_iconst 0, c_istore_n 3]
theorem eX12_endYear_259 (kb : Co) (a0 : Int) (s : St) : exb (famH (tX12_endYear_259 kb) kb) 261 bX12_endYear_259 [(3, 12, a0), (7, 0, 0), (7, 0, 0), (7, 0, 0), (7, 0, 0)] [] s = fX12_endYear_259 kb a0 s := rfl
noncomputable def bX12_endYear_261 : List En := [c_iload_n 3, c_iconst 2, c_icmp .ge 30 293, c_aload_n 0, c_getC 93 12 130 30, c_iload_n 3, c_iconst 0, c_iast 130 2, c_aload_n 0, c_getC 80 12 126 26, c_iload_n 3, c_iconst 0, c_iast 126 2, c_aload_n 0, c_getC 105 12 134 34, c_iload_n 3, c_iconst 0, c_iast 134 2, c_iinc 3 1, c_goto (-29) 261]
theorem eX12_endYear_261 (kb : Co) (a0 a3 : Int) (s : St) : exb (famH (tX12_endYear_261 kb) kb) 0 bX12_endYear_261 [(3, 12, a0), (7, 0, 0), (7, 0, 0), (0, 0, a3), (7, 0, 0)] [] s = fX12_endYear_261 kb a0 a3 s := rfl
noncomputable def bX12_endYear_293 : List En := [c_aload_n 0, c_getI 86 12 28, c_ireturn]
theorem eX12_endYear_293 (kb : Co) (a0 : Int) (s : St) : exb (famH (tX12_endYear_293 kb) kb) 0 bX12_endYear_293 [(3, 12, a0), (7, 0, 0), (7, 0, 0), (7, 0, 0), (7, 0, 0)] [] s = fX12_endYear_293 kb a0 s := rfl
-- FloatparadeModel.about(II)I
noncomputable def bX12_about_0 : List En := [c_aload_n 0, c_aload_n 0, c_iload_n 1, c_invv 170 [] gX12_isSociety mdX12_isSociety, c_if .ne 7 13, c_iconst 1, c_goto 18 28]
theorem eX12_about_0 (kb : Co) (a0 a1 a2 : Int) (s : St) : exb (famH (tX12_about_0 kb) kb) 0 bX12_about_0 [(3, 12, a0), (0, 0, a1), (0, 0, a2)] [] s = fX12_about_0 kb a0 a1 a2 s := rfl
noncomputable def bX12_about_13 : List En := [c_iload_n 2, c_iconst 0, c_bipush 8, c_invs 159 [] gX12_in mdX12_in, c_if .eq 7 27, c_iconst 0, c_goto 4 28]
theorem eX12_about_13 (kb : Co) (a0 a1 a2 y0 : Int) (s : St) : exb (famH (tX12_about_13 kb) kb) 0 bX12_about_13 [(3, 12, a0), (0, 0, a1), (0, 0, a2)] [(3, 12, y0)] s = fX12_about_13 kb a0 a1 a2 y0 s := rfl
noncomputable def bX12_about_27 : List En := [c_iconst 2]
theorem eX12_about_27 (kb : Co) (a0 a1 a2 y0 : Int) (s : St) : exb (famH (tX12_about_27 kb) kb) 28 bX12_about_27 [(3, 12, a0), (0, 0, a1), (0, 0, a2)] [(3, 12, y0)] s = fX12_about_27 kb a0 a1 a2 y0 s := rfl
noncomputable def bX12_about_28 : List En := [c_invv 167 [] gX12_holds mdX12_holds, c_if .ne 5 36, c_iconst 0, c_ireturn]
theorem eX12_about_28 (kb : Co) (a0 a1 a2 y0 y1 : Int) (s : St) : exb (famH (tX12_about_28 kb) kb) 0 bX12_about_28 [(3, 12, a0), (0, 0, a1), (0, 0, a2)] [(0, 0, y0), (3, 12, y1)] s = fX12_about_28 kb a0 a1 a2 y0 y1 s := rfl
noncomputable def bX12_about_36 : List En := [c_iload_n 2, c_iconst 4, c_icmp .ge 50 88, c_iload_n 2, c_if .ne 12 54, c_aload_n 0, c_getC 7 12 102 2, c_iload_n 1, c_iald 102 10, c_goto 36 87]
theorem eX12_about_36 (kb : Co) (a0 a1 a2 : Int) (s : St) : exb (famH (tX12_about_36 kb) kb) 0 bX12_about_36 [(3, 12, a0), (0, 0, a1), (0, 0, a2)] [] s = fX12_about_36 kb a0 a1 a2 s := rfl
noncomputable def bX12_about_54 : List En := [c_iload_n 2, c_iconst 1, c_icmp .ne 12 68, c_aload_n 0, c_getC 13 12 103 3, c_iload_n 1, c_iald 103 10, c_goto 22 87]
theorem eX12_about_54 (kb : Co) (a0 a1 a2 : Int) (s : St) : exb (famH (tX12_about_54 kb) kb) 0 bX12_about_54 [(3, 12, a0), (0, 0, a1), (0, 0, a2)] [] s = fX12_about_54 kb a0 a1 a2 s := rfl
noncomputable def bX12_about_68 : List En := [c_iload_n 2, c_iconst 2, c_icmp .ne 12 82, c_aload_n 0, c_getC 23 12 106 6, c_iload_n 1, c_iald 106 10, c_goto 8 87]
theorem eX12_about_68 (kb : Co) (a0 a1 a2 : Int) (s : St) : exb (famH (tX12_about_68 kb) kb) 0 bX12_about_68 [(3, 12, a0), (0, 0, a1), (0, 0, a2)] [] s = fX12_about_68 kb a0 a1 a2 s := rfl
noncomputable def bX12_about_82 : List En := [c_aload_n 0, c_iload_n 1, c_invv 304 [] gX12_chosenSong mdX12_chosenSong]
theorem eX12_about_82 (kb : Co) (a0 a1 : Int) (s : St) : exb (famH (tX12_about_82 kb) kb) 87 bX12_about_82 [(3, 12, a0), (0, 0, a1), (7, 0, 0)] [] s = fX12_about_82 kb a0 a1 s := rfl
noncomputable def bX12_about_87 : List En := [c_ireturn]
theorem eX12_about_87 (kb : Co) (y0 : Int) (s : St) : exb (famH (tX12_about_87 kb) kb) 0 bX12_about_87 [(7, 0, 0), (7, 0, 0), (7, 0, 0)] [(0, 0, y0)] s = fX12_about_87 kb y0 s := rfl
noncomputable def bX12_about_88 : List En := [c_iload_n 2, c_bipush 7, c_icmp .ge 37 128, c_iload_n 2, c_iconst 4, c_icmp .ne 12 108, c_aload_n 0, c_getC 41 12 112 12, c_iload_n 1, c_iald 112 10, c_goto 22 127]
theorem eX12_about_88 (kb : Co) (a0 a1 a2 : Int) (s : St) : exb (famH (tX12_about_88 kb) kb) 0 bX12_about_88 [(3, 12, a0), (0, 0, a1), (0, 0, a2)] [] s = fX12_about_88 kb a0 a1 a2 s := rfl
noncomputable def bX12_about_108 : List En := [c_iload_n 2, c_iconst 5, c_icmp .ne 11 121, c_aload_n 0, c_iload_n 1, c_invv 289 [] gX12_pointsOf mdX12_pointsOf, c_goto 9 127]
theorem eX12_about_108 (kb : Co) (a0 a1 a2 : Int) (s : St) : exb (famH (tX12_about_108 kb) kb) 0 bX12_about_108 [(3, 12, a0), (0, 0, a1), (0, 0, a2)] [] s = fX12_about_108 kb a0 a1 a2 s := rfl
noncomputable def bX12_about_121 : List En := [c_aload_n 0, c_getC 16 12 104 4, c_iload_n 1, c_iald 104 10]
theorem eX12_about_121 (kb : Co) (a0 a1 : Int) (s : St) : exb (famH (tX12_about_121 kb) kb) 127 bX12_about_121 [(3, 12, a0), (0, 0, a1), (7, 0, 0)] [] s = fX12_about_121 kb a0 a1 s := rfl
noncomputable def bX12_about_127 : List En := [c_ireturn]
theorem eX12_about_127 (kb : Co) (y0 : Int) (s : St) : exb (famH (tX12_about_127 kb) kb) 0 bX12_about_127 [(7, 0, 0), (7, 0, 0), (7, 0, 0)] [(0, 0, y0)] s = fX12_about_127 kb y0 s := rfl
noncomputable def bX12_about_128 : List En := [c_iload_n 2, c_bipush 7, c_icmp .ne 20 151, c_aload_n 0, c_getC 74 12 124 24, c_iload_n 1, c_bald 124 10, c_if .eq 7 147, c_iconst 1, c_goto 13 157]
theorem eX12_about_128 (kb : Co) (a0 a1 a2 : Int) (s : St) : exb (famH (tX12_about_128 kb) kb) 0 bX12_about_128 [(3, 12, a0), (0, 0, a1), (0, 0, a2)] [] s = fX12_about_128 kb a0 a1 a2 s := rfl
noncomputable def bX12_about_147 : List En := [c_iconst 0, c_goto 9 157]
theorem eX12_about_147 (kb : Co) (s : St) : exb (famH (tX12_about_147 kb) kb) 0 bX12_about_147 [(7, 0, 0), (7, 0, 0), (7, 0, 0)] [] s = fX12_about_147 kb s := rfl
noncomputable def bX12_about_151 : List En := [c_aload_n 0, c_getC 141 12 147 47, c_iload_n 1, c_iald 147 10]
theorem eX12_about_151 (kb : Co) (a0 a1 : Int) (s : St) : exb (famH (tX12_about_151 kb) kb) 157 bX12_about_151 [(3, 12, a0), (0, 0, a1), (7, 0, 0)] [] s = fX12_about_151 kb a0 a1 s := rfl
noncomputable def bX12_about_157 : List En := [c_ireturn]
theorem eX12_about_157 (kb : Co) (y0 : Int) (s : St) : exb (famH (tX12_about_157 kb) kb) 0 bX12_about_157 [(7, 0, 0), (7, 0, 0), (7, 0, 0)] [(0, 0, y0)] s = fX12_about_157 kb y0 s := rfl
-- FloatparadeModel.notes(II)I
noncomputable def bX12_notes_0 : List En := [c_aload_n 0, c_aload_n 0, c_iload_n 1, c_invv 170 [] gX12_isSociety mdX12_isSociety, c_if .ne 7 13, c_iconst 1, c_goto 17 27]
theorem eX12_notes_0 (kb : Co) (a0 a1 a2 : Int) (s : St) : exb (famH (tX12_notes_0 kb) kb) 0 bX12_notes_0 [(3, 12, a0), (0, 0, a1), (0, 0, a2)] [] s = fX12_notes_0 kb a0 a1 a2 s := rfl
noncomputable def bX12_notes_13 : List En := [c_iload_n 2, c_iconst 0, c_iconst 4, c_invs 159 [] gX12_in mdX12_in, c_if .eq 7 26, c_iconst 0, c_goto 4 27]
theorem eX12_notes_13 (kb : Co) (a0 a1 a2 y0 : Int) (s : St) : exb (famH (tX12_notes_13 kb) kb) 0 bX12_notes_13 [(3, 12, a0), (0, 0, a1), (0, 0, a2)] [(3, 12, y0)] s = fX12_notes_13 kb a0 a1 a2 y0 s := rfl
noncomputable def bX12_notes_26 : List En := [c_iconst 2]
theorem eX12_notes_26 (kb : Co) (a0 a1 a2 y0 : Int) (s : St) : exb (famH (tX12_notes_26 kb) kb) 27 bX12_notes_26 [(3, 12, a0), (0, 0, a1), (0, 0, a2)] [(3, 12, y0)] s = fX12_notes_26 kb a0 a1 a2 y0 s := rfl
noncomputable def bX12_notes_27 : List En := [c_invv 167 [] gX12_holds mdX12_holds, c_if .eq 12 42, c_aload_n 0, c_iload_n 1, c_iload_n 2, c_invv 283 [] gX12_noteSum mdX12_noteSum, c_goto 4 43]
theorem eX12_notes_27 (kb : Co) (a0 a1 a2 y0 y1 : Int) (s : St) : exb (famH (tX12_notes_27 kb) kb) 0 bX12_notes_27 [(3, 12, a0), (0, 0, a1), (0, 0, a2)] [(0, 0, y0), (3, 12, y1)] s = fX12_notes_27 kb a0 a1 a2 y0 y1 s := rfl
noncomputable def bX12_notes_42 : List En := [c_iconst 0]
theorem eX12_notes_42 (kb : Co) (s : St) : exb (famH (tX12_notes_42 kb) kb) 43 bX12_notes_42 [(7, 0, 0), (7, 0, 0), (7, 0, 0)] [] s = fX12_notes_42 kb s := rfl
noncomputable def bX12_notes_43 : List En := [c_ireturn]
theorem eX12_notes_43 (kb : Co) (y0 : Int) (s : St) : exb (famH (tX12_notes_43 kb) kb) 0 bX12_notes_43 [(7, 0, 0), (7, 0, 0), (7, 0, 0)] [(0, 0, y0)] s = fX12_notes_43 kb y0 s := rfl
-- FloatparadeModel.penaltyAt(III)I
noncomputable def bX12_penaltyAt_0 : List En := [c_aload_n 0, c_aload_n 0, c_iload_n 1, c_iload_n 2, c_invv 286 [] gX12_isPenalty mdX12_isPenalty, c_if .ne 7 14, c_iconst 1, c_goto 17 28]
theorem eX12_penaltyAt_0 (kb : Co) (a0 a1 a2 a3 : Int) (s : St) : exb (famH (tX12_penaltyAt_0 kb) kb) 0 bX12_penaltyAt_0 [(3, 12, a0), (0, 0, a1), (0, 0, a2), (0, 0, a3), (7, 0, 0)] [] s = fX12_penaltyAt_0 kb a0 a1 a2 a3 s := rfl
noncomputable def bX12_penaltyAt_14 : List En := [c_iload_n 3, c_iconst 0, c_iconst 2, c_invs 159 [] gX12_in mdX12_in, c_if .eq 7 27, c_iconst 0, c_goto 4 28]
theorem eX12_penaltyAt_14 (kb : Co) (a0 a1 a2 a3 y0 : Int) (s : St) : exb (famH (tX12_penaltyAt_14 kb) kb) 0 bX12_penaltyAt_14 [(3, 12, a0), (0, 0, a1), (0, 0, a2), (0, 0, a3), (7, 0, 0)] [(3, 12, y0)] s = fX12_penaltyAt_14 kb a0 a1 a2 a3 y0 s := rfl
noncomputable def bX12_penaltyAt_27 : List En := [c_iconst 2]
theorem eX12_penaltyAt_27 (kb : Co) (a0 a1 a2 a3 y0 : Int) (s : St) : exb (famH (tX12_penaltyAt_27 kb) kb) 28 bX12_penaltyAt_27 [(3, 12, a0), (0, 0, a1), (0, 0, a2), (0, 0, a3), (7, 0, 0)] [(3, 12, y0)] s = fX12_penaltyAt_27 kb a0 a1 a2 a3 y0 s := rfl
noncomputable def bX12_penaltyAt_28 : List En := [c_invv 167 [] gX12_holds mdX12_holds, c_if .ne 5 36, c_iconst 0, c_ireturn]
theorem eX12_penaltyAt_28 (kb : Co) (a0 a1 a2 a3 y0 y1 : Int) (s : St) : exb (famH (tX12_penaltyAt_28 kb) kb) 0 bX12_penaltyAt_28 [(3, 12, a0), (0, 0, a1), (0, 0, a2), (0, 0, a3), (7, 0, 0)] [(0, 0, y0), (3, 12, y1)] s = fX12_penaltyAt_28 kb a0 a1 a2 a3 y0 y1 s := rfl
noncomputable def bX12_penaltyAt_36 : List En := [c_bipush 20, c_iload_n 1, c_imul, c_iload_n 2, c_iadd, c_istore 4, c_iload_n 3, c_if .ne 13 58, c_aload_n 0, c_getC 144 12 148 48, c_iload 4, c_iald 148 200, c_goto 33 88]
theorem eX12_penaltyAt_36 (kb : Co) (a0 a1 a2 a3 : Int) (s : St) : exb (famH (tX12_penaltyAt_36 kb) kb) 0 bX12_penaltyAt_36 [(3, 12, a0), (0, 0, a1), (0, 0, a2), (0, 0, a3), (7, 0, 0)] [] s = fX12_penaltyAt_36 kb a0 a1 a2 a3 s := rfl
noncomputable def bX12_penaltyAt_58 : List En := [c_iload_n 3, c_iconst 1, c_icmp .ne 13 73, c_aload_n 0, c_getC 147 12 149 49, c_iload 4, c_iald 149 200, c_goto 18 88]
theorem eX12_penaltyAt_58 (kb : Co) (a0 a3 a4 : Int) (s : St) : exb (famH (tX12_penaltyAt_58 kb) kb) 0 bX12_penaltyAt_58 [(3, 12, a0), (7, 0, 0), (7, 0, 0), (0, 0, a3), (0, 0, a4)] [] s = fX12_penaltyAt_58 kb a0 a3 a4 s := rfl
noncomputable def bX12_penaltyAt_73 : List En := [c_aload_n 0, c_getC 150 12 150 50, c_iload 4, c_bald 150 200, c_if .eq 7 87, c_iconst 1, c_goto 4 88]
theorem eX12_penaltyAt_73 (kb : Co) (a0 a4 : Int) (s : St) : exb (famH (tX12_penaltyAt_73 kb) kb) 0 bX12_penaltyAt_73 [(3, 12, a0), (7, 0, 0), (7, 0, 0), (7, 0, 0), (0, 0, a4)] [] s = fX12_penaltyAt_73 kb a0 a4 s := rfl
noncomputable def bX12_penaltyAt_87 : List En := [c_iconst 0]
theorem eX12_penaltyAt_87 (kb : Co) (s : St) : exb (famH (tX12_penaltyAt_87 kb) kb) 88 bX12_penaltyAt_87 [(7, 0, 0), (7, 0, 0), (7, 0, 0), (7, 0, 0), (7, 0, 0)] [] s = fX12_penaltyAt_87 kb s := rfl
noncomputable def bX12_penaltyAt_88 : List En := [c_ireturn]
theorem eX12_penaltyAt_88 (kb : Co) (y0 : Int) (s : St) : exb (famH (tX12_penaltyAt_88 kb) kb) 0 bX12_penaltyAt_88 [(7, 0, 0), (7, 0, 0), (7, 0, 0), (7, 0, 0), (7, 0, 0)] [(0, 0, y0)] s = fX12_penaltyAt_88 kb y0 s := rfl
-- FloatparadeModel.isFar(III)Z
noncomputable def bX12_isFar_0 : List En := [c_aload_n 0, c_getC 138 12 146 46, c_bipush 20, c_iload_n 2, c_imul, c_iconst 5, c_iload_n 1, c_imul, c_iadd, c_iload_n 3, c_iadd, c_iald 146 200, c_istore 4, c_iconst 0, c_istore 5, c_iconst 0, c_istore 6, c_iconst 0, c_istore 7]
theorem eX12_isFar_0 (kb : Co) (a0 a1 a2 a3 : Int) (s : St) : exb (famH (tX12_isFar_0 kb) kb) 26 bX12_isFar_0 [(3, 12, a0), (0, 0, a1), (0, 0, a2), (0, 0, a3), (7, 0, 0), (7, 0, 0), (7, 0, 0), (7, 0, 0), (7, 0, 0)] [] s = fX12_isFar_0 kb a0 a1 a2 a3 s := rfl
noncomputable def bX12_isFar_26 : List En := [c_iload 7, c_iconst 4, c_icmp .ge 59 88, c_iload 7, c_iload_n 1, c_icmp .ne 7 42, c_iconst 0, c_goto 19 58]
theorem eX12_isFar_26 (kb : Co) (a0 a1 a2 a3 a4 a5 a6 a7 : Int) (s : St) : exb (famH (tX12_isFar_26 kb) kb) 0 bX12_isFar_26 [(3, 12, a0), (0, 0, a1), (0, 0, a2), (0, 0, a3), (0, 0, a4), (0, 0, a5), (0, 0, a6), (0, 0, a7), (7, 0, 0)] [] s = fX12_isFar_26 kb a0 a1 a2 a3 a4 a5 a6 a7 s := rfl
noncomputable def bX12_isFar_42 : List En := [c_aload_n 0, c_getC 138 12 146 46, c_bipush 20, c_iload_n 2, c_imul, c_iconst 5, c_iload 7, c_imul, c_iadd, c_iload_n 3, c_iadd, c_iald 146 200]
theorem eX12_isFar_42 (kb : Co) (a0 a1 a2 a3 a4 a5 a6 a7 : Int) (s : St) : exb (famH (tX12_isFar_42 kb) kb) 58 bX12_isFar_42 [(3, 12, a0), (0, 0, a1), (0, 0, a2), (0, 0, a3), (0, 0, a4), (0, 0, a5), (0, 0, a6), (0, 0, a7), (7, 0, 0)] [] s = fX12_isFar_42 kb a0 a1 a2 a3 a4 a5 a6 a7 s := rfl
noncomputable def bX12_isFar_58 : List En := [c_istore 8, c_iload 5, c_iload 8, c_iadd, c_istore 5, c_iload 6, c_iload 8, c_if .le 7 78, c_iconst 1, c_goto 4 79]
theorem eX12_isFar_58 (kb : Co) (a0 a1 a2 a3 a4 a5 a6 a7 y0 : Int) (s : St) : exb (famH (tX12_isFar_58 kb) kb) 0 bX12_isFar_58 [(3, 12, a0), (0, 0, a1), (0, 0, a2), (0, 0, a3), (0, 0, a4), (0, 0, a5), (0, 0, a6), (0, 0, a7), (7, 0, 0)] [(0, 0, y0)] s = fX12_isFar_58 kb a0 a1 a2 a3 a4 a5 a6 a7 y0 s := rfl
noncomputable def bX12_isFar_78 : List En := [c_iconst 0]
theorem eX12_isFar_78 (kb : Co) (a0 a1 a2 a3 a4 a5 a7 y0 : Int) (s : St) : exb (famH (tX12_isFar_78 kb) kb) 79 bX12_isFar_78 [(3, 12, a0), (0, 0, a1), (0, 0, a2), (0, 0, a3), (0, 0, a4), (0, 0, a5), (7, 0, 0), (0, 0, a7), (7, 0, 0)] [(0, 0, y0)] s = fX12_isFar_78 kb a0 a1 a2 a3 a4 a5 a7 y0 s := rfl
noncomputable def bX12_isFar_79 : List En := [c_iadd, c_istore 6, c_iinc 7 1, c_goto (-59) 26]
theorem eX12_isFar_79 (kb : Co) (a0 a1 a2 a3 a4 a5 a7 y0 y1 : Int) (s : St) : exb (famH (tX12_isFar_79 kb) kb) 0 bX12_isFar_79 [(3, 12, a0), (0, 0, a1), (0, 0, a2), (0, 0, a3), (0, 0, a4), (0, 0, a5), (7, 0, 0), (0, 0, a7), (7, 0, 0)] [(0, 0, y0), (0, 0, y1)] s = fX12_isFar_79 kb a0 a1 a2 a3 a4 a5 a7 y0 y1 s := rfl
noncomputable def bX12_isFar_88 : List En := [c_iload 4, c_if .le 25 115, c_iload 6, c_if .le 20 115, c_iload 4, c_iload 5, c_iload 6, c_idiv, c_bipush 15, c_iadd, c_icmp .lt 7 115, c_iconst 1, c_goto 4 116]
theorem eX12_isFar_88 (kb : Co) (a4 a5 a6 : Int) (s : St) : exb (famH (tX12_isFar_88 kb) kb) 0 bX12_isFar_88 [(7, 0, 0), (7, 0, 0), (7, 0, 0), (7, 0, 0), (0, 0, a4), (0, 0, a5), (0, 0, a6), (7, 0, 0), (7, 0, 0)] [] s = fX12_isFar_88 kb a4 a5 a6 s := rfl
noncomputable def bX12_isFar_115 : List En := [c_iconst 0]
theorem eX12_isFar_115 (kb : Co) (s : St) : exb (famH (tX12_isFar_115 kb) kb) 116 bX12_isFar_115 [(7, 0, 0), (7, 0, 0), (7, 0, 0), (7, 0, 0), (7, 0, 0), (7, 0, 0), (7, 0, 0), (7, 0, 0), (7, 0, 0)] [] s = fX12_isFar_115 kb s := rfl
noncomputable def bX12_isFar_116 : List En := [c_zreturn]
theorem eX12_isFar_116 (kb : Co) (y0 : Int) (s : St) : exb (famH (tX12_isFar_116 kb) kb) 0 bX12_isFar_116 [(7, 0, 0), (7, 0, 0), (7, 0, 0), (7, 0, 0), (7, 0, 0), (7, 0, 0), (7, 0, 0), (7, 0, 0), (7, 0, 0)] [(0, 0, y0)] s = fX12_isFar_116 kb y0 s := rfl
-- FloatparadeModel.doubts(II)Z
noncomputable def bX12_doubts_0 : List En := [c_iconst 0, c_istore_n 3, c_iconst 0, c_istore 4]
theorem eX12_doubts_0 (kb : Co) (a0 a1 a2 : Int) (s : St) : exb (famH (tX12_doubts_0 kb) kb) 5 bX12_doubts_0 [(3, 12, a0), (0, 0, a1), (0, 0, a2), (7, 0, 0), (7, 0, 0)] [] s = fX12_doubts_0 kb a0 a1 a2 s := rfl
noncomputable def bX12_doubts_5 : List En := [c_iload 4, c_iconst 5, c_icmp .ge 28 36, c_iload_n 3, c_aload_n 0, c_iload_n 1, c_iload_n 2, c_iload 4, c_invv 307 [] gX12_isFar mdX12_isFar, c_if .eq 7 27, c_iconst 1, c_goto 4 28]
theorem eX12_doubts_5 (kb : Co) (a0 a1 a2 a3 a4 : Int) (s : St) : exb (famH (tX12_doubts_5 kb) kb) 0 bX12_doubts_5 [(3, 12, a0), (0, 0, a1), (0, 0, a2), (0, 0, a3), (0, 0, a4)] [] s = fX12_doubts_5 kb a0 a1 a2 a3 a4 s := rfl
noncomputable def bX12_doubts_27 : List En := [c_iconst 0]
theorem eX12_doubts_27 (kb : Co) (a0 a1 a2 a4 y0 : Int) (s : St) : exb (famH (tX12_doubts_27 kb) kb) 28 bX12_doubts_27 [(3, 12, a0), (0, 0, a1), (0, 0, a2), (7, 0, 0), (0, 0, a4)] [(0, 0, y0)] s = fX12_doubts_27 kb a0 a1 a2 a4 y0 s := rfl
noncomputable def bX12_doubts_28 : List En := [c_iadd, c_istore_n 3, c_iinc 4 1, c_goto (-28) 5]
theorem eX12_doubts_28 (kb : Co) (a0 a1 a2 a4 y0 y1 : Int) (s : St) : exb (famH (tX12_doubts_28 kb) kb) 0 bX12_doubts_28 [(3, 12, a0), (0, 0, a1), (0, 0, a2), (7, 0, 0), (0, 0, a4)] [(0, 0, y0), (0, 0, y1)] s = fX12_doubts_28 kb a0 a1 a2 a4 y0 y1 s := rfl
noncomputable def bX12_doubts_36 : List En := [c_iload_n 3, c_iconst 3, c_icmp .lt 7 45, c_iconst 1, c_goto 4 46]
theorem eX12_doubts_36 (kb : Co) (a3 : Int) (s : St) : exb (famH (tX12_doubts_36 kb) kb) 0 bX12_doubts_36 [(7, 0, 0), (7, 0, 0), (7, 0, 0), (0, 0, a3), (7, 0, 0)] [] s = fX12_doubts_36 kb a3 s := rfl
noncomputable def bX12_doubts_45 : List En := [c_iconst 0]
theorem eX12_doubts_45 (kb : Co) (s : St) : exb (famH (tX12_doubts_45 kb) kb) 46 bX12_doubts_45 [(7, 0, 0), (7, 0, 0), (7, 0, 0), (7, 0, 0), (7, 0, 0)] [] s = fX12_doubts_45 kb s := rfl
noncomputable def bX12_doubts_46 : List En := [c_zreturn]
theorem eX12_doubts_46 (kb : Co) (y0 : Int) (s : St) : exb (famH (tX12_doubts_46 kb) kb) 0 bX12_doubts_46 [(7, 0, 0), (7, 0, 0), (7, 0, 0), (7, 0, 0), (7, 0, 0)] [(0, 0, y0)] s = fX12_doubts_46 kb y0 s := rfl
-- FloatparadeModel.isDoubted(II)Z
noncomputable def bX12_isDoubted_0 : List En := [c_aload_n 0, c_aload_n 0, c_iload_n 2, c_invv 170 [] gX12_isSociety mdX12_isSociety, c_if .ne 7 13, c_iconst 1, c_goto 17 27]
theorem eX12_isDoubted_0 (kb : Co) (a0 a1 a2 : Int) (s : St) : exb (famH (tX12_isDoubted_0 kb) kb) 0 bX12_isDoubted_0 [(3, 12, a0), (0, 0, a1), (0, 0, a2)] [] s = fX12_isDoubted_0 kb a0 a1 a2 s := rfl
noncomputable def bX12_isDoubted_13 : List En := [c_iload_n 1, c_iconst 0, c_iconst 3, c_invs 159 [] gX12_in mdX12_in, c_if .eq 7 26, c_iconst 0, c_goto 4 27]
theorem eX12_isDoubted_13 (kb : Co) (a0 a1 a2 y0 : Int) (s : St) : exb (famH (tX12_isDoubted_13 kb) kb) 0 bX12_isDoubted_13 [(3, 12, a0), (0, 0, a1), (0, 0, a2)] [(3, 12, y0)] s = fX12_isDoubted_13 kb a0 a1 a2 y0 s := rfl
noncomputable def bX12_isDoubted_26 : List En := [c_iconst 2]
theorem eX12_isDoubted_26 (kb : Co) (a0 a1 a2 y0 : Int) (s : St) : exb (famH (tX12_isDoubted_26 kb) kb) 27 bX12_isDoubted_26 [(3, 12, a0), (0, 0, a1), (0, 0, a2)] [(3, 12, y0)] s = fX12_isDoubted_26 kb a0 a1 a2 y0 s := rfl
noncomputable def bX12_isDoubted_27 : List En := [c_invv 167 [] gX12_holds mdX12_holds, c_if .eq 16 46, c_aload_n 0, c_iload_n 1, c_iload_n 2, c_invv 310 [] gX12_doubts mdX12_doubts, c_if .eq 7 46, c_iconst 1, c_goto 4 47]
theorem eX12_isDoubted_27 (kb : Co) (a0 a1 a2 y0 y1 : Int) (s : St) : exb (famH (tX12_isDoubted_27 kb) kb) 0 bX12_isDoubted_27 [(3, 12, a0), (0, 0, a1), (0, 0, a2)] [(0, 0, y0), (3, 12, y1)] s = fX12_isDoubted_27 kb a0 a1 a2 y0 y1 s := rfl
noncomputable def bX12_isDoubted_46 : List En := [c_iconst 0]
theorem eX12_isDoubted_46 (kb : Co) (s : St) : exb (famH (tX12_isDoubted_46 kb) kb) 47 bX12_isDoubted_46 [(7, 0, 0), (7, 0, 0), (7, 0, 0)] [] s = fX12_isDoubted_46 kb s := rfl
noncomputable def bX12_isDoubted_47 : List En := [c_zreturn]
theorem eX12_isDoubted_47 (kb : Co) (y0 : Int) (s : St) : exb (famH (tX12_isDoubted_47 kb) kb) 0 bX12_isDoubted_47 [(7, 0, 0), (7, 0, 0), (7, 0, 0)] [(0, 0, y0)] s = fX12_isDoubted_47 kb y0 s := rfl
-- FloatparadeModel.table(II)I
noncomputable def bX12_table_0 : List En := [c_aload_n 0, c_iload_n 2, c_if .ge 7 9, c_iconst 1, c_goto 15 21]
theorem eX12_table_0 (kb : Co) (a0 a1 a2 : Int) (s : St) : exb (famH (tX12_table_0 kb) kb) 0 bX12_table_0 [(3, 12, a0), (0, 0, a1), (0, 0, a2)] [] s = fX12_table_0 kb a0 a1 a2 s := rfl
noncomputable def bX12_table_9 : List En := [c_iload_n 1, c_invs 163 [] gX12_isLeague mdX12_isLeague, c_if .eq 7 20, c_iconst 0, c_goto 4 21]
theorem eX12_table_9 (kb : Co) (a0 a1 a2 y0 : Int) (s : St) : exb (famH (tX12_table_9 kb) kb) 0 bX12_table_9 [(3, 12, a0), (0, 0, a1), (0, 0, a2)] [(3, 12, y0)] s = fX12_table_9 kb a0 a1 a2 y0 s := rfl
noncomputable def bX12_table_20 : List En := [c_iconst 2]
theorem eX12_table_20 (kb : Co) (a0 a1 a2 y0 : Int) (s : St) : exb (famH (tX12_table_20 kb) kb) 21 bX12_table_20 [(3, 12, a0), (0, 0, a1), (0, 0, a2)] [(3, 12, y0)] s = fX12_table_20 kb a0 a1 a2 y0 s := rfl
noncomputable def bX12_table_21 : List En := [c_invv 167 [] gX12_holds mdX12_holds, c_if .ne 5 29, c_iconst 0, c_ireturn]
theorem eX12_table_21 (kb : Co) (a0 a1 a2 y0 y1 : Int) (s : St) : exb (famH (tX12_table_21 kb) kb) 0 bX12_table_21 [(3, 12, a0), (0, 0, a1), (0, 0, a2)] [(0, 0, y0), (3, 12, y1)] s = fX12_table_21 kb a0 a1 a2 y0 y1 s := rfl
noncomputable def bX12_table_29 : List En := [c_aload_n 0, c_iload_n 1, c_iload_n 2, c_invv 298 [] gX12_tableAt mdX12_tableAt, c_ireturn]
theorem eX12_table_29 (kb : Co) (a0 a1 a2 : Int) (s : St) : exb (famH (tX12_table_29 kb) kb) 0 bX12_table_29 [(3, 12, a0), (0, 0, a1), (0, 0, a2)] [] s = fX12_table_29 kb a0 a1 a2 s := rfl
-- FloatparadeLaw.society(LFloatparade;II[J)I
noncomputable def bL_society_0 : List En := [c_aload_n 3, c_iconst 0, c_aload_n 0, c_iload_n 1, c_iload_n 2, c_invv 7 [1, 13, 2, 17] gX11_society mdX11_society, c_i2l, c_last, c_goto 11 21]
theorem eL_society_0 (kb : Co) (a0 a1 a2 a3 : Int) (s : St) : exb (famH (tL_society_0 kb) kb) 0 bL_society_0 [(3, 11, a0), (0, 0, a1), (0, 0, a2), (3, 60, a3), (7, 0, 0)] [] s = fL_society_0 kb a0 a1 a2 a3 s := rfl
noncomputable def bL_society_13 : List En := [c_astore 4, c_iconst 1, c_ireturn]
theorem eL_society_13 (kb : Co) (y0 : Int) (s : St) : exb (famH (tL_society_13 kb) kb) 0 bL_society_13 [(7, 0, 0), (7, 0, 0), (7, 0, 0), (7, 0, 0), (7, 0, 0)] [(8, 0, y0)] s = fL_society_13 kb y0 s := rfl
noncomputable def bL_society_17 : List En := [c_astore 4, c_iconst 2, c_ireturn]
theorem eL_society_17 (kb : Co) (y0 : Int) (s : St) : exb (famH (tL_society_17 kb) kb) 0 bL_society_17 [(7, 0, 0), (7, 0, 0), (7, 0, 0), (7, 0, 0), (7, 0, 0)] [(8, 0, y0)] s = fL_society_17 kb y0 s := rfl
noncomputable def bL_society_21 : List En := [c_iconst 0, c_ireturn]
theorem eL_society_21 (kb : Co) (s : St) : exb (famH (tL_society_21 kb) kb) 0 bL_society_21 [(7, 0, 0), (7, 0, 0), (7, 0, 0), (7, 0, 0), (7, 0, 0)] [] s = fL_society_21 kb s := rfl
-- FloatparadeLaw.feud(LFloatparade;IIZ[J)I
noncomputable def bL_feud_0 : List En := [c_aload 4, c_iconst 0, c_aload_n 0, c_iload_n 1, c_iload_n 2, c_iload_n 3, c_invv 17 [3, 22, 1, 26] gX11_feud mdX11_feud, c_if .eq 7 17, c_lconst1, c_goto 4 18]
theorem eL_feud_0 (kb : Co) (a0 a1 a2 a3 a4 : Int) (s : St) : exb (famH (tL_feud_0 kb) kb) 0 bL_feud_0 [(3, 11, a0), (0, 0, a1), (0, 0, a2), (0, 0, a3), (3, 60, a4), (7, 0, 0)] [] s = fL_feud_0 kb a0 a1 a2 a3 a4 s := rfl
noncomputable def bL_feud_17 : List En := [c_lconst0]
theorem eL_feud_17 (kb : Co) (y0 y1 : Int) (s : St) : exb (famH (tL_feud_17 kb) kb) 18 bL_feud_17 [(7, 0, 0), (7, 0, 0), (7, 0, 0), (7, 0, 0), (7, 0, 0), (7, 0, 0)] [(0, 0, y0), (3, 60, y1)] s = fL_feud_17 kb y0 y1 s := rfl
noncomputable def bL_feud_18 : List En := [c_last, c_goto 11 30]
theorem eL_feud_18 (kb : Co) (y0 y1 y2 : Int) (s : St) : exb (famH (tL_feud_18 kb) kb) 0 bL_feud_18 [(7, 0, 0), (7, 0, 0), (7, 0, 0), (7, 0, 0), (7, 0, 0), (7, 0, 0)] [(1, 0, y0), (0, 0, y1), (3, 60, y2)] s = fL_feud_18 kb y0 y1 y2 s := rfl
noncomputable def bL_feud_22 : List En := [c_astore 5, c_iconst 1, c_ireturn]
theorem eL_feud_22 (kb : Co) (y0 : Int) (s : St) : exb (famH (tL_feud_22 kb) kb) 0 bL_feud_22 [(7, 0, 0), (7, 0, 0), (7, 0, 0), (7, 0, 0), (7, 0, 0), (7, 0, 0)] [(8, 0, y0)] s = fL_feud_22 kb y0 s := rfl
noncomputable def bL_feud_26 : List En := [c_astore 5, c_iconst 2, c_ireturn]
theorem eL_feud_26 (kb : Co) (y0 : Int) (s : St) : exb (famH (tL_feud_26 kb) kb) 0 bL_feud_26 [(7, 0, 0), (7, 0, 0), (7, 0, 0), (7, 0, 0), (7, 0, 0), (7, 0, 0)] [(8, 0, y0)] s = fL_feud_26 kb y0 s := rfl
noncomputable def bL_feud_30 : List En := [c_iconst 0, c_ireturn]
theorem eL_feud_30 (kb : Co) (s : St) : exb (famH (tL_feud_30 kb) kb) 0 bL_feud_30 [(7, 0, 0), (7, 0, 0), (7, 0, 0), (7, 0, 0), (7, 0, 0), (7, 0, 0)] [] s = fL_feud_30 kb s := rfl
-- FloatparadeLaw.theme(LFloatparade;III[J)I
noncomputable def bL_theme_0 : List En := [c_aload 4, c_iconst 0, c_aload_n 0, c_iload_n 1, c_iload_n 2, c_iload_n 3, c_invv 23 [3, 15, 1, 19] gX11_theme mdX11_theme, c_i2l, c_last, c_goto 11 23]
theorem eL_theme_0 (kb : Co) (a0 a1 a2 a3 a4 : Int) (s : St) : exb (famH (tL_theme_0 kb) kb) 0 bL_theme_0 [(3, 11, a0), (0, 0, a1), (0, 0, a2), (0, 0, a3), (3, 60, a4), (7, 0, 0)] [] s = fL_theme_0 kb a0 a1 a2 a3 a4 s := rfl
noncomputable def bL_theme_15 : List En := [c_astore 5, c_iconst 1, c_ireturn]
theorem eL_theme_15 (kb : Co) (y0 : Int) (s : St) : exb (famH (tL_theme_15 kb) kb) 0 bL_theme_15 [(7, 0, 0), (7, 0, 0), (7, 0, 0), (7, 0, 0), (7, 0, 0), (7, 0, 0)] [(8, 0, y0)] s = fL_theme_15 kb y0 s := rfl
noncomputable def bL_theme_19 : List En := [c_astore 5, c_iconst 2, c_ireturn]
theorem eL_theme_19 (kb : Co) (y0 : Int) (s : St) : exb (famH (tL_theme_19 kb) kb) 0 bL_theme_19 [(7, 0, 0), (7, 0, 0), (7, 0, 0), (7, 0, 0), (7, 0, 0), (7, 0, 0)] [(8, 0, y0)] s = fL_theme_19 kb y0 s := rfl
noncomputable def bL_theme_23 : List En := [c_iconst 0, c_ireturn]
theorem eL_theme_23 (kb : Co) (s : St) : exb (famH (tL_theme_23 kb) kb) 0 bL_theme_23 [(7, 0, 0), (7, 0, 0), (7, 0, 0), (7, 0, 0), (7, 0, 0), (7, 0, 0)] [] s = fL_theme_23 kb s := rfl
-- FloatparadeLaw.song(LFloatparade;I[J)I
noncomputable def bL_song_0 : List En := [c_aload_n 2, c_iconst 0, c_aload_n 0, c_iload_n 1, c_invv 27 [3, 12, 2, 15] gX11_song mdX11_song, c_i2l, c_last, c_goto 9 18]
theorem eL_song_0 (kb : Co) (a0 a1 a2 : Int) (s : St) : exb (famH (tL_song_0 kb) kb) 0 bL_song_0 [(3, 11, a0), (0, 0, a1), (3, 60, a2), (7, 0, 0)] [] s = fL_song_0 kb a0 a1 a2 s := rfl
noncomputable def bL_song_12 : List En := [c_astore_n 3, c_iconst 1, c_ireturn]
theorem eL_song_12 (kb : Co) (y0 : Int) (s : St) : exb (famH (tL_song_12 kb) kb) 0 bL_song_12 [(7, 0, 0), (7, 0, 0), (7, 0, 0), (7, 0, 0)] [(8, 0, y0)] s = fL_song_12 kb y0 s := rfl
noncomputable def bL_song_15 : List En := [c_astore_n 3, c_iconst 2, c_ireturn]
theorem eL_song_15 (kb : Co) (y0 : Int) (s : St) : exb (famH (tL_song_15 kb) kb) 0 bL_song_15 [(7, 0, 0), (7, 0, 0), (7, 0, 0), (7, 0, 0)] [(8, 0, y0)] s = fL_song_15 kb y0 s := rfl
noncomputable def bL_song_18 : List En := [c_iconst 0, c_ireturn]
theorem eL_song_18 (kb : Co) (s : St) : exb (famH (tL_song_18 kb) kb) 0 bL_song_18 [(7, 0, 0), (7, 0, 0), (7, 0, 0), (7, 0, 0)] [] s = fL_song_18 kb s := rfl
-- FloatparadeLaw.vote(LFloatparade;III[J)I
noncomputable def bL_vote_0 : List En := [c_aload 4, c_iconst 0, c_aload_n 0, c_iload_n 1, c_iload_n 2, c_iload_n 3, c_invv 31 [3, 15, 1, 19, 2, 23] gX11_vote mdX11_vote, c_i2l, c_last, c_goto 15 27]
theorem eL_vote_0 (kb : Co) (a0 a1 a2 a3 a4 : Int) (s : St) : exb (famH (tL_vote_0 kb) kb) 0 bL_vote_0 [(3, 11, a0), (0, 0, a1), (0, 0, a2), (0, 0, a3), (3, 60, a4), (7, 0, 0)] [] s = fL_vote_0 kb a0 a1 a2 a3 a4 s := rfl
noncomputable def bL_vote_15 : List En := [c_astore 5, c_iconst 1, c_ireturn]
theorem eL_vote_15 (kb : Co) (y0 : Int) (s : St) : exb (famH (tL_vote_15 kb) kb) 0 bL_vote_15 [(7, 0, 0), (7, 0, 0), (7, 0, 0), (7, 0, 0), (7, 0, 0), (7, 0, 0)] [(8, 0, y0)] s = fL_vote_15 kb y0 s := rfl
noncomputable def bL_vote_19 : List En := [c_astore 5, c_iconst 2, c_ireturn]
theorem eL_vote_19 (kb : Co) (y0 : Int) (s : St) : exb (famH (tL_vote_19 kb) kb) 0 bL_vote_19 [(7, 0, 0), (7, 0, 0), (7, 0, 0), (7, 0, 0), (7, 0, 0), (7, 0, 0)] [(8, 0, y0)] s = fL_vote_19 kb y0 s := rfl
noncomputable def bL_vote_23 : List En := [c_astore 5, c_iconst 3, c_ireturn]
theorem eL_vote_23 (kb : Co) (y0 : Int) (s : St) : exb (famH (tL_vote_23 kb) kb) 0 bL_vote_23 [(7, 0, 0), (7, 0, 0), (7, 0, 0), (7, 0, 0), (7, 0, 0), (7, 0, 0)] [(8, 0, y0)] s = fL_vote_23 kb y0 s := rfl
noncomputable def bL_vote_27 : List En := [c_iconst 0, c_ireturn]
theorem eL_vote_27 (kb : Co) (s : St) : exb (famH (tL_vote_27 kb) kb) 0 bL_vote_27 [(7, 0, 0), (7, 0, 0), (7, 0, 0), (7, 0, 0), (7, 0, 0), (7, 0, 0)] [] s = fL_vote_27 kb s := rfl
-- FloatparadeLaw.round(LFloatparade;I[J)I
noncomputable def bL_round_0 : List En := [c_aload_n 2, c_iconst 0, c_aload_n 0, c_iload_n 1, c_invv 34 [3, 12, 2, 15] gX11_round mdX11_round, c_i2l, c_last, c_goto 9 18]
theorem eL_round_0 (kb : Co) (a0 a1 a2 : Int) (s : St) : exb (famH (tL_round_0 kb) kb) 0 bL_round_0 [(3, 11, a0), (0, 0, a1), (3, 60, a2), (7, 0, 0)] [] s = fL_round_0 kb a0 a1 a2 s := rfl
noncomputable def bL_round_12 : List En := [c_astore_n 3, c_iconst 1, c_ireturn]
theorem eL_round_12 (kb : Co) (y0 : Int) (s : St) : exb (famH (tL_round_12 kb) kb) 0 bL_round_12 [(7, 0, 0), (7, 0, 0), (7, 0, 0), (7, 0, 0)] [(8, 0, y0)] s = fL_round_12 kb y0 s := rfl
noncomputable def bL_round_15 : List En := [c_astore_n 3, c_iconst 2, c_ireturn]
theorem eL_round_15 (kb : Co) (y0 : Int) (s : St) : exb (famH (tL_round_15 kb) kb) 0 bL_round_15 [(7, 0, 0), (7, 0, 0), (7, 0, 0), (7, 0, 0)] [(8, 0, y0)] s = fL_round_15 kb y0 s := rfl
noncomputable def bL_round_18 : List En := [c_iconst 0, c_ireturn]
theorem eL_round_18 (kb : Co) (s : St) : exb (famH (tL_round_18 kb) kb) 0 bL_round_18 [(7, 0, 0), (7, 0, 0), (7, 0, 0), (7, 0, 0)] [] s = fL_round_18 kb s := rfl
-- FloatparadeLaw.street(LFloatparade;IIIIII[J)I
noncomputable def bL_street_0 : List En := [c_aload 7, c_iconst 0, c_aload_n 0, c_iload_n 1, c_iload_n 2, c_iload_n 3, c_iload 4, c_iload 5, c_iload 6, c_invv 37 [3, 21, 1, 25, 2, 29] gX11_street mdX11_street, c_i2l, c_last, c_goto 15 33]
theorem eL_street_0 (kb : Co) (a0 a1 a2 a3 a4 a5 a6 a7 : Int) (s : St) : exb (famH (tL_street_0 kb) kb) 0 bL_street_0 [(3, 11, a0), (0, 0, a1), (0, 0, a2), (0, 0, a3), (0, 0, a4), (0, 0, a5), (0, 0, a6), (3, 60, a7), (7, 0, 0)] [] s = fL_street_0 kb a0 a1 a2 a3 a4 a5 a6 a7 s := rfl
noncomputable def bL_street_21 : List En := [c_astore 8, c_iconst 1, c_ireturn]
theorem eL_street_21 (kb : Co) (y0 : Int) (s : St) : exb (famH (tL_street_21 kb) kb) 0 bL_street_21 [(7, 0, 0), (7, 0, 0), (7, 0, 0), (7, 0, 0), (7, 0, 0), (7, 0, 0), (7, 0, 0), (7, 0, 0), (7, 0, 0)] [(8, 0, y0)] s = fL_street_21 kb y0 s := rfl
noncomputable def bL_street_25 : List En := [c_astore 8, c_iconst 2, c_ireturn]
theorem eL_street_25 (kb : Co) (y0 : Int) (s : St) : exb (famH (tL_street_25 kb) kb) 0 bL_street_25 [(7, 0, 0), (7, 0, 0), (7, 0, 0), (7, 0, 0), (7, 0, 0), (7, 0, 0), (7, 0, 0), (7, 0, 0), (7, 0, 0)] [(8, 0, y0)] s = fL_street_25 kb y0 s := rfl
noncomputable def bL_street_29 : List En := [c_astore 8, c_iconst 3, c_ireturn]
theorem eL_street_29 (kb : Co) (y0 : Int) (s : St) : exb (famH (tL_street_29 kb) kb) 0 bL_street_29 [(7, 0, 0), (7, 0, 0), (7, 0, 0), (7, 0, 0), (7, 0, 0), (7, 0, 0), (7, 0, 0), (7, 0, 0), (7, 0, 0)] [(8, 0, y0)] s = fL_street_29 kb y0 s := rfl
noncomputable def bL_street_33 : List En := [c_iconst 0, c_ireturn]
theorem eL_street_33 (kb : Co) (s : St) : exb (famH (tL_street_33 kb) kb) 0 bL_street_33 [(7, 0, 0), (7, 0, 0), (7, 0, 0), (7, 0, 0), (7, 0, 0), (7, 0, 0), (7, 0, 0), (7, 0, 0), (7, 0, 0)] [] s = fL_street_33 kb s := rfl
-- FloatparadeLaw.route(LFloatparade;II)I
noncomputable def bL_route_0 : List En := [c_aload_n 0, c_iload_n 1, c_iload_n 2, c_invv 41 [3, 9, 1, 12, 2, 15] gX11_route mdX11_route, c_goto 12 18]
theorem eL_route_0 (kb : Co) (a0 a1 a2 : Int) (s : St) : exb (famH (tL_route_0 kb) kb) 0 bL_route_0 [(3, 11, a0), (0, 0, a1), (0, 0, a2), (7, 0, 0)] [] s = fL_route_0 kb a0 a1 a2 s := rfl
noncomputable def bL_route_9 : List En := [c_astore_n 3, c_iconst 1, c_ireturn]
theorem eL_route_9 (kb : Co) (y0 : Int) (s : St) : exb (famH (tL_route_9 kb) kb) 0 bL_route_9 [(7, 0, 0), (7, 0, 0), (7, 0, 0), (7, 0, 0)] [(8, 0, y0)] s = fL_route_9 kb y0 s := rfl
noncomputable def bL_route_12 : List En := [c_astore_n 3, c_iconst 2, c_ireturn]
theorem eL_route_12 (kb : Co) (y0 : Int) (s : St) : exb (famH (tL_route_12 kb) kb) 0 bL_route_12 [(7, 0, 0), (7, 0, 0), (7, 0, 0), (7, 0, 0)] [(8, 0, y0)] s = fL_route_12 kb y0 s := rfl
noncomputable def bL_route_15 : List En := [c_astore_n 3, c_iconst 3, c_ireturn]
theorem eL_route_15 (kb : Co) (y0 : Int) (s : St) : exb (famH (tL_route_15 kb) kb) 0 bL_route_15 [(7, 0, 0), (7, 0, 0), (7, 0, 0), (7, 0, 0)] [(8, 0, y0)] s = fL_route_15 kb y0 s := rfl
noncomputable def bL_route_18 : List En := [c_iconst 0, c_ireturn]
theorem eL_route_18 (kb : Co) (s : St) : exb (famH (tL_route_18 kb) kb) 0 bL_route_18 [(7, 0, 0), (7, 0, 0), (7, 0, 0), (7, 0, 0)] [] s = fL_route_18 kb s := rfl
-- FloatparadeLaw.goOn(LFloatparade;II[J)I
noncomputable def bL_goOn_0 : List En := [c_aload_n 3, c_iconst 0, c_aload_n 0, c_iload_n 1, c_iload_n 2, c_invv 45 [3, 13, 1, 17, 2, 21] gX11_goOn mdX11_goOn, c_i2l, c_last, c_goto 15 25]
theorem eL_goOn_0 (kb : Co) (a0 a1 a2 a3 : Int) (s : St) : exb (famH (tL_goOn_0 kb) kb) 0 bL_goOn_0 [(3, 11, a0), (0, 0, a1), (0, 0, a2), (3, 60, a3), (7, 0, 0)] [] s = fL_goOn_0 kb a0 a1 a2 a3 s := rfl
noncomputable def bL_goOn_13 : List En := [c_astore 4, c_iconst 1, c_ireturn]
theorem eL_goOn_13 (kb : Co) (y0 : Int) (s : St) : exb (famH (tL_goOn_13 kb) kb) 0 bL_goOn_13 [(7, 0, 0), (7, 0, 0), (7, 0, 0), (7, 0, 0), (7, 0, 0)] [(8, 0, y0)] s = fL_goOn_13 kb y0 s := rfl
noncomputable def bL_goOn_17 : List En := [c_astore 4, c_iconst 2, c_ireturn]
theorem eL_goOn_17 (kb : Co) (y0 : Int) (s : St) : exb (famH (tL_goOn_17 kb) kb) 0 bL_goOn_17 [(7, 0, 0), (7, 0, 0), (7, 0, 0), (7, 0, 0), (7, 0, 0)] [(8, 0, y0)] s = fL_goOn_17 kb y0 s := rfl
noncomputable def bL_goOn_21 : List En := [c_astore 4, c_iconst 3, c_ireturn]
theorem eL_goOn_21 (kb : Co) (y0 : Int) (s : St) : exb (famH (tL_goOn_21 kb) kb) 0 bL_goOn_21 [(7, 0, 0), (7, 0, 0), (7, 0, 0), (7, 0, 0), (7, 0, 0)] [(8, 0, y0)] s = fL_goOn_21 kb y0 s := rfl
noncomputable def bL_goOn_25 : List En := [c_iconst 0, c_ireturn]
theorem eL_goOn_25 (kb : Co) (s : St) : exb (famH (tL_goOn_25 kb) kb) 0 bL_goOn_25 [(7, 0, 0), (7, 0, 0), (7, 0, 0), (7, 0, 0), (7, 0, 0)] [] s = fL_goOn_25 kb s := rfl
-- FloatparadeLaw.jury(LFloatparade;IZ[J)I
noncomputable def bL_jury_0 : List En := [c_aload_n 3, c_iconst 0, c_aload_n 0, c_iload_n 1, c_iload_n 2, c_invv 48 [3, 20] gX11_jury mdX11_jury, c_if .eq 7 15, c_lconst1, c_goto 4 16]
theorem eL_jury_0 (kb : Co) (a0 a1 a2 a3 : Int) (s : St) : exb (famH (tL_jury_0 kb) kb) 0 bL_jury_0 [(3, 11, a0), (0, 0, a1), (0, 0, a2), (3, 60, a3), (7, 0, 0)] [] s = fL_jury_0 kb a0 a1 a2 a3 s := rfl
noncomputable def bL_jury_15 : List En := [c_lconst0]
theorem eL_jury_15 (kb : Co) (y0 y1 : Int) (s : St) : exb (famH (tL_jury_15 kb) kb) 16 bL_jury_15 [(7, 0, 0), (7, 0, 0), (7, 0, 0), (7, 0, 0), (7, 0, 0)] [(0, 0, y0), (3, 60, y1)] s = fL_jury_15 kb y0 y1 s := rfl
noncomputable def bL_jury_16 : List En := [c_last, c_goto 7 24]
theorem eL_jury_16 (kb : Co) (y0 y1 y2 : Int) (s : St) : exb (famH (tL_jury_16 kb) kb) 0 bL_jury_16 [(7, 0, 0), (7, 0, 0), (7, 0, 0), (7, 0, 0), (7, 0, 0)] [(1, 0, y0), (0, 0, y1), (3, 60, y2)] s = fL_jury_16 kb y0 y1 y2 s := rfl
noncomputable def bL_jury_20 : List En := [c_astore 4, c_iconst 1, c_ireturn]
theorem eL_jury_20 (kb : Co) (y0 : Int) (s : St) : exb (famH (tL_jury_20 kb) kb) 0 bL_jury_20 [(7, 0, 0), (7, 0, 0), (7, 0, 0), (7, 0, 0), (7, 0, 0)] [(8, 0, y0)] s = fL_jury_20 kb y0 s := rfl
noncomputable def bL_jury_24 : List En := [c_iconst 0, c_ireturn]
theorem eL_jury_24 (kb : Co) (s : St) : exb (famH (tL_jury_24 kb) kb) 0 bL_jury_24 [(7, 0, 0), (7, 0, 0), (7, 0, 0), (7, 0, 0), (7, 0, 0)] [] s = fL_jury_24 kb s := rfl
-- FloatparadeLaw.build(LFloatparade;IIIII[J)I
noncomputable def bL_build_0 : List En := [c_aload 6, c_iconst 0, c_aload_n 0, c_iload_n 1, c_iload_n 2, c_iload_n 3, c_iload 4, c_iload 5, c_invv 52 [3, 19, 1, 23, 2, 27] gX11_build mdX11_build, c_i2l, c_last, c_goto 15 31]
theorem eL_build_0 (kb : Co) (a0 a1 a2 a3 a4 a5 a6 : Int) (s : St) : exb (famH (tL_build_0 kb) kb) 0 bL_build_0 [(3, 11, a0), (0, 0, a1), (0, 0, a2), (0, 0, a3), (0, 0, a4), (0, 0, a5), (3, 60, a6), (7, 0, 0)] [] s = fL_build_0 kb a0 a1 a2 a3 a4 a5 a6 s := rfl
noncomputable def bL_build_19 : List En := [c_astore 7, c_iconst 1, c_ireturn]
theorem eL_build_19 (kb : Co) (y0 : Int) (s : St) : exb (famH (tL_build_19 kb) kb) 0 bL_build_19 [(7, 0, 0), (7, 0, 0), (7, 0, 0), (7, 0, 0), (7, 0, 0), (7, 0, 0), (7, 0, 0), (7, 0, 0)] [(8, 0, y0)] s = fL_build_19 kb y0 s := rfl
noncomputable def bL_build_23 : List En := [c_astore 7, c_iconst 2, c_ireturn]
theorem eL_build_23 (kb : Co) (y0 : Int) (s : St) : exb (famH (tL_build_23 kb) kb) 0 bL_build_23 [(7, 0, 0), (7, 0, 0), (7, 0, 0), (7, 0, 0), (7, 0, 0), (7, 0, 0), (7, 0, 0), (7, 0, 0)] [(8, 0, y0)] s = fL_build_23 kb y0 s := rfl
noncomputable def bL_build_27 : List En := [c_astore 7, c_iconst 3, c_ireturn]
theorem eL_build_27 (kb : Co) (y0 : Int) (s : St) : exb (famH (tL_build_27 kb) kb) 0 bL_build_27 [(7, 0, 0), (7, 0, 0), (7, 0, 0), (7, 0, 0), (7, 0, 0), (7, 0, 0), (7, 0, 0), (7, 0, 0)] [(8, 0, y0)] s = fL_build_27 kb y0 s := rfl
noncomputable def bL_build_31 : List En := [c_iconst 0, c_ireturn]
theorem eL_build_31 (kb : Co) (s : St) : exb (famH (tL_build_31 kb) kb) 0 bL_build_31 [(7, 0, 0), (7, 0, 0), (7, 0, 0), (7, 0, 0), (7, 0, 0), (7, 0, 0), (7, 0, 0), (7, 0, 0)] [] s = fL_build_31 kb s := rfl
-- FloatparadeLaw.cut(LFloatparade;IIIIII[J)I
noncomputable def bL_cut_0 : List En := [c_aload 7, c_iconst 0, c_aload_n 0, c_iload_n 1, c_iload_n 2, c_iload_n 3, c_iload 4, c_iload 5, c_iload 6, c_invv 56 [3, 21, 1, 25, 2, 29] gX11_cut mdX11_cut, c_i2l, c_last, c_goto 15 33]
theorem eL_cut_0 (kb : Co) (a0 a1 a2 a3 a4 a5 a6 a7 : Int) (s : St) : exb (famH (tL_cut_0 kb) kb) 0 bL_cut_0 [(3, 11, a0), (0, 0, a1), (0, 0, a2), (0, 0, a3), (0, 0, a4), (0, 0, a5), (0, 0, a6), (3, 60, a7), (7, 0, 0)] [] s = fL_cut_0 kb a0 a1 a2 a3 a4 a5 a6 a7 s := rfl
noncomputable def bL_cut_21 : List En := [c_astore 8, c_iconst 1, c_ireturn]
theorem eL_cut_21 (kb : Co) (y0 : Int) (s : St) : exb (famH (tL_cut_21 kb) kb) 0 bL_cut_21 [(7, 0, 0), (7, 0, 0), (7, 0, 0), (7, 0, 0), (7, 0, 0), (7, 0, 0), (7, 0, 0), (7, 0, 0), (7, 0, 0)] [(8, 0, y0)] s = fL_cut_21 kb y0 s := rfl
noncomputable def bL_cut_25 : List En := [c_astore 8, c_iconst 2, c_ireturn]
theorem eL_cut_25 (kb : Co) (y0 : Int) (s : St) : exb (famH (tL_cut_25 kb) kb) 0 bL_cut_25 [(7, 0, 0), (7, 0, 0), (7, 0, 0), (7, 0, 0), (7, 0, 0), (7, 0, 0), (7, 0, 0), (7, 0, 0), (7, 0, 0)] [(8, 0, y0)] s = fL_cut_25 kb y0 s := rfl
noncomputable def bL_cut_29 : List En := [c_astore 8, c_iconst 3, c_ireturn]
theorem eL_cut_29 (kb : Co) (y0 : Int) (s : St) : exb (famH (tL_cut_29 kb) kb) 0 bL_cut_29 [(7, 0, 0), (7, 0, 0), (7, 0, 0), (7, 0, 0), (7, 0, 0), (7, 0, 0), (7, 0, 0), (7, 0, 0), (7, 0, 0)] [(8, 0, y0)] s = fL_cut_29 kb y0 s := rfl
noncomputable def bL_cut_33 : List En := [c_iconst 0, c_ireturn]
theorem eL_cut_33 (kb : Co) (s : St) : exb (famH (tL_cut_33 kb) kb) 0 bL_cut_33 [(7, 0, 0), (7, 0, 0), (7, 0, 0), (7, 0, 0), (7, 0, 0), (7, 0, 0), (7, 0, 0), (7, 0, 0), (7, 0, 0)] [] s = fL_cut_33 kb s := rfl
-- FloatparadeLaw.fits(LFloatparade;II[J)I
noncomputable def bL_fits_0 : List En := [c_aload_n 3, c_iconst 0, c_aload_n 0, c_iload_n 1, c_iload_n 2, c_invv 59 [3, 20] gX11_fits mdX11_fits, c_if .eq 7 15, c_lconst1, c_goto 4 16]
theorem eL_fits_0 (kb : Co) (a0 a1 a2 a3 : Int) (s : St) : exb (famH (tL_fits_0 kb) kb) 0 bL_fits_0 [(3, 11, a0), (0, 0, a1), (0, 0, a2), (3, 60, a3), (7, 0, 0)] [] s = fL_fits_0 kb a0 a1 a2 a3 s := rfl
noncomputable def bL_fits_15 : List En := [c_lconst0]
theorem eL_fits_15 (kb : Co) (y0 y1 : Int) (s : St) : exb (famH (tL_fits_15 kb) kb) 16 bL_fits_15 [(7, 0, 0), (7, 0, 0), (7, 0, 0), (7, 0, 0), (7, 0, 0)] [(0, 0, y0), (3, 60, y1)] s = fL_fits_15 kb y0 y1 s := rfl
noncomputable def bL_fits_16 : List En := [c_last, c_goto 7 24]
theorem eL_fits_16 (kb : Co) (y0 y1 y2 : Int) (s : St) : exb (famH (tL_fits_16 kb) kb) 0 bL_fits_16 [(7, 0, 0), (7, 0, 0), (7, 0, 0), (7, 0, 0), (7, 0, 0)] [(1, 0, y0), (0, 0, y1), (3, 60, y2)] s = fL_fits_16 kb y0 y1 y2 s := rfl
noncomputable def bL_fits_20 : List En := [c_astore 4, c_iconst 1, c_ireturn]
theorem eL_fits_20 (kb : Co) (y0 : Int) (s : St) : exb (famH (tL_fits_20 kb) kb) 0 bL_fits_20 [(7, 0, 0), (7, 0, 0), (7, 0, 0), (7, 0, 0), (7, 0, 0)] [(8, 0, y0)] s = fL_fits_20 kb y0 s := rfl
noncomputable def bL_fits_24 : List En := [c_iconst 0, c_ireturn]
theorem eL_fits_24 (kb : Co) (s : St) : exb (famH (tL_fits_24 kb) kb) 0 bL_fits_24 [(7, 0, 0), (7, 0, 0), (7, 0, 0), (7, 0, 0), (7, 0, 0)] [] s = fL_fits_24 kb s := rfl
-- FloatparadeLaw.enter(LFloatparade;II[J)I
noncomputable def bL_enter_0 : List En := [c_aload_n 3, c_iconst 0, c_aload_n 0, c_iload_n 1, c_iload_n 2, c_invv 63 [3, 13, 1, 17, 2, 21] gX11_enter mdX11_enter, c_i2l, c_last, c_goto 15 25]
theorem eL_enter_0 (kb : Co) (a0 a1 a2 a3 : Int) (s : St) : exb (famH (tL_enter_0 kb) kb) 0 bL_enter_0 [(3, 11, a0), (0, 0, a1), (0, 0, a2), (3, 60, a3), (7, 0, 0)] [] s = fL_enter_0 kb a0 a1 a2 a3 s := rfl
noncomputable def bL_enter_13 : List En := [c_astore 4, c_iconst 1, c_ireturn]
theorem eL_enter_13 (kb : Co) (y0 : Int) (s : St) : exb (famH (tL_enter_13 kb) kb) 0 bL_enter_13 [(7, 0, 0), (7, 0, 0), (7, 0, 0), (7, 0, 0), (7, 0, 0)] [(8, 0, y0)] s = fL_enter_13 kb y0 s := rfl
noncomputable def bL_enter_17 : List En := [c_astore 4, c_iconst 2, c_ireturn]
theorem eL_enter_17 (kb : Co) (y0 : Int) (s : St) : exb (famH (tL_enter_17 kb) kb) 0 bL_enter_17 [(7, 0, 0), (7, 0, 0), (7, 0, 0), (7, 0, 0), (7, 0, 0)] [(8, 0, y0)] s = fL_enter_17 kb y0 s := rfl
noncomputable def bL_enter_21 : List En := [c_astore 4, c_iconst 3, c_ireturn]
theorem eL_enter_21 (kb : Co) (y0 : Int) (s : St) : exb (famH (tL_enter_21 kb) kb) 0 bL_enter_21 [(7, 0, 0), (7, 0, 0), (7, 0, 0), (7, 0, 0), (7, 0, 0)] [(8, 0, y0)] s = fL_enter_21 kb y0 s := rfl
noncomputable def bL_enter_25 : List En := [c_iconst 0, c_ireturn]
theorem eL_enter_25 (kb : Co) (s : St) : exb (famH (tL_enter_25 kb) kb) 0 bL_enter_25 [(7, 0, 0), (7, 0, 0), (7, 0, 0), (7, 0, 0), (7, 0, 0)] [] s = fL_enter_25 kb s := rfl
-- FloatparadeLaw.change(LFloatparade;II[J)I
noncomputable def bL_change_0 : List En := [c_aload_n 3, c_iconst 0, c_aload_n 0, c_iload_n 1, c_iload_n 2, c_invv 66 [3, 20, 1, 24, 2, 28] gX11_change mdX11_change, c_if .eq 7 15, c_lconst1, c_goto 4 16]
theorem eL_change_0 (kb : Co) (a0 a1 a2 a3 : Int) (s : St) : exb (famH (tL_change_0 kb) kb) 0 bL_change_0 [(3, 11, a0), (0, 0, a1), (0, 0, a2), (3, 60, a3), (7, 0, 0)] [] s = fL_change_0 kb a0 a1 a2 a3 s := rfl
noncomputable def bL_change_15 : List En := [c_lconst0]
theorem eL_change_15 (kb : Co) (y0 y1 : Int) (s : St) : exb (famH (tL_change_15 kb) kb) 16 bL_change_15 [(7, 0, 0), (7, 0, 0), (7, 0, 0), (7, 0, 0), (7, 0, 0)] [(0, 0, y0), (3, 60, y1)] s = fL_change_15 kb y0 y1 s := rfl
noncomputable def bL_change_16 : List En := [c_last, c_goto 15 32]
theorem eL_change_16 (kb : Co) (y0 y1 y2 : Int) (s : St) : exb (famH (tL_change_16 kb) kb) 0 bL_change_16 [(7, 0, 0), (7, 0, 0), (7, 0, 0), (7, 0, 0), (7, 0, 0)] [(1, 0, y0), (0, 0, y1), (3, 60, y2)] s = fL_change_16 kb y0 y1 y2 s := rfl
noncomputable def bL_change_20 : List En := [c_astore 4, c_iconst 1, c_ireturn]
theorem eL_change_20 (kb : Co) (y0 : Int) (s : St) : exb (famH (tL_change_20 kb) kb) 0 bL_change_20 [(7, 0, 0), (7, 0, 0), (7, 0, 0), (7, 0, 0), (7, 0, 0)] [(8, 0, y0)] s = fL_change_20 kb y0 s := rfl
noncomputable def bL_change_24 : List En := [c_astore 4, c_iconst 2, c_ireturn]
theorem eL_change_24 (kb : Co) (y0 : Int) (s : St) : exb (famH (tL_change_24 kb) kb) 0 bL_change_24 [(7, 0, 0), (7, 0, 0), (7, 0, 0), (7, 0, 0), (7, 0, 0)] [(8, 0, y0)] s = fL_change_24 kb y0 s := rfl
noncomputable def bL_change_28 : List En := [c_astore 4, c_iconst 3, c_ireturn]
theorem eL_change_28 (kb : Co) (y0 : Int) (s : St) : exb (famH (tL_change_28 kb) kb) 0 bL_change_28 [(7, 0, 0), (7, 0, 0), (7, 0, 0), (7, 0, 0), (7, 0, 0)] [(8, 0, y0)] s = fL_change_28 kb y0 s := rfl
noncomputable def bL_change_32 : List En := [c_iconst 0, c_ireturn]
theorem eL_change_32 (kb : Co) (s : St) : exb (famH (tL_change_32 kb) kb) 0 bL_change_32 [(7, 0, 0), (7, 0, 0), (7, 0, 0), (7, 0, 0), (7, 0, 0)] [] s = fL_change_32 kb s := rfl
-- FloatparadeLaw.order(LFloatparade;II[J)I
noncomputable def bL_order_0 : List En := [c_aload_n 3, c_iconst 0, c_aload_n 0, c_iload_n 1, c_iload_n 2, c_invv 69 [3, 13, 1, 17] gX11_order mdX11_order, c_i2l, c_last, c_goto 11 21]
theorem eL_order_0 (kb : Co) (a0 a1 a2 a3 : Int) (s : St) : exb (famH (tL_order_0 kb) kb) 0 bL_order_0 [(3, 11, a0), (0, 0, a1), (0, 0, a2), (3, 60, a3), (7, 0, 0)] [] s = fL_order_0 kb a0 a1 a2 a3 s := rfl
noncomputable def bL_order_13 : List En := [c_astore 4, c_iconst 1, c_ireturn]
theorem eL_order_13 (kb : Co) (y0 : Int) (s : St) : exb (famH (tL_order_13 kb) kb) 0 bL_order_13 [(7, 0, 0), (7, 0, 0), (7, 0, 0), (7, 0, 0), (7, 0, 0)] [(8, 0, y0)] s = fL_order_13 kb y0 s := rfl
noncomputable def bL_order_17 : List En := [c_astore 4, c_iconst 2, c_ireturn]
theorem eL_order_17 (kb : Co) (y0 : Int) (s : St) : exb (famH (tL_order_17 kb) kb) 0 bL_order_17 [(7, 0, 0), (7, 0, 0), (7, 0, 0), (7, 0, 0), (7, 0, 0)] [(8, 0, y0)] s = fL_order_17 kb y0 s := rfl
noncomputable def bL_order_21 : List En := [c_iconst 0, c_ireturn]
theorem eL_order_21 (kb : Co) (s : St) : exb (famH (tL_order_21 kb) kb) 0 bL_order_21 [(7, 0, 0), (7, 0, 0), (7, 0, 0), (7, 0, 0), (7, 0, 0)] [] s = fL_order_21 kb s := rfl
-- FloatparadeLaw.begin(LFloatparade;III[J)I
noncomputable def bL_begin_0 : List En := [c_aload 4, c_iconst 0, c_aload_n 0, c_iload_n 1, c_iload_n 2, c_iload_n 3, c_invv 72 [1, 15, 2, 19] gX11_begin mdX11_begin, c_i2l, c_last, c_goto 11 23]
theorem eL_begin_0 (kb : Co) (a0 a1 a2 a3 a4 : Int) (s : St) : exb (famH (tL_begin_0 kb) kb) 0 bL_begin_0 [(3, 11, a0), (0, 0, a1), (0, 0, a2), (0, 0, a3), (3, 60, a4), (7, 0, 0)] [] s = fL_begin_0 kb a0 a1 a2 a3 a4 s := rfl
noncomputable def bL_begin_15 : List En := [c_astore 5, c_iconst 1, c_ireturn]
theorem eL_begin_15 (kb : Co) (y0 : Int) (s : St) : exb (famH (tL_begin_15 kb) kb) 0 bL_begin_15 [(7, 0, 0), (7, 0, 0), (7, 0, 0), (7, 0, 0), (7, 0, 0), (7, 0, 0)] [(8, 0, y0)] s = fL_begin_15 kb y0 s := rfl
noncomputable def bL_begin_19 : List En := [c_astore 5, c_iconst 2, c_ireturn]
theorem eL_begin_19 (kb : Co) (y0 : Int) (s : St) : exb (famH (tL_begin_19 kb) kb) 0 bL_begin_19 [(7, 0, 0), (7, 0, 0), (7, 0, 0), (7, 0, 0), (7, 0, 0), (7, 0, 0)] [(8, 0, y0)] s = fL_begin_19 kb y0 s := rfl
noncomputable def bL_begin_23 : List En := [c_iconst 0, c_ireturn]
theorem eL_begin_23 (kb : Co) (s : St) : exb (famH (tL_begin_23 kb) kb) 0 bL_begin_23 [(7, 0, 0), (7, 0, 0), (7, 0, 0), (7, 0, 0), (7, 0, 0), (7, 0, 0)] [] s = fL_begin_23 kb s := rfl
-- FloatparadeLaw.stop(LFloatparade;III[J)I
noncomputable def bL_stop_0 : List En := [c_aload 4, c_iconst 0, c_aload_n 0, c_iload_n 1, c_iload_n 2, c_iload_n 3, c_invv 75 [1, 15, 2, 19, 3, 23] gX11_stop mdX11_stop, c_i2l, c_last, c_goto 15 27]
theorem eL_stop_0 (kb : Co) (a0 a1 a2 a3 a4 : Int) (s : St) : exb (famH (tL_stop_0 kb) kb) 0 bL_stop_0 [(3, 11, a0), (0, 0, a1), (0, 0, a2), (0, 0, a3), (3, 60, a4), (7, 0, 0)] [] s = fL_stop_0 kb a0 a1 a2 a3 a4 s := rfl
noncomputable def bL_stop_15 : List En := [c_astore 5, c_iconst 1, c_ireturn]
theorem eL_stop_15 (kb : Co) (y0 : Int) (s : St) : exb (famH (tL_stop_15 kb) kb) 0 bL_stop_15 [(7, 0, 0), (7, 0, 0), (7, 0, 0), (7, 0, 0), (7, 0, 0), (7, 0, 0)] [(8, 0, y0)] s = fL_stop_15 kb y0 s := rfl
noncomputable def bL_stop_19 : List En := [c_astore 5, c_iconst 2, c_ireturn]
theorem eL_stop_19 (kb : Co) (y0 : Int) (s : St) : exb (famH (tL_stop_19 kb) kb) 0 bL_stop_19 [(7, 0, 0), (7, 0, 0), (7, 0, 0), (7, 0, 0), (7, 0, 0), (7, 0, 0)] [(8, 0, y0)] s = fL_stop_19 kb y0 s := rfl
noncomputable def bL_stop_23 : List En := [c_astore 5, c_iconst 3, c_ireturn]
theorem eL_stop_23 (kb : Co) (y0 : Int) (s : St) : exb (famH (tL_stop_23 kb) kb) 0 bL_stop_23 [(7, 0, 0), (7, 0, 0), (7, 0, 0), (7, 0, 0), (7, 0, 0), (7, 0, 0)] [(8, 0, y0)] s = fL_stop_23 kb y0 s := rfl
noncomputable def bL_stop_27 : List En := [c_iconst 0, c_ireturn]
theorem eL_stop_27 (kb : Co) (s : St) : exb (famH (tL_stop_27 kb) kb) 0 bL_stop_27 [(7, 0, 0), (7, 0, 0), (7, 0, 0), (7, 0, 0), (7, 0, 0), (7, 0, 0)] [] s = fL_stop_27 kb s := rfl
-- FloatparadeLaw.ambulance(LFloatparade;I[J)I
noncomputable def bL_ambulance_0 : List En := [c_aload_n 2, c_iconst 0, c_aload_n 0, c_iload_n 1, c_invv 78 [3, 12] gX11_ambulance mdX11_ambulance, c_i2l, c_last, c_goto 6 15]
theorem eL_ambulance_0 (kb : Co) (a0 a1 a2 : Int) (s : St) : exb (famH (tL_ambulance_0 kb) kb) 0 bL_ambulance_0 [(3, 11, a0), (0, 0, a1), (3, 60, a2), (7, 0, 0)] [] s = fL_ambulance_0 kb a0 a1 a2 s := rfl
noncomputable def bL_ambulance_12 : List En := [c_astore_n 3, c_iconst 1, c_ireturn]
theorem eL_ambulance_12 (kb : Co) (y0 : Int) (s : St) : exb (famH (tL_ambulance_12 kb) kb) 0 bL_ambulance_12 [(7, 0, 0), (7, 0, 0), (7, 0, 0), (7, 0, 0)] [(8, 0, y0)] s = fL_ambulance_12 kb y0 s := rfl
noncomputable def bL_ambulance_15 : List En := [c_iconst 0, c_ireturn]
theorem eL_ambulance_15 (kb : Co) (s : St) : exb (famH (tL_ambulance_15 kb) kb) 0 bL_ambulance_15 [(7, 0, 0), (7, 0, 0), (7, 0, 0), (7, 0, 0)] [] s = fL_ambulance_15 kb s := rfl
-- FloatparadeLaw.march(LFloatparade;II[J)I
noncomputable def bL_march_0 : List En := [c_aload_n 3, c_iconst 0, c_aload_n 0, c_iload_n 1, c_iload_n 2, c_invv 81 [1, 13, 2, 17] gX11_march mdX11_march, c_i2l, c_last, c_goto 11 21]
theorem eL_march_0 (kb : Co) (a0 a1 a2 a3 : Int) (s : St) : exb (famH (tL_march_0 kb) kb) 0 bL_march_0 [(3, 11, a0), (0, 0, a1), (0, 0, a2), (3, 60, a3), (7, 0, 0)] [] s = fL_march_0 kb a0 a1 a2 a3 s := rfl
noncomputable def bL_march_13 : List En := [c_astore 4, c_iconst 1, c_ireturn]
theorem eL_march_13 (kb : Co) (y0 : Int) (s : St) : exb (famH (tL_march_13 kb) kb) 0 bL_march_13 [(7, 0, 0), (7, 0, 0), (7, 0, 0), (7, 0, 0), (7, 0, 0)] [(8, 0, y0)] s = fL_march_13 kb y0 s := rfl
noncomputable def bL_march_17 : List En := [c_astore 4, c_iconst 2, c_ireturn]
theorem eL_march_17 (kb : Co) (y0 : Int) (s : St) : exb (famH (tL_march_17 kb) kb) 0 bL_march_17 [(7, 0, 0), (7, 0, 0), (7, 0, 0), (7, 0, 0), (7, 0, 0)] [(8, 0, y0)] s = fL_march_17 kb y0 s := rfl
noncomputable def bL_march_21 : List En := [c_iconst 0, c_ireturn]
theorem eL_march_21 (kb : Co) (s : St) : exb (famH (tL_march_21 kb) kb) 0 bL_march_21 [(7, 0, 0), (7, 0, 0), (7, 0, 0), (7, 0, 0), (7, 0, 0)] [] s = fL_march_21 kb s := rfl
-- FloatparadeLaw.part(LFloatparade;III[J)I
noncomputable def bL_part_0 : List En := [c_aload 4, c_iconst 0, c_aload_n 0, c_iload_n 1, c_iload_n 2, c_iload_n 3, c_invv 84 [1, 15, 2, 19, 3, 23] gX11_part mdX11_part, c_i2l, c_last, c_goto 15 27]
theorem eL_part_0 (kb : Co) (a0 a1 a2 a3 a4 : Int) (s : St) : exb (famH (tL_part_0 kb) kb) 0 bL_part_0 [(3, 11, a0), (0, 0, a1), (0, 0, a2), (0, 0, a3), (3, 60, a4), (7, 0, 0)] [] s = fL_part_0 kb a0 a1 a2 a3 a4 s := rfl
noncomputable def bL_part_15 : List En := [c_astore 5, c_iconst 1, c_ireturn]
theorem eL_part_15 (kb : Co) (y0 : Int) (s : St) : exb (famH (tL_part_15 kb) kb) 0 bL_part_15 [(7, 0, 0), (7, 0, 0), (7, 0, 0), (7, 0, 0), (7, 0, 0), (7, 0, 0)] [(8, 0, y0)] s = fL_part_15 kb y0 s := rfl
noncomputable def bL_part_19 : List En := [c_astore 5, c_iconst 2, c_ireturn]
theorem eL_part_19 (kb : Co) (y0 : Int) (s : St) : exb (famH (tL_part_19 kb) kb) 0 bL_part_19 [(7, 0, 0), (7, 0, 0), (7, 0, 0), (7, 0, 0), (7, 0, 0), (7, 0, 0)] [(8, 0, y0)] s = fL_part_19 kb y0 s := rfl
noncomputable def bL_part_23 : List En := [c_astore 5, c_iconst 3, c_ireturn]
theorem eL_part_23 (kb : Co) (y0 : Int) (s : St) : exb (famH (tL_part_23 kb) kb) 0 bL_part_23 [(7, 0, 0), (7, 0, 0), (7, 0, 0), (7, 0, 0), (7, 0, 0), (7, 0, 0)] [(8, 0, y0)] s = fL_part_23 kb y0 s := rfl
noncomputable def bL_part_27 : List En := [c_iconst 0, c_ireturn]
theorem eL_part_27 (kb : Co) (s : St) : exb (famH (tL_part_27 kb) kb) 0 bL_part_27 [(7, 0, 0), (7, 0, 0), (7, 0, 0), (7, 0, 0), (7, 0, 0), (7, 0, 0)] [] s = fL_part_27 kb s := rfl
-- FloatparadeLaw.clock(LFloatparade;II[J)I
noncomputable def bL_clock_0 : List En := [c_aload_n 3, c_iconst 0, c_aload_n 0, c_iload_n 1, c_iload_n 2, c_invv 87 [3, 13, 1, 17] gX11_clock mdX11_clock, c_i2l, c_last, c_goto 11 21]
theorem eL_clock_0 (kb : Co) (a0 a1 a2 a3 : Int) (s : St) : exb (famH (tL_clock_0 kb) kb) 0 bL_clock_0 [(3, 11, a0), (0, 0, a1), (0, 0, a2), (3, 60, a3), (7, 0, 0)] [] s = fL_clock_0 kb a0 a1 a2 a3 s := rfl
noncomputable def bL_clock_13 : List En := [c_astore 4, c_iconst 1, c_ireturn]
theorem eL_clock_13 (kb : Co) (y0 : Int) (s : St) : exb (famH (tL_clock_13 kb) kb) 0 bL_clock_13 [(7, 0, 0), (7, 0, 0), (7, 0, 0), (7, 0, 0), (7, 0, 0)] [(8, 0, y0)] s = fL_clock_13 kb y0 s := rfl
noncomputable def bL_clock_17 : List En := [c_astore 4, c_iconst 2, c_ireturn]
theorem eL_clock_17 (kb : Co) (y0 : Int) (s : St) : exb (famH (tL_clock_17 kb) kb) 0 bL_clock_17 [(7, 0, 0), (7, 0, 0), (7, 0, 0), (7, 0, 0), (7, 0, 0)] [(8, 0, y0)] s = fL_clock_17 kb y0 s := rfl
noncomputable def bL_clock_21 : List En := [c_iconst 0, c_ireturn]
theorem eL_clock_21 (kb : Co) (s : St) : exb (famH (tL_clock_21 kb) kb) 0 bL_clock_21 [(7, 0, 0), (7, 0, 0), (7, 0, 0), (7, 0, 0), (7, 0, 0)] [] s = fL_clock_21 kb s := rfl
-- FloatparadeLaw.note(LFloatparade;IIII[J)I
noncomputable def bL_note_0 : List En := [c_aload 5, c_iconst 0, c_aload_n 0, c_iload_n 1, c_iload_n 2, c_iload_n 3, c_iload 4, c_invv 90 [3, 17, 1, 21, 2, 25] gX11_note mdX11_note, c_i2l, c_last, c_goto 15 29]
theorem eL_note_0 (kb : Co) (a0 a1 a2 a3 a4 a5 : Int) (s : St) : exb (famH (tL_note_0 kb) kb) 0 bL_note_0 [(3, 11, a0), (0, 0, a1), (0, 0, a2), (0, 0, a3), (0, 0, a4), (3, 60, a5), (7, 0, 0)] [] s = fL_note_0 kb a0 a1 a2 a3 a4 a5 s := rfl
noncomputable def bL_note_17 : List En := [c_astore 6, c_iconst 1, c_ireturn]
theorem eL_note_17 (kb : Co) (y0 : Int) (s : St) : exb (famH (tL_note_17 kb) kb) 0 bL_note_17 [(7, 0, 0), (7, 0, 0), (7, 0, 0), (7, 0, 0), (7, 0, 0), (7, 0, 0), (7, 0, 0)] [(8, 0, y0)] s = fL_note_17 kb y0 s := rfl
noncomputable def bL_note_21 : List En := [c_astore 6, c_iconst 2, c_ireturn]
theorem eL_note_21 (kb : Co) (y0 : Int) (s : St) : exb (famH (tL_note_21 kb) kb) 0 bL_note_21 [(7, 0, 0), (7, 0, 0), (7, 0, 0), (7, 0, 0), (7, 0, 0), (7, 0, 0), (7, 0, 0)] [(8, 0, y0)] s = fL_note_21 kb y0 s := rfl
noncomputable def bL_note_25 : List En := [c_astore 6, c_iconst 3, c_ireturn]
theorem eL_note_25 (kb : Co) (y0 : Int) (s : St) : exb (famH (tL_note_25 kb) kb) 0 bL_note_25 [(7, 0, 0), (7, 0, 0), (7, 0, 0), (7, 0, 0), (7, 0, 0), (7, 0, 0), (7, 0, 0)] [(8, 0, y0)] s = fL_note_25 kb y0 s := rfl
noncomputable def bL_note_29 : List En := [c_iconst 0, c_ireturn]
theorem eL_note_29 (kb : Co) (s : St) : exb (famH (tL_note_29 kb) kb) 0 bL_note_29 [(7, 0, 0), (7, 0, 0), (7, 0, 0), (7, 0, 0), (7, 0, 0), (7, 0, 0), (7, 0, 0)] [] s = fL_note_29 kb s := rfl
-- FloatparadeLaw.penalty(LFloatparade;III[J)I
noncomputable def bL_penalty_0 : List En := [c_aload 4, c_iconst 0, c_aload_n 0, c_iload_n 1, c_iload_n 2, c_iload_n 3, c_invv 94 [3, 15, 1, 19, 2, 23] gX11_penalty mdX11_penalty, c_i2l, c_last, c_goto 15 27]
theorem eL_penalty_0 (kb : Co) (a0 a1 a2 a3 a4 : Int) (s : St) : exb (famH (tL_penalty_0 kb) kb) 0 bL_penalty_0 [(3, 11, a0), (0, 0, a1), (0, 0, a2), (0, 0, a3), (3, 60, a4), (7, 0, 0)] [] s = fL_penalty_0 kb a0 a1 a2 a3 a4 s := rfl
noncomputable def bL_penalty_15 : List En := [c_astore 5, c_iconst 1, c_ireturn]
theorem eL_penalty_15 (kb : Co) (y0 : Int) (s : St) : exb (famH (tL_penalty_15 kb) kb) 0 bL_penalty_15 [(7, 0, 0), (7, 0, 0), (7, 0, 0), (7, 0, 0), (7, 0, 0), (7, 0, 0)] [(8, 0, y0)] s = fL_penalty_15 kb y0 s := rfl
noncomputable def bL_penalty_19 : List En := [c_astore 5, c_iconst 2, c_ireturn]
theorem eL_penalty_19 (kb : Co) (y0 : Int) (s : St) : exb (famH (tL_penalty_19 kb) kb) 0 bL_penalty_19 [(7, 0, 0), (7, 0, 0), (7, 0, 0), (7, 0, 0), (7, 0, 0), (7, 0, 0)] [(8, 0, y0)] s = fL_penalty_19 kb y0 s := rfl
noncomputable def bL_penalty_23 : List En := [c_astore 5, c_iconst 3, c_ireturn]
theorem eL_penalty_23 (kb : Co) (y0 : Int) (s : St) : exb (famH (tL_penalty_23 kb) kb) 0 bL_penalty_23 [(7, 0, 0), (7, 0, 0), (7, 0, 0), (7, 0, 0), (7, 0, 0), (7, 0, 0)] [(8, 0, y0)] s = fL_penalty_23 kb y0 s := rfl
noncomputable def bL_penalty_27 : List En := [c_iconst 0, c_ireturn]
theorem eL_penalty_27 (kb : Co) (s : St) : exb (famH (tL_penalty_27 kb) kb) 0 bL_penalty_27 [(7, 0, 0), (7, 0, 0), (7, 0, 0), (7, 0, 0), (7, 0, 0), (7, 0, 0)] [] s = fL_penalty_27 kb s := rfl
-- FloatparadeLaw.appeal(LFloatparade;II[J)I
noncomputable def bL_appeal_0 : List En := [c_aload_n 3, c_iconst 0, c_aload_n 0, c_iload_n 1, c_iload_n 2, c_invv 97 [3, 13, 2, 17] gX11_appeal mdX11_appeal, c_i2l, c_last, c_goto 11 21]
theorem eL_appeal_0 (kb : Co) (a0 a1 a2 a3 : Int) (s : St) : exb (famH (tL_appeal_0 kb) kb) 0 bL_appeal_0 [(3, 11, a0), (0, 0, a1), (0, 0, a2), (3, 60, a3), (7, 0, 0)] [] s = fL_appeal_0 kb a0 a1 a2 a3 s := rfl
noncomputable def bL_appeal_13 : List En := [c_astore 4, c_iconst 1, c_ireturn]
theorem eL_appeal_13 (kb : Co) (y0 : Int) (s : St) : exb (famH (tL_appeal_13 kb) kb) 0 bL_appeal_13 [(7, 0, 0), (7, 0, 0), (7, 0, 0), (7, 0, 0), (7, 0, 0)] [(8, 0, y0)] s = fL_appeal_13 kb y0 s := rfl
noncomputable def bL_appeal_17 : List En := [c_astore 4, c_iconst 2, c_ireturn]
theorem eL_appeal_17 (kb : Co) (y0 : Int) (s : St) : exb (famH (tL_appeal_17 kb) kb) 0 bL_appeal_17 [(7, 0, 0), (7, 0, 0), (7, 0, 0), (7, 0, 0), (7, 0, 0)] [(8, 0, y0)] s = fL_appeal_17 kb y0 s := rfl
noncomputable def bL_appeal_21 : List En := [c_iconst 0, c_ireturn]
theorem eL_appeal_21 (kb : Co) (s : St) : exb (famH (tL_appeal_21 kb) kb) 0 bL_appeal_21 [(7, 0, 0), (7, 0, 0), (7, 0, 0), (7, 0, 0), (7, 0, 0)] [] s = fL_appeal_21 kb s := rfl
-- FloatparadeLaw.draw(LFloatparade;I[J)I
noncomputable def bL_draw_0 : List En := [c_aload_n 2, c_iconst 0, c_aload_n 0, c_iload_n 1, c_invv 100 [1, 12] gX11_draw mdX11_draw, c_i2l, c_last, c_goto 6 15]
theorem eL_draw_0 (kb : Co) (a0 a1 a2 : Int) (s : St) : exb (famH (tL_draw_0 kb) kb) 0 bL_draw_0 [(3, 11, a0), (0, 0, a1), (3, 60, a2), (7, 0, 0)] [] s = fL_draw_0 kb a0 a1 a2 s := rfl
noncomputable def bL_draw_12 : List En := [c_astore_n 3, c_iconst 1, c_ireturn]
theorem eL_draw_12 (kb : Co) (y0 : Int) (s : St) : exb (famH (tL_draw_12 kb) kb) 0 bL_draw_12 [(7, 0, 0), (7, 0, 0), (7, 0, 0), (7, 0, 0)] [(8, 0, y0)] s = fL_draw_12 kb y0 s := rfl
noncomputable def bL_draw_15 : List En := [c_iconst 0, c_ireturn]
theorem eL_draw_15 (kb : Co) (s : St) : exb (famH (tL_draw_15 kb) kb) 0 bL_draw_15 [(7, 0, 0), (7, 0, 0), (7, 0, 0), (7, 0, 0)] [] s = fL_draw_15 kb s := rfl
-- FloatparadeLaw.endYear(LFloatparade;[J)I
noncomputable def bL_endYear_0 : List En := [c_aload_n 1, c_iconst 0, c_aload_n 0, c_invv 103 [2, 11] gX11_endYear mdX11_endYear, c_i2l, c_last, c_goto 6 14]
theorem eL_endYear_0 (kb : Co) (a0 a1 : Int) (s : St) : exb (famH (tL_endYear_0 kb) kb) 0 bL_endYear_0 [(3, 11, a0), (3, 60, a1), (7, 0, 0)] [] s = fL_endYear_0 kb a0 a1 s := rfl
noncomputable def bL_endYear_11 : List En := [c_astore_n 2, c_iconst 1, c_ireturn]
theorem eL_endYear_11 (kb : Co) (y0 : Int) (s : St) : exb (famH (tL_endYear_11 kb) kb) 0 bL_endYear_11 [(7, 0, 0), (7, 0, 0), (7, 0, 0)] [(8, 0, y0)] s = fL_endYear_11 kb y0 s := rfl
noncomputable def bL_endYear_14 : List En := [c_iconst 0, c_ireturn]
theorem eL_endYear_14 (kb : Co) (s : St) : exb (famH (tL_endYear_14 kb) kb) 0 bL_endYear_14 [(7, 0, 0), (7, 0, 0), (7, 0, 0)] [] s = fL_endYear_14 kb s := rfl
-- FloatparadeLaw.about(LFloatparade;II[J)I
noncomputable def bL_about_0 : List En := [c_aload_n 3, c_iconst 0, c_aload_n 0, c_iload_n 1, c_iload_n 2, c_invv 107 [3, 13, 1, 17] gX11_about mdX11_about, c_i2l, c_last, c_goto 11 21]
theorem eL_about_0 (kb : Co) (a0 a1 a2 a3 : Int) (s : St) : exb (famH (tL_about_0 kb) kb) 0 bL_about_0 [(3, 11, a0), (0, 0, a1), (0, 0, a2), (3, 60, a3), (7, 0, 0)] [] s = fL_about_0 kb a0 a1 a2 a3 s := rfl
noncomputable def bL_about_13 : List En := [c_astore 4, c_iconst 1, c_ireturn]
theorem eL_about_13 (kb : Co) (y0 : Int) (s : St) : exb (famH (tL_about_13 kb) kb) 0 bL_about_13 [(7, 0, 0), (7, 0, 0), (7, 0, 0), (7, 0, 0), (7, 0, 0)] [(8, 0, y0)] s = fL_about_13 kb y0 s := rfl
noncomputable def bL_about_17 : List En := [c_astore 4, c_iconst 2, c_ireturn]
theorem eL_about_17 (kb : Co) (y0 : Int) (s : St) : exb (famH (tL_about_17 kb) kb) 0 bL_about_17 [(7, 0, 0), (7, 0, 0), (7, 0, 0), (7, 0, 0), (7, 0, 0)] [(8, 0, y0)] s = fL_about_17 kb y0 s := rfl
noncomputable def bL_about_21 : List En := [c_iconst 0, c_ireturn]
theorem eL_about_21 (kb : Co) (s : St) : exb (famH (tL_about_21 kb) kb) 0 bL_about_21 [(7, 0, 0), (7, 0, 0), (7, 0, 0), (7, 0, 0), (7, 0, 0)] [] s = fL_about_21 kb s := rfl
-- FloatparadeLaw.notes(LFloatparade;II[J)I
noncomputable def bL_notes_0 : List En := [c_aload_n 3, c_iconst 0, c_aload_n 0, c_iload_n 1, c_iload_n 2, c_invv 110 [3, 13, 1, 17] gX11_notes mdX11_notes, c_i2l, c_last, c_goto 11 21]
theorem eL_notes_0 (kb : Co) (a0 a1 a2 a3 : Int) (s : St) : exb (famH (tL_notes_0 kb) kb) 0 bL_notes_0 [(3, 11, a0), (0, 0, a1), (0, 0, a2), (3, 60, a3), (7, 0, 0)] [] s = fL_notes_0 kb a0 a1 a2 a3 s := rfl
noncomputable def bL_notes_13 : List En := [c_astore 4, c_iconst 1, c_ireturn]
theorem eL_notes_13 (kb : Co) (y0 : Int) (s : St) : exb (famH (tL_notes_13 kb) kb) 0 bL_notes_13 [(7, 0, 0), (7, 0, 0), (7, 0, 0), (7, 0, 0), (7, 0, 0)] [(8, 0, y0)] s = fL_notes_13 kb y0 s := rfl
noncomputable def bL_notes_17 : List En := [c_astore 4, c_iconst 2, c_ireturn]
theorem eL_notes_17 (kb : Co) (y0 : Int) (s : St) : exb (famH (tL_notes_17 kb) kb) 0 bL_notes_17 [(7, 0, 0), (7, 0, 0), (7, 0, 0), (7, 0, 0), (7, 0, 0)] [(8, 0, y0)] s = fL_notes_17 kb y0 s := rfl
noncomputable def bL_notes_21 : List En := [c_iconst 0, c_ireturn]
theorem eL_notes_21 (kb : Co) (s : St) : exb (famH (tL_notes_21 kb) kb) 0 bL_notes_21 [(7, 0, 0), (7, 0, 0), (7, 0, 0), (7, 0, 0), (7, 0, 0)] [] s = fL_notes_21 kb s := rfl
-- FloatparadeLaw.penaltyAt(LFloatparade;III[J)I
noncomputable def bL_penaltyAt_0 : List En := [c_aload 4, c_iconst 0, c_aload_n 0, c_iload_n 1, c_iload_n 2, c_iload_n 3, c_invv 113 [3, 15, 1, 19] gX11_penaltyAt mdX11_penaltyAt, c_i2l, c_last, c_goto 11 23]
theorem eL_penaltyAt_0 (kb : Co) (a0 a1 a2 a3 a4 : Int) (s : St) : exb (famH (tL_penaltyAt_0 kb) kb) 0 bL_penaltyAt_0 [(3, 11, a0), (0, 0, a1), (0, 0, a2), (0, 0, a3), (3, 60, a4), (7, 0, 0)] [] s = fL_penaltyAt_0 kb a0 a1 a2 a3 a4 s := rfl
noncomputable def bL_penaltyAt_15 : List En := [c_astore 5, c_iconst 1, c_ireturn]
theorem eL_penaltyAt_15 (kb : Co) (y0 : Int) (s : St) : exb (famH (tL_penaltyAt_15 kb) kb) 0 bL_penaltyAt_15 [(7, 0, 0), (7, 0, 0), (7, 0, 0), (7, 0, 0), (7, 0, 0), (7, 0, 0)] [(8, 0, y0)] s = fL_penaltyAt_15 kb y0 s := rfl
noncomputable def bL_penaltyAt_19 : List En := [c_astore 5, c_iconst 2, c_ireturn]
theorem eL_penaltyAt_19 (kb : Co) (y0 : Int) (s : St) : exb (famH (tL_penaltyAt_19 kb) kb) 0 bL_penaltyAt_19 [(7, 0, 0), (7, 0, 0), (7, 0, 0), (7, 0, 0), (7, 0, 0), (7, 0, 0)] [(8, 0, y0)] s = fL_penaltyAt_19 kb y0 s := rfl
noncomputable def bL_penaltyAt_23 : List En := [c_iconst 0, c_ireturn]
theorem eL_penaltyAt_23 (kb : Co) (s : St) : exb (famH (tL_penaltyAt_23 kb) kb) 0 bL_penaltyAt_23 [(7, 0, 0), (7, 0, 0), (7, 0, 0), (7, 0, 0), (7, 0, 0), (7, 0, 0)] [] s = fL_penaltyAt_23 kb s := rfl
-- FloatparadeLaw.isDoubted(LFloatparade;II[J)I
noncomputable def bL_isDoubted_0 : List En := [c_aload_n 3, c_iconst 0, c_aload_n 0, c_iload_n 1, c_iload_n 2, c_invv 116 [3, 20, 1, 24] gX11_isDoubted mdX11_isDoubted, c_if .eq 7 15, c_lconst1, c_goto 4 16]
theorem eL_isDoubted_0 (kb : Co) (a0 a1 a2 a3 : Int) (s : St) : exb (famH (tL_isDoubted_0 kb) kb) 0 bL_isDoubted_0 [(3, 11, a0), (0, 0, a1), (0, 0, a2), (3, 60, a3), (7, 0, 0)] [] s = fL_isDoubted_0 kb a0 a1 a2 a3 s := rfl
noncomputable def bL_isDoubted_15 : List En := [c_lconst0]
theorem eL_isDoubted_15 (kb : Co) (y0 y1 : Int) (s : St) : exb (famH (tL_isDoubted_15 kb) kb) 16 bL_isDoubted_15 [(7, 0, 0), (7, 0, 0), (7, 0, 0), (7, 0, 0), (7, 0, 0)] [(0, 0, y0), (3, 60, y1)] s = fL_isDoubted_15 kb y0 y1 s := rfl
noncomputable def bL_isDoubted_16 : List En := [c_last, c_goto 11 28]
theorem eL_isDoubted_16 (kb : Co) (y0 y1 y2 : Int) (s : St) : exb (famH (tL_isDoubted_16 kb) kb) 0 bL_isDoubted_16 [(7, 0, 0), (7, 0, 0), (7, 0, 0), (7, 0, 0), (7, 0, 0)] [(1, 0, y0), (0, 0, y1), (3, 60, y2)] s = fL_isDoubted_16 kb y0 y1 y2 s := rfl
noncomputable def bL_isDoubted_20 : List En := [c_astore 4, c_iconst 1, c_ireturn]
theorem eL_isDoubted_20 (kb : Co) (y0 : Int) (s : St) : exb (famH (tL_isDoubted_20 kb) kb) 0 bL_isDoubted_20 [(7, 0, 0), (7, 0, 0), (7, 0, 0), (7, 0, 0), (7, 0, 0)] [(8, 0, y0)] s = fL_isDoubted_20 kb y0 s := rfl
noncomputable def bL_isDoubted_24 : List En := [c_astore 4, c_iconst 2, c_ireturn]
theorem eL_isDoubted_24 (kb : Co) (y0 : Int) (s : St) : exb (famH (tL_isDoubted_24 kb) kb) 0 bL_isDoubted_24 [(7, 0, 0), (7, 0, 0), (7, 0, 0), (7, 0, 0), (7, 0, 0)] [(8, 0, y0)] s = fL_isDoubted_24 kb y0 s := rfl
noncomputable def bL_isDoubted_28 : List En := [c_iconst 0, c_ireturn]
theorem eL_isDoubted_28 (kb : Co) (s : St) : exb (famH (tL_isDoubted_28 kb) kb) 0 bL_isDoubted_28 [(7, 0, 0), (7, 0, 0), (7, 0, 0), (7, 0, 0), (7, 0, 0)] [] s = fL_isDoubted_28 kb s := rfl
-- FloatparadeLaw.table(LFloatparade;II[J)I
noncomputable def bL_table_0 : List En := [c_aload_n 3, c_iconst 0, c_aload_n 0, c_iload_n 1, c_iload_n 2, c_invv 119 [3, 13, 1, 17] gX11_table mdX11_table, c_i2l, c_last, c_goto 11 21]
theorem eL_table_0 (kb : Co) (a0 a1 a2 a3 : Int) (s : St) : exb (famH (tL_table_0 kb) kb) 0 bL_table_0 [(3, 11, a0), (0, 0, a1), (0, 0, a2), (3, 60, a3), (7, 0, 0)] [] s = fL_table_0 kb a0 a1 a2 a3 s := rfl
noncomputable def bL_table_13 : List En := [c_astore 4, c_iconst 1, c_ireturn]
theorem eL_table_13 (kb : Co) (y0 : Int) (s : St) : exb (famH (tL_table_13 kb) kb) 0 bL_table_13 [(7, 0, 0), (7, 0, 0), (7, 0, 0), (7, 0, 0), (7, 0, 0)] [(8, 0, y0)] s = fL_table_13 kb y0 s := rfl
noncomputable def bL_table_17 : List En := [c_astore 4, c_iconst 2, c_ireturn]
theorem eL_table_17 (kb : Co) (y0 : Int) (s : St) : exb (famH (tL_table_17 kb) kb) 0 bL_table_17 [(7, 0, 0), (7, 0, 0), (7, 0, 0), (7, 0, 0), (7, 0, 0)] [(8, 0, y0)] s = fL_table_17 kb y0 s := rfl
noncomputable def bL_table_21 : List En := [c_iconst 0, c_ireturn]
theorem eL_table_21 (kb : Co) (s : St) : exb (famH (tL_table_21 kb) kb) 0 bL_table_21 [(7, 0, 0), (7, 0, 0), (7, 0, 0), (7, 0, 0), (7, 0, 0)] [] s = fL_table_21 kb s := rfl
-- FloatparadeLaw.law([I)Z
noncomputable def bL_law_20 : List En := [c_iconst 0, c_istore 4]
set_option maxRecDepth 100000 in
theorem eL_law_20 (kb : Co) (a0 a1 a2 a3 : Int) (s : St) : exb (famH (tL_law_20 kb) kb) 23 bL_law_20 [(5, 0, a0), (3, 11, a1), (3, 12, a2), (3, 60, a3), (7, 0, 0), (7, 0, 0), (7, 0, 0)] [] s = fL_law_20 kb a0 a1 a2 a3 s := rfl
noncomputable def bL_law_23 : List En := [c_iload 4, c_aload_n 0, c_alen 61 0, c_bipush 7, c_isub, c_icmp .gt 2612 2642, c_aload_n 0, c_iload 4, c_iald 61 0, c_bipush 63, c_iand, c_tsw (.tableswitch 2596 0 32 #[148, 216, 319, 399, 455, 535, 591, 709, 757, 825, 916, 1020, 1138, 1213, 1281, 1356, 1424, 1504, 1584, 1625, 1681, 1749, 1829, 1897, 1989, 2069, 2137, 2193, 2237, 2305, 2373, 2453, 2528]) (fun _ _ _ _ _ _ _ => rfl) 148 2636 [0, 1, 2, 3, 4, 5, 6, 7, 8, 9, 10, 11, 12, 13, 14, 15, 16, 17, 18, 19, 20, 21, 22, 23, 24, 25, 26, 27, 28, 29, 30, 31, 32] [188, 256, 359, 439, 495, 575, 631, 749, 797, 865, 956, 1060, 1178, 1253, 1321, 1396, 1464, 1544, 1624, 1665, 1721, 1789, 1869, 1937, 2029, 2109, 2177, 2233, 2277, 2345, 2413, 2493, 2568]]
set_option maxRecDepth 100000 in
theorem eL_law_23 (kb : Co) (a0 a1 a2 a3 a4 : Int) (s : St) : exb (famH (tL_law_23 kb) kb) 0 bL_law_23 [(5, 0, a0), (3, 11, a1), (3, 12, a2), (3, 60, a3), (0, 0, a4), (7, 0, 0), (7, 0, 0)] [] s = fL_law_23 kb a0 a1 a2 a3 a4 s := rfl
noncomputable def bL_law_188 : List En := [c_aload_n 1, c_aload_n 0, c_iload 4, c_iconst 1, c_iadd, c_iald 61 0, c_aload_n 0, c_iload 4, c_iconst 2, c_iadd, c_iald 61 0, c_aload_n 3, c_invs 126 [] gL_society mdL_society, c_istore 5, c_aload_n 2, c_aload_n 0, c_iload 4, c_iconst 1, c_iadd, c_iald 61 0, c_aload_n 0, c_iload 4, c_iconst 2, c_iadd, c_iald 61 0, c_invv 131 [] gX12_society mdX12_society, c_istore 6, c_aload_n 2, c_invv 132 [] gX12_thrown mdX12_thrown, c_iload 5, c_icmp .eq 5 236, c_iconst 0, c_zreturn]
set_option maxRecDepth 100000 in
theorem eL_law_188 (kb : Co) (a0 a1 a2 a3 a4 : Int) (s : St) : exb (famH (tL_law_188 kb) kb) 0 bL_law_188 [(5, 0, a0), (3, 11, a1), (3, 12, a2), (3, 60, a3), (0, 0, a4), (7, 0, 0), (7, 0, 0)] [] s = fL_law_188 kb a0 a1 a2 a3 a4 s := rfl
noncomputable def bL_law_236 : List En := [c_iload 5, c_if .ne 15 253, c_aload_n 3, c_iconst 0, c_lald, c_iload 6, c_i2l, c_lcmp, c_if .eq 5 253, c_iconst 0, c_zreturn]
set_option maxRecDepth 100000 in
theorem eL_law_236 (kb : Co) (a0 a1 a2 a3 a4 a5 a6 : Int) (s : St) : exb (famH (tL_law_236 kb) kb) 0 bL_law_236 [(5, 0, a0), (3, 11, a1), (3, 12, a2), (3, 60, a3), (0, 0, a4), (0, 0, a5), (0, 0, a6)] [] s = fL_law_236 kb a0 a1 a2 a3 a4 a5 a6 s := rfl
noncomputable def bL_law_253 : List En := [c_goto 2383 2636]
set_option maxRecDepth 100000 in
theorem eL_law_253 (kb : Co) (a0 a1 a2 a3 a4 : Int) (s : St) : exb (famH (tL_law_253 kb) kb) 0 bL_law_253 [(5, 0, a0), (3, 11, a1), (3, 12, a2), (3, 60, a3), (0, 0, a4), (7, 0, 0), (7, 0, 0)] [] s = fL_law_253 kb a0 a1 a2 a3 a4 s := rfl
noncomputable def bL_law_256 : List En := [c_aload_n 1, c_aload_n 0, c_iload 4, c_iconst 1, c_iadd, c_iald 61 0, c_aload_n 0, c_iload 4, c_iconst 2, c_iadd, c_iald 61 0, c_aload_n 0, c_iload 4, c_iconst 3, c_iadd, c_iald 61 0, c_if .eq 7 282, c_iconst 1, c_goto 4 283]
set_option maxRecDepth 100000 in
theorem eL_law_256 (kb : Co) (a0 a1 a2 a3 a4 : Int) (s : St) : exb (famH (tL_law_256 kb) kb) 0 bL_law_256 [(5, 0, a0), (3, 11, a1), (3, 12, a2), (3, 60, a3), (0, 0, a4), (7, 0, 0), (7, 0, 0)] [] s = fL_law_256 kb a0 a1 a2 a3 a4 s := rfl
noncomputable def bL_law_282 : List En := [c_iconst 0]
set_option maxRecDepth 100000 in
theorem eL_law_282 (kb : Co) (a0 a1 a2 a3 a4 y0 y1 y2 : Int) (s : St) : exb (famH (tL_law_282 kb) kb) 283 bL_law_282 [(5, 0, a0), (3, 11, a1), (3, 12, a2), (3, 60, a3), (0, 0, a4), (7, 0, 0), (7, 0, 0)] [(0, 0, y0), (0, 0, y1), (3, 11, y2)] s = fL_law_282 kb a0 a1 a2 a3 a4 y0 y1 y2 s := rfl
noncomputable def bL_law_283 : List En := [c_aload_n 3, c_invs 135 [] gL_feud mdL_feud, c_istore 5, c_aload_n 2, c_aload_n 0, c_iload 4, c_iconst 1, c_iadd, c_iald 61 0, c_aload_n 0, c_iload 4, c_iconst 2, c_iadd, c_iald 61 0, c_aload_n 0, c_iload 4, c_iconst 3, c_iadd, c_iald 61 0, c_if .eq 7 315, c_iconst 1, c_goto 4 316]
set_option maxRecDepth 100000 in
theorem eL_law_283 (kb : Co) (a0 a1 a2 a3 a4 y0 y1 y2 y3 : Int) (s : St) : exb (famH (tL_law_283 kb) kb) 0 bL_law_283 [(5, 0, a0), (3, 11, a1), (3, 12, a2), (3, 60, a3), (0, 0, a4), (7, 0, 0), (7, 0, 0)] [(0, 0, y0), (0, 0, y1), (0, 0, y2), (3, 11, y3)] s = fL_law_283 kb a0 a1 a2 a3 a4 y0 y1 y2 y3 s := rfl
noncomputable def bL_law_315 : List En := [c_iconst 0]
set_option maxRecDepth 100000 in
theorem eL_law_315 (kb : Co) (a0 a1 a2 a3 a4 a5 y0 y1 y2 : Int) (s : St) : exb (famH (tL_law_315 kb) kb) 316 bL_law_315 [(5, 0, a0), (3, 11, a1), (3, 12, a2), (3, 60, a3), (0, 0, a4), (0, 0, a5), (7, 0, 0)] [(0, 0, y0), (0, 0, y1), (3, 12, y2)] s = fL_law_315 kb a0 a1 a2 a3 a4 a5 y0 y1 y2 s := rfl
noncomputable def bL_law_316 : List En := [c_invv 138 [] gX12_feud mdX12_feud, c_istore 6, c_aload_n 2, c_invv 132 [] gX12_thrown mdX12_thrown, c_iload 5, c_icmp .eq 5 332, c_iconst 0, c_zreturn]
set_option maxRecDepth 100000 in
theorem eL_law_316 (kb : Co) (a0 a1 a2 a3 a4 a5 y0 y1 y2 y3 : Int) (s : St) : exb (famH (tL_law_316 kb) kb) 0 bL_law_316 [(5, 0, a0), (3, 11, a1), (3, 12, a2), (3, 60, a3), (0, 0, a4), (0, 0, a5), (7, 0, 0)] [(0, 0, y0), (0, 0, y1), (0, 0, y2), (3, 12, y3)] s = fL_law_316 kb a0 a1 a2 a3 a4 a5 y0 y1 y2 y3 s := rfl
noncomputable def bL_law_332 : List En := [c_iload 5, c_if .ne 22 356, c_aload_n 3, c_iconst 0, c_lald, c_iload 6, c_if .eq 7 349, c_lconst1, c_goto 4 350]
set_option maxRecDepth 100000 in
theorem eL_law_332 (kb : Co) (a0 a1 a2 a3 a4 a5 a6 : Int) (s : St) : exb (famH (tL_law_332 kb) kb) 0 bL_law_332 [(5, 0, a0), (3, 11, a1), (3, 12, a2), (3, 60, a3), (0, 0, a4), (0, 0, a5), (0, 0, a6)] [] s = fL_law_332 kb a0 a1 a2 a3 a4 a5 a6 s := rfl
noncomputable def bL_law_349 : List En := [c_lconst0]
set_option maxRecDepth 100000 in
theorem eL_law_349 (kb : Co) (a0 a1 a2 a3 a4 y0 : Int) (s : St) : exb (famH (tL_law_349 kb) kb) 350 bL_law_349 [(5, 0, a0), (3, 11, a1), (3, 12, a2), (3, 60, a3), (0, 0, a4), (7, 0, 0), (7, 0, 0)] [(1, 0, y0)] s = fL_law_349 kb a0 a1 a2 a3 a4 y0 s := rfl
noncomputable def bL_law_350 : List En := [c_lcmp, c_if .eq 5 356, c_iconst 0, c_zreturn]
set_option maxRecDepth 100000 in
theorem eL_law_350 (kb : Co) (a0 a1 a2 a3 a4 y0 y1 : Int) (s : St) : exb (famH (tL_law_350 kb) kb) 0 bL_law_350 [(5, 0, a0), (3, 11, a1), (3, 12, a2), (3, 60, a3), (0, 0, a4), (7, 0, 0), (7, 0, 0)] [(1, 0, y0), (1, 0, y1)] s = fL_law_350 kb a0 a1 a2 a3 a4 y0 y1 s := rfl
noncomputable def bL_law_356 : List En := [c_goto 2280 2636]
set_option maxRecDepth 100000 in
theorem eL_law_356 (kb : Co) (a0 a1 a2 a3 a4 : Int) (s : St) : exb (famH (tL_law_356 kb) kb) 0 bL_law_356 [(5, 0, a0), (3, 11, a1), (3, 12, a2), (3, 60, a3), (0, 0, a4), (7, 0, 0), (7, 0, 0)] [] s = fL_law_356 kb a0 a1 a2 a3 a4 s := rfl
noncomputable def bL_law_359 : List En := [c_aload_n 1, c_aload_n 0, c_iload 4, c_iconst 1, c_iadd, c_iald 61 0, c_aload_n 0, c_iload 4, c_iconst 2, c_iadd, c_iald 61 0, c_aload_n 0, c_iload 4, c_iconst 3, c_iadd, c_iald 61 0, c_aload_n 3, c_invs 139 [] gL_theme mdL_theme, c_istore 5, c_aload_n 2, c_aload_n 0, c_iload 4, c_iconst 1, c_iadd, c_iald 61 0, c_aload_n 0, c_iload 4, c_iconst 2, c_iadd, c_iald 61 0, c_aload_n 0, c_iload 4, c_iconst 3, c_iadd, c_iald 61 0, c_invv 142 [] gX12_theme mdX12_theme, c_istore 6, c_aload_n 2, c_invv 132 [] gX12_thrown mdX12_thrown, c_iload 5, c_icmp .eq 5 419, c_iconst 0, c_zreturn]
set_option maxRecDepth 100000 in
theorem eL_law_359 (kb : Co) (a0 a1 a2 a3 a4 : Int) (s : St) : exb (famH (tL_law_359 kb) kb) 0 bL_law_359 [(5, 0, a0), (3, 11, a1), (3, 12, a2), (3, 60, a3), (0, 0, a4), (7, 0, 0), (7, 0, 0)] [] s = fL_law_359 kb a0 a1 a2 a3 a4 s := rfl
noncomputable def bL_law_419 : List En := [c_iload 5, c_if .ne 15 436, c_aload_n 3, c_iconst 0, c_lald, c_iload 6, c_i2l, c_lcmp, c_if .eq 5 436, c_iconst 0, c_zreturn]
set_option maxRecDepth 100000 in
theorem eL_law_419 (kb : Co) (a0 a1 a2 a3 a4 a5 a6 : Int) (s : St) : exb (famH (tL_law_419 kb) kb) 0 bL_law_419 [(5, 0, a0), (3, 11, a1), (3, 12, a2), (3, 60, a3), (0, 0, a4), (0, 0, a5), (0, 0, a6)] [] s = fL_law_419 kb a0 a1 a2 a3 a4 a5 a6 s := rfl
noncomputable def bL_law_436 : List En := [c_goto 2200 2636]
set_option maxRecDepth 100000 in
theorem eL_law_436 (kb : Co) (a0 a1 a2 a3 a4 : Int) (s : St) : exb (famH (tL_law_436 kb) kb) 0 bL_law_436 [(5, 0, a0), (3, 11, a1), (3, 12, a2), (3, 60, a3), (0, 0, a4), (7, 0, 0), (7, 0, 0)] [] s = fL_law_436 kb a0 a1 a2 a3 a4 s := rfl
noncomputable def bL_law_439 : List En := [c_aload_n 1, c_aload_n 0, c_iload 4, c_iconst 1, c_iadd, c_iald 61 0, c_aload_n 3, c_invs 143 [] gL_song mdL_song, c_istore 5, c_aload_n 2, c_aload_n 0, c_iload 4, c_iconst 1, c_iadd, c_iald 61 0, c_invv 146 [] gX12_song mdX12_song, c_istore 6, c_aload_n 2, c_invv 132 [] gX12_thrown mdX12_thrown, c_iload 5, c_icmp .eq 5 475, c_iconst 0, c_zreturn]
set_option maxRecDepth 100000 in
theorem eL_law_439 (kb : Co) (a0 a1 a2 a3 a4 : Int) (s : St) : exb (famH (tL_law_439 kb) kb) 0 bL_law_439 [(5, 0, a0), (3, 11, a1), (3, 12, a2), (3, 60, a3), (0, 0, a4), (7, 0, 0), (7, 0, 0)] [] s = fL_law_439 kb a0 a1 a2 a3 a4 s := rfl
noncomputable def bL_law_475 : List En := [c_iload 5, c_if .ne 15 492, c_aload_n 3, c_iconst 0, c_lald, c_iload 6, c_i2l, c_lcmp, c_if .eq 5 492, c_iconst 0, c_zreturn]
set_option maxRecDepth 100000 in
theorem eL_law_475 (kb : Co) (a0 a1 a2 a3 a4 a5 a6 : Int) (s : St) : exb (famH (tL_law_475 kb) kb) 0 bL_law_475 [(5, 0, a0), (3, 11, a1), (3, 12, a2), (3, 60, a3), (0, 0, a4), (0, 0, a5), (0, 0, a6)] [] s = fL_law_475 kb a0 a1 a2 a3 a4 a5 a6 s := rfl
noncomputable def bL_law_492 : List En := [c_goto 2144 2636]
set_option maxRecDepth 100000 in
theorem eL_law_492 (kb : Co) (a0 a1 a2 a3 a4 : Int) (s : St) : exb (famH (tL_law_492 kb) kb) 0 bL_law_492 [(5, 0, a0), (3, 11, a1), (3, 12, a2), (3, 60, a3), (0, 0, a4), (7, 0, 0), (7, 0, 0)] [] s = fL_law_492 kb a0 a1 a2 a3 a4 s := rfl
noncomputable def bL_law_495 : List En := [c_aload_n 1, c_aload_n 0, c_iload 4, c_iconst 1, c_iadd, c_iald 61 0, c_aload_n 0, c_iload 4, c_iconst 2, c_iadd, c_iald 61 0, c_aload_n 0, c_iload 4, c_iconst 3, c_iadd, c_iald 61 0, c_aload_n 3, c_invs 147 [] gL_vote mdL_vote, c_istore 5, c_aload_n 2, c_aload_n 0, c_iload 4, c_iconst 1, c_iadd, c_iald 61 0, c_aload_n 0, c_iload 4, c_iconst 2, c_iadd, c_iald 61 0, c_aload_n 0, c_iload 4, c_iconst 3, c_iadd, c_iald 61 0, c_invv 149 [] gX12_vote mdX12_vote, c_istore 6, c_aload_n 2, c_invv 132 [] gX12_thrown mdX12_thrown, c_iload 5, c_icmp .eq 5 555, c_iconst 0, c_zreturn]
set_option maxRecDepth 100000 in
theorem eL_law_495 (kb : Co) (a0 a1 a2 a3 a4 : Int) (s : St) : exb (famH (tL_law_495 kb) kb) 0 bL_law_495 [(5, 0, a0), (3, 11, a1), (3, 12, a2), (3, 60, a3), (0, 0, a4), (7, 0, 0), (7, 0, 0)] [] s = fL_law_495 kb a0 a1 a2 a3 a4 s := rfl
noncomputable def bL_law_555 : List En := [c_iload 5, c_if .ne 15 572, c_aload_n 3, c_iconst 0, c_lald, c_iload 6, c_i2l, c_lcmp, c_if .eq 5 572, c_iconst 0, c_zreturn]
set_option maxRecDepth 100000 in
theorem eL_law_555 (kb : Co) (a0 a1 a2 a3 a4 a5 a6 : Int) (s : St) : exb (famH (tL_law_555 kb) kb) 0 bL_law_555 [(5, 0, a0), (3, 11, a1), (3, 12, a2), (3, 60, a3), (0, 0, a4), (0, 0, a5), (0, 0, a6)] [] s = fL_law_555 kb a0 a1 a2 a3 a4 a5 a6 s := rfl
noncomputable def bL_law_572 : List En := [c_goto 2064 2636]
set_option maxRecDepth 100000 in
theorem eL_law_572 (kb : Co) (a0 a1 a2 a3 a4 : Int) (s : St) : exb (famH (tL_law_572 kb) kb) 0 bL_law_572 [(5, 0, a0), (3, 11, a1), (3, 12, a2), (3, 60, a3), (0, 0, a4), (7, 0, 0), (7, 0, 0)] [] s = fL_law_572 kb a0 a1 a2 a3 a4 s := rfl
noncomputable def bL_law_575 : List En := [c_aload_n 1, c_aload_n 0, c_iload 4, c_iconst 1, c_iadd, c_iald 61 0, c_aload_n 3, c_invs 150 [] gL_round mdL_round, c_istore 5, c_aload_n 2, c_aload_n 0, c_iload 4, c_iconst 1, c_iadd, c_iald 61 0, c_invv 152 [] gX12_round mdX12_round, c_istore 6, c_aload_n 2, c_invv 132 [] gX12_thrown mdX12_thrown, c_iload 5, c_icmp .eq 5 611, c_iconst 0, c_zreturn]
set_option maxRecDepth 100000 in
theorem eL_law_575 (kb : Co) (a0 a1 a2 a3 a4 : Int) (s : St) : exb (famH (tL_law_575 kb) kb) 0 bL_law_575 [(5, 0, a0), (3, 11, a1), (3, 12, a2), (3, 60, a3), (0, 0, a4), (7, 0, 0), (7, 0, 0)] [] s = fL_law_575 kb a0 a1 a2 a3 a4 s := rfl
noncomputable def bL_law_611 : List En := [c_iload 5, c_if .ne 15 628, c_aload_n 3, c_iconst 0, c_lald, c_iload 6, c_i2l, c_lcmp, c_if .eq 5 628, c_iconst 0, c_zreturn]
set_option maxRecDepth 100000 in
theorem eL_law_611 (kb : Co) (a0 a1 a2 a3 a4 a5 a6 : Int) (s : St) : exb (famH (tL_law_611 kb) kb) 0 bL_law_611 [(5, 0, a0), (3, 11, a1), (3, 12, a2), (3, 60, a3), (0, 0, a4), (0, 0, a5), (0, 0, a6)] [] s = fL_law_611 kb a0 a1 a2 a3 a4 a5 a6 s := rfl
noncomputable def bL_law_628 : List En := [c_goto 2008 2636]
set_option maxRecDepth 100000 in
theorem eL_law_628 (kb : Co) (a0 a1 a2 a3 a4 : Int) (s : St) : exb (famH (tL_law_628 kb) kb) 0 bL_law_628 [(5, 0, a0), (3, 11, a1), (3, 12, a2), (3, 60, a3), (0, 0, a4), (7, 0, 0), (7, 0, 0)] [] s = fL_law_628 kb a0 a1 a2 a3 a4 s := rfl
noncomputable def bL_law_631 : List En := [c_aload_n 1, c_aload_n 0, c_iload 4, c_iconst 1, c_iadd, c_iald 61 0, c_aload_n 0, c_iload 4, c_iconst 2, c_iadd, c_iald 61 0, c_aload_n 0, c_iload 4, c_iconst 3, c_iadd, c_iald 61 0, c_aload_n 0, c_iload 4, c_iconst 4, c_iadd, c_iald 61 0, c_aload_n 0, c_iload 4, c_iconst 5, c_iadd, c_iald 61 0, c_aload_n 0, c_iload 4, c_bipush 6, c_iadd, c_iald 61 0, c_aload_n 3, c_invs 153 [] gL_street mdL_street, c_istore 5, c_aload_n 2, c_aload_n 0, c_iload 4, c_iconst 1, c_iadd, c_iald 61 0, c_aload_n 0, c_iload 4, c_iconst 2, c_iadd, c_iald 61 0, c_aload_n 0, c_iload 4, c_iconst 3, c_iadd, c_iald 61 0, c_aload_n 0, c_iload 4, c_iconst 4, c_iadd, c_iald 61 0, c_aload_n 0, c_iload 4, c_iconst 5, c_iadd, c_iald 61 0, c_aload_n 0, c_iload 4, c_bipush 6, c_iadd, c_iald 61 0, c_invv 156 [] gX12_street mdX12_street, c_istore 6, c_aload_n 2, c_invv 132 [] gX12_thrown mdX12_thrown, c_iload 5, c_icmp .eq 5 729, c_iconst 0, c_zreturn]
set_option maxRecDepth 100000 in
theorem eL_law_631 (kb : Co) (a0 a1 a2 a3 a4 : Int) (s : St) : exb (famH (tL_law_631 kb) kb) 0 bL_law_631 [(5, 0, a0), (3, 11, a1), (3, 12, a2), (3, 60, a3), (0, 0, a4), (7, 0, 0), (7, 0, 0)] [] s = fL_law_631 kb a0 a1 a2 a3 a4 s := rfl
noncomputable def bL_law_729 : List En := [c_iload 5, c_if .ne 15 746, c_aload_n 3, c_iconst 0, c_lald, c_iload 6, c_i2l, c_lcmp, c_if .eq 5 746, c_iconst 0, c_zreturn]
set_option maxRecDepth 100000 in
theorem eL_law_729 (kb : Co) (a0 a1 a2 a3 a4 a5 a6 : Int) (s : St) : exb (famH (tL_law_729 kb) kb) 0 bL_law_729 [(5, 0, a0), (3, 11, a1), (3, 12, a2), (3, 60, a3), (0, 0, a4), (0, 0, a5), (0, 0, a6)] [] s = fL_law_729 kb a0 a1 a2 a3 a4 a5 a6 s := rfl
noncomputable def bL_law_746 : List En := [c_goto 1890 2636]
set_option maxRecDepth 100000 in
theorem eL_law_746 (kb : Co) (a0 a1 a2 a3 a4 : Int) (s : St) : exb (famH (tL_law_746 kb) kb) 0 bL_law_746 [(5, 0, a0), (3, 11, a1), (3, 12, a2), (3, 60, a3), (0, 0, a4), (7, 0, 0), (7, 0, 0)] [] s = fL_law_746 kb a0 a1 a2 a3 a4 s := rfl
noncomputable def bL_law_749 : List En := [c_aload_n 1, c_aload_n 0, c_iload 4, c_iconst 1, c_iadd, c_iald 61 0, c_aload_n 0, c_iload 4, c_iconst 2, c_iadd, c_iald 61 0, c_invs 157 [] gL_route mdL_route, c_istore 5, c_aload_n 2, c_aload_n 0, c_iload 4, c_iconst 1, c_iadd, c_iald 61 0, c_aload_n 0, c_iload 4, c_iconst 2, c_iadd, c_iald 61 0, c_invv 160 [] gX12_route mdX12_route, c_aload_n 2, c_invv 132 [] gX12_thrown mdX12_thrown, c_iload 5, c_icmp .eq 5 794, c_iconst 0, c_zreturn]
set_option maxRecDepth 100000 in
theorem eL_law_749 (kb : Co) (a0 a1 a2 a3 a4 : Int) (s : St) : exb (famH (tL_law_749 kb) kb) 0 bL_law_749 [(5, 0, a0), (3, 11, a1), (3, 12, a2), (3, 60, a3), (0, 0, a4), (7, 0, 0), (7, 0, 0)] [] s = fL_law_749 kb a0 a1 a2 a3 a4 s := rfl
noncomputable def bL_law_794 : List En := [c_goto 1842 2636]
set_option maxRecDepth 100000 in
theorem eL_law_794 (kb : Co) (a0 a1 a2 a3 a4 : Int) (s : St) : exb (famH (tL_law_794 kb) kb) 0 bL_law_794 [(5, 0, a0), (3, 11, a1), (3, 12, a2), (3, 60, a3), (0, 0, a4), (7, 0, 0), (7, 0, 0)] [] s = fL_law_794 kb a0 a1 a2 a3 a4 s := rfl
noncomputable def bL_law_797 : List En := [c_aload_n 1, c_aload_n 0, c_iload 4, c_iconst 1, c_iadd, c_iald 61 0, c_aload_n 0, c_iload 4, c_iconst 2, c_iadd, c_iald 61 0, c_aload_n 3, c_invs 161 [] gL_goOn mdL_goOn, c_istore 5, c_aload_n 2, c_aload_n 0, c_iload 4, c_iconst 1, c_iadd, c_iald 61 0, c_aload_n 0, c_iload 4, c_iconst 2, c_iadd, c_iald 61 0, c_invv 163 [] gX12_goOn mdX12_goOn, c_istore 6, c_aload_n 2, c_invv 132 [] gX12_thrown mdX12_thrown, c_iload 5, c_icmp .eq 5 845, c_iconst 0, c_zreturn]
set_option maxRecDepth 100000 in
theorem eL_law_797 (kb : Co) (a0 a1 a2 a3 a4 : Int) (s : St) : exb (famH (tL_law_797 kb) kb) 0 bL_law_797 [(5, 0, a0), (3, 11, a1), (3, 12, a2), (3, 60, a3), (0, 0, a4), (7, 0, 0), (7, 0, 0)] [] s = fL_law_797 kb a0 a1 a2 a3 a4 s := rfl
noncomputable def bL_law_845 : List En := [c_iload 5, c_if .ne 15 862, c_aload_n 3, c_iconst 0, c_lald, c_iload 6, c_i2l, c_lcmp, c_if .eq 5 862, c_iconst 0, c_zreturn]
set_option maxRecDepth 100000 in
theorem eL_law_845 (kb : Co) (a0 a1 a2 a3 a4 a5 a6 : Int) (s : St) : exb (famH (tL_law_845 kb) kb) 0 bL_law_845 [(5, 0, a0), (3, 11, a1), (3, 12, a2), (3, 60, a3), (0, 0, a4), (0, 0, a5), (0, 0, a6)] [] s = fL_law_845 kb a0 a1 a2 a3 a4 a5 a6 s := rfl
noncomputable def bL_law_862 : List En := [c_goto 1774 2636]
set_option maxRecDepth 100000 in
theorem eL_law_862 (kb : Co) (a0 a1 a2 a3 a4 : Int) (s : St) : exb (famH (tL_law_862 kb) kb) 0 bL_law_862 [(5, 0, a0), (3, 11, a1), (3, 12, a2), (3, 60, a3), (0, 0, a4), (7, 0, 0), (7, 0, 0)] [] s = fL_law_862 kb a0 a1 a2 a3 a4 s := rfl
noncomputable def bL_law_865 : List En := [c_aload_n 1, c_aload_n 0, c_iload 4, c_iconst 1, c_iadd, c_iald 61 0, c_aload_n 0, c_iload 4, c_iconst 2, c_iadd, c_iald 61 0, c_if .eq 7 885, c_iconst 1, c_goto 4 886]
set_option maxRecDepth 100000 in
theorem eL_law_865 (kb : Co) (a0 a1 a2 a3 a4 : Int) (s : St) : exb (famH (tL_law_865 kb) kb) 0 bL_law_865 [(5, 0, a0), (3, 11, a1), (3, 12, a2), (3, 60, a3), (0, 0, a4), (7, 0, 0), (7, 0, 0)] [] s = fL_law_865 kb a0 a1 a2 a3 a4 s := rfl
noncomputable def bL_law_885 : List En := [c_iconst 0]
set_option maxRecDepth 100000 in
theorem eL_law_885 (kb : Co) (a0 a1 a2 a3 a4 y0 y1 : Int) (s : St) : exb (famH (tL_law_885 kb) kb) 886 bL_law_885 [(5, 0, a0), (3, 11, a1), (3, 12, a2), (3, 60, a3), (0, 0, a4), (7, 0, 0), (7, 0, 0)] [(0, 0, y0), (3, 11, y1)] s = fL_law_885 kb a0 a1 a2 a3 a4 y0 y1 s := rfl
noncomputable def bL_law_886 : List En := [c_aload_n 3, c_invs 164 [] gL_jury mdL_jury, c_istore 5, c_aload_n 2, c_aload_n 0, c_iload 4, c_iconst 1, c_iadd, c_iald 61 0, c_aload_n 0, c_iload 4, c_iconst 2, c_iadd, c_iald 61 0, c_if .eq 7 912, c_iconst 1, c_goto 4 913]
set_option maxRecDepth 100000 in
theorem eL_law_886 (kb : Co) (a0 a1 a2 a3 a4 y0 y1 y2 : Int) (s : St) : exb (famH (tL_law_886 kb) kb) 0 bL_law_886 [(5, 0, a0), (3, 11, a1), (3, 12, a2), (3, 60, a3), (0, 0, a4), (7, 0, 0), (7, 0, 0)] [(0, 0, y0), (0, 0, y1), (3, 11, y2)] s = fL_law_886 kb a0 a1 a2 a3 a4 y0 y1 y2 s := rfl
noncomputable def bL_law_912 : List En := [c_iconst 0]
set_option maxRecDepth 100000 in
theorem eL_law_912 (kb : Co) (a0 a1 a2 a3 a4 a5 y0 y1 : Int) (s : St) : exb (famH (tL_law_912 kb) kb) 913 bL_law_912 [(5, 0, a0), (3, 11, a1), (3, 12, a2), (3, 60, a3), (0, 0, a4), (0, 0, a5), (7, 0, 0)] [(0, 0, y0), (3, 12, y1)] s = fL_law_912 kb a0 a1 a2 a3 a4 a5 y0 y1 s := rfl
noncomputable def bL_law_913 : List En := [c_invv 167 [] gX12_jury mdX12_jury, c_istore 6, c_aload_n 2, c_invv 132 [] gX12_thrown mdX12_thrown, c_iload 5, c_icmp .eq 5 929, c_iconst 0, c_zreturn]
set_option maxRecDepth 100000 in
theorem eL_law_913 (kb : Co) (a0 a1 a2 a3 a4 a5 y0 y1 y2 : Int) (s : St) : exb (famH (tL_law_913 kb) kb) 0 bL_law_913 [(5, 0, a0), (3, 11, a1), (3, 12, a2), (3, 60, a3), (0, 0, a4), (0, 0, a5), (7, 0, 0)] [(0, 0, y0), (0, 0, y1), (3, 12, y2)] s = fL_law_913 kb a0 a1 a2 a3 a4 a5 y0 y1 y2 s := rfl
noncomputable def bL_law_929 : List En := [c_iload 5, c_if .ne 22 953, c_aload_n 3, c_iconst 0, c_lald, c_iload 6, c_if .eq 7 946, c_lconst1, c_goto 4 947]
set_option maxRecDepth 100000 in
theorem eL_law_929 (kb : Co) (a0 a1 a2 a3 a4 a5 a6 : Int) (s : St) : exb (famH (tL_law_929 kb) kb) 0 bL_law_929 [(5, 0, a0), (3, 11, a1), (3, 12, a2), (3, 60, a3), (0, 0, a4), (0, 0, a5), (0, 0, a6)] [] s = fL_law_929 kb a0 a1 a2 a3 a4 a5 a6 s := rfl
noncomputable def bL_law_946 : List En := [c_lconst0]
set_option maxRecDepth 100000 in
theorem eL_law_946 (kb : Co) (a0 a1 a2 a3 a4 y0 : Int) (s : St) : exb (famH (tL_law_946 kb) kb) 947 bL_law_946 [(5, 0, a0), (3, 11, a1), (3, 12, a2), (3, 60, a3), (0, 0, a4), (7, 0, 0), (7, 0, 0)] [(1, 0, y0)] s = fL_law_946 kb a0 a1 a2 a3 a4 y0 s := rfl
noncomputable def bL_law_947 : List En := [c_lcmp, c_if .eq 5 953, c_iconst 0, c_zreturn]
set_option maxRecDepth 100000 in
theorem eL_law_947 (kb : Co) (a0 a1 a2 a3 a4 y0 y1 : Int) (s : St) : exb (famH (tL_law_947 kb) kb) 0 bL_law_947 [(5, 0, a0), (3, 11, a1), (3, 12, a2), (3, 60, a3), (0, 0, a4), (7, 0, 0), (7, 0, 0)] [(1, 0, y0), (1, 0, y1)] s = fL_law_947 kb a0 a1 a2 a3 a4 y0 y1 s := rfl
noncomputable def bL_law_953 : List En := [c_goto 1683 2636]
set_option maxRecDepth 100000 in
theorem eL_law_953 (kb : Co) (a0 a1 a2 a3 a4 : Int) (s : St) : exb (famH (tL_law_953 kb) kb) 0 bL_law_953 [(5, 0, a0), (3, 11, a1), (3, 12, a2), (3, 60, a3), (0, 0, a4), (7, 0, 0), (7, 0, 0)] [] s = fL_law_953 kb a0 a1 a2 a3 a4 s := rfl
noncomputable def bL_law_956 : List En := [c_aload_n 1, c_aload_n 0, c_iload 4, c_iconst 1, c_iadd, c_iald 61 0, c_aload_n 0, c_iload 4, c_iconst 2, c_iadd, c_iald 61 0, c_aload_n 0, c_iload 4, c_iconst 3, c_iadd, c_iald 61 0, c_aload_n 0, c_iload 4, c_iconst 4, c_iadd, c_iald 61 0, c_aload_n 0, c_iload 4, c_iconst 5, c_iadd, c_iald 61 0, c_aload_n 3, c_invs 168 [] gL_build mdL_build, c_istore 5, c_aload_n 2, c_aload_n 0, c_iload 4, c_iconst 1, c_iadd, c_iald 61 0, c_aload_n 0, c_iload 4, c_iconst 2, c_iadd, c_iald 61 0, c_aload_n 0, c_iload 4, c_iconst 3, c_iadd, c_iald 61 0, c_aload_n 0, c_iload 4, c_iconst 4, c_iadd, c_iald 61 0, c_aload_n 0, c_iload 4, c_iconst 5, c_iadd, c_iald 61 0, c_invv 171 [] gX12_build mdX12_build, c_istore 6, c_aload_n 2, c_invv 132 [] gX12_thrown mdX12_thrown, c_iload 5, c_icmp .eq 5 1040, c_iconst 0, c_zreturn]
set_option maxRecDepth 100000 in
theorem eL_law_956 (kb : Co) (a0 a1 a2 a3 a4 : Int) (s : St) : exb (famH (tL_law_956 kb) kb) 0 bL_law_956 [(5, 0, a0), (3, 11, a1), (3, 12, a2), (3, 60, a3), (0, 0, a4), (7, 0, 0), (7, 0, 0)] [] s = fL_law_956 kb a0 a1 a2 a3 a4 s := rfl
noncomputable def bL_law_1040 : List En := [c_iload 5, c_if .ne 15 1057, c_aload_n 3, c_iconst 0, c_lald, c_iload 6, c_i2l, c_lcmp, c_if .eq 5 1057, c_iconst 0, c_zreturn]
set_option maxRecDepth 100000 in
theorem eL_law_1040 (kb : Co) (a0 a1 a2 a3 a4 a5 a6 : Int) (s : St) : exb (famH (tL_law_1040 kb) kb) 0 bL_law_1040 [(5, 0, a0), (3, 11, a1), (3, 12, a2), (3, 60, a3), (0, 0, a4), (0, 0, a5), (0, 0, a6)] [] s = fL_law_1040 kb a0 a1 a2 a3 a4 a5 a6 s := rfl
noncomputable def bL_law_1057 : List En := [c_goto 1579 2636]
set_option maxRecDepth 100000 in
theorem eL_law_1057 (kb : Co) (a0 a1 a2 a3 a4 : Int) (s : St) : exb (famH (tL_law_1057 kb) kb) 0 bL_law_1057 [(5, 0, a0), (3, 11, a1), (3, 12, a2), (3, 60, a3), (0, 0, a4), (7, 0, 0), (7, 0, 0)] [] s = fL_law_1057 kb a0 a1 a2 a3 a4 s := rfl
noncomputable def bL_law_1060 : List En := [c_aload_n 1, c_aload_n 0, c_iload 4, c_iconst 1, c_iadd, c_iald 61 0, c_aload_n 0, c_iload 4, c_iconst 2, c_iadd, c_iald 61 0, c_aload_n 0, c_iload 4, c_iconst 3, c_iadd, c_iald 61 0, c_aload_n 0, c_iload 4, c_iconst 4, c_iadd, c_iald 61 0, c_aload_n 0, c_iload 4, c_iconst 5, c_iadd, c_iald 61 0, c_aload_n 0, c_iload 4, c_bipush 6, c_iadd, c_iald 61 0, c_aload_n 3, c_invs 172 [] gL_cut mdL_cut, c_istore 5, c_aload_n 2, c_aload_n 0, c_iload 4, c_iconst 1, c_iadd, c_iald 61 0, c_aload_n 0, c_iload 4, c_iconst 2, c_iadd, c_iald 61 0, c_aload_n 0, c_iload 4, c_iconst 3, c_iadd, c_iald 61 0, c_aload_n 0, c_iload 4, c_iconst 4, c_iadd, c_iald 61 0, c_aload_n 0, c_iload 4, c_iconst 5, c_iadd, c_iald 61 0, c_aload_n 0, c_iload 4, c_bipush 6, c_iadd, c_iald 61 0, c_invv 174 [] gX12_cut mdX12_cut, c_istore 6, c_aload_n 2, c_invv 132 [] gX12_thrown mdX12_thrown, c_iload 5, c_icmp .eq 5 1158, c_iconst 0, c_zreturn]
set_option maxRecDepth 100000 in
theorem eL_law_1060 (kb : Co) (a0 a1 a2 a3 a4 : Int) (s : St) : exb (famH (tL_law_1060 kb) kb) 0 bL_law_1060 [(5, 0, a0), (3, 11, a1), (3, 12, a2), (3, 60, a3), (0, 0, a4), (7, 0, 0), (7, 0, 0)] [] s = fL_law_1060 kb a0 a1 a2 a3 a4 s := rfl
noncomputable def bL_law_1158 : List En := [c_iload 5, c_if .ne 15 1175, c_aload_n 3, c_iconst 0, c_lald, c_iload 6, c_i2l, c_lcmp, c_if .eq 5 1175, c_iconst 0, c_zreturn]
set_option maxRecDepth 100000 in
theorem eL_law_1158 (kb : Co) (a0 a1 a2 a3 a4 a5 a6 : Int) (s : St) : exb (famH (tL_law_1158 kb) kb) 0 bL_law_1158 [(5, 0, a0), (3, 11, a1), (3, 12, a2), (3, 60, a3), (0, 0, a4), (0, 0, a5), (0, 0, a6)] [] s = fL_law_1158 kb a0 a1 a2 a3 a4 a5 a6 s := rfl
noncomputable def bL_law_1175 : List En := [c_goto 1461 2636]
set_option maxRecDepth 100000 in
theorem eL_law_1175 (kb : Co) (a0 a1 a2 a3 a4 : Int) (s : St) : exb (famH (tL_law_1175 kb) kb) 0 bL_law_1175 [(5, 0, a0), (3, 11, a1), (3, 12, a2), (3, 60, a3), (0, 0, a4), (7, 0, 0), (7, 0, 0)] [] s = fL_law_1175 kb a0 a1 a2 a3 a4 s := rfl
noncomputable def bL_law_1178 : List En := [c_aload_n 1, c_aload_n 0, c_iload 4, c_iconst 1, c_iadd, c_iald 61 0, c_aload_n 0, c_iload 4, c_iconst 2, c_iadd, c_iald 61 0, c_aload_n 3, c_invs 175 [] gL_fits mdL_fits, c_istore 5, c_aload_n 2, c_aload_n 0, c_iload 4, c_iconst 1, c_iadd, c_iald 61 0, c_aload_n 0, c_iload 4, c_iconst 2, c_iadd, c_iald 61 0, c_invv 177 [] gX12_fits mdX12_fits, c_istore 6, c_aload_n 2, c_invv 132 [] gX12_thrown mdX12_thrown, c_iload 5, c_icmp .eq 5 1226, c_iconst 0, c_zreturn]
set_option maxRecDepth 100000 in
theorem eL_law_1178 (kb : Co) (a0 a1 a2 a3 a4 : Int) (s : St) : exb (famH (tL_law_1178 kb) kb) 0 bL_law_1178 [(5, 0, a0), (3, 11, a1), (3, 12, a2), (3, 60, a3), (0, 0, a4), (7, 0, 0), (7, 0, 0)] [] s = fL_law_1178 kb a0 a1 a2 a3 a4 s := rfl
noncomputable def bL_law_1226 : List En := [c_iload 5, c_if .ne 22 1250, c_aload_n 3, c_iconst 0, c_lald, c_iload 6, c_if .eq 7 1243, c_lconst1, c_goto 4 1244]
set_option maxRecDepth 100000 in
theorem eL_law_1226 (kb : Co) (a0 a1 a2 a3 a4 a5 a6 : Int) (s : St) : exb (famH (tL_law_1226 kb) kb) 0 bL_law_1226 [(5, 0, a0), (3, 11, a1), (3, 12, a2), (3, 60, a3), (0, 0, a4), (0, 0, a5), (0, 0, a6)] [] s = fL_law_1226 kb a0 a1 a2 a3 a4 a5 a6 s := rfl
noncomputable def bL_law_1243 : List En := [c_lconst0]
set_option maxRecDepth 100000 in
theorem eL_law_1243 (kb : Co) (a0 a1 a2 a3 a4 y0 : Int) (s : St) : exb (famH (tL_law_1243 kb) kb) 1244 bL_law_1243 [(5, 0, a0), (3, 11, a1), (3, 12, a2), (3, 60, a3), (0, 0, a4), (7, 0, 0), (7, 0, 0)] [(1, 0, y0)] s = fL_law_1243 kb a0 a1 a2 a3 a4 y0 s := rfl
noncomputable def bL_law_1244 : List En := [c_lcmp, c_if .eq 5 1250, c_iconst 0, c_zreturn]
set_option maxRecDepth 100000 in
theorem eL_law_1244 (kb : Co) (a0 a1 a2 a3 a4 y0 y1 : Int) (s : St) : exb (famH (tL_law_1244 kb) kb) 0 bL_law_1244 [(5, 0, a0), (3, 11, a1), (3, 12, a2), (3, 60, a3), (0, 0, a4), (7, 0, 0), (7, 0, 0)] [(1, 0, y0), (1, 0, y1)] s = fL_law_1244 kb a0 a1 a2 a3 a4 y0 y1 s := rfl
noncomputable def bL_law_1250 : List En := [c_goto 1386 2636]
set_option maxRecDepth 100000 in
theorem eL_law_1250 (kb : Co) (a0 a1 a2 a3 a4 : Int) (s : St) : exb (famH (tL_law_1250 kb) kb) 0 bL_law_1250 [(5, 0, a0), (3, 11, a1), (3, 12, a2), (3, 60, a3), (0, 0, a4), (7, 0, 0), (7, 0, 0)] [] s = fL_law_1250 kb a0 a1 a2 a3 a4 s := rfl
noncomputable def bL_law_1253 : List En := [c_aload_n 1, c_aload_n 0, c_iload 4, c_iconst 1, c_iadd, c_iald 61 0, c_aload_n 0, c_iload 4, c_iconst 2, c_iadd, c_iald 61 0, c_aload_n 3, c_invs 178 [] gL_enter mdL_enter, c_istore 5, c_aload_n 2, c_aload_n 0, c_iload 4, c_iconst 1, c_iadd, c_iald 61 0, c_aload_n 0, c_iload 4, c_iconst 2, c_iadd, c_iald 61 0, c_invv 180 [] gX12_enter mdX12_enter, c_istore 6, c_aload_n 2, c_invv 132 [] gX12_thrown mdX12_thrown, c_iload 5, c_icmp .eq 5 1301, c_iconst 0, c_zreturn]
set_option maxRecDepth 100000 in
theorem eL_law_1253 (kb : Co) (a0 a1 a2 a3 a4 : Int) (s : St) : exb (famH (tL_law_1253 kb) kb) 0 bL_law_1253 [(5, 0, a0), (3, 11, a1), (3, 12, a2), (3, 60, a3), (0, 0, a4), (7, 0, 0), (7, 0, 0)] [] s = fL_law_1253 kb a0 a1 a2 a3 a4 s := rfl
noncomputable def bL_law_1301 : List En := [c_iload 5, c_if .ne 15 1318, c_aload_n 3, c_iconst 0, c_lald, c_iload 6, c_i2l, c_lcmp, c_if .eq 5 1318, c_iconst 0, c_zreturn]
set_option maxRecDepth 100000 in
theorem eL_law_1301 (kb : Co) (a0 a1 a2 a3 a4 a5 a6 : Int) (s : St) : exb (famH (tL_law_1301 kb) kb) 0 bL_law_1301 [(5, 0, a0), (3, 11, a1), (3, 12, a2), (3, 60, a3), (0, 0, a4), (0, 0, a5), (0, 0, a6)] [] s = fL_law_1301 kb a0 a1 a2 a3 a4 a5 a6 s := rfl
noncomputable def bL_law_1318 : List En := [c_goto 1318 2636]
set_option maxRecDepth 100000 in
theorem eL_law_1318 (kb : Co) (a0 a1 a2 a3 a4 : Int) (s : St) : exb (famH (tL_law_1318 kb) kb) 0 bL_law_1318 [(5, 0, a0), (3, 11, a1), (3, 12, a2), (3, 60, a3), (0, 0, a4), (7, 0, 0), (7, 0, 0)] [] s = fL_law_1318 kb a0 a1 a2 a3 a4 s := rfl
noncomputable def bL_law_1321 : List En := [c_aload_n 1, c_aload_n 0, c_iload 4, c_iconst 1, c_iadd, c_iald 61 0, c_aload_n 0, c_iload 4, c_iconst 2, c_iadd, c_iald 61 0, c_aload_n 3, c_invs 181 [] gL_change mdL_change, c_istore 5, c_aload_n 2, c_aload_n 0, c_iload 4, c_iconst 1, c_iadd, c_iald 61 0, c_aload_n 0, c_iload 4, c_iconst 2, c_iadd, c_iald 61 0, c_invv 183 [] gX12_change mdX12_change, c_istore 6, c_aload_n 2, c_invv 132 [] gX12_thrown mdX12_thrown, c_iload 5, c_icmp .eq 5 1369, c_iconst 0, c_zreturn]
set_option maxRecDepth 100000 in
theorem eL_law_1321 (kb : Co) (a0 a1 a2 a3 a4 : Int) (s : St) : exb (famH (tL_law_1321 kb) kb) 0 bL_law_1321 [(5, 0, a0), (3, 11, a1), (3, 12, a2), (3, 60, a3), (0, 0, a4), (7, 0, 0), (7, 0, 0)] [] s = fL_law_1321 kb a0 a1 a2 a3 a4 s := rfl
noncomputable def bL_law_1369 : List En := [c_iload 5, c_if .ne 22 1393, c_aload_n 3, c_iconst 0, c_lald, c_iload 6, c_if .eq 7 1386, c_lconst1, c_goto 4 1387]
set_option maxRecDepth 100000 in
theorem eL_law_1369 (kb : Co) (a0 a1 a2 a3 a4 a5 a6 : Int) (s : St) : exb (famH (tL_law_1369 kb) kb) 0 bL_law_1369 [(5, 0, a0), (3, 11, a1), (3, 12, a2), (3, 60, a3), (0, 0, a4), (0, 0, a5), (0, 0, a6)] [] s = fL_law_1369 kb a0 a1 a2 a3 a4 a5 a6 s := rfl
noncomputable def bL_law_1386 : List En := [c_lconst0]
set_option maxRecDepth 100000 in
theorem eL_law_1386 (kb : Co) (a0 a1 a2 a3 a4 y0 : Int) (s : St) : exb (famH (tL_law_1386 kb) kb) 1387 bL_law_1386 [(5, 0, a0), (3, 11, a1), (3, 12, a2), (3, 60, a3), (0, 0, a4), (7, 0, 0), (7, 0, 0)] [(1, 0, y0)] s = fL_law_1386 kb a0 a1 a2 a3 a4 y0 s := rfl
noncomputable def bL_law_1387 : List En := [c_lcmp, c_if .eq 5 1393, c_iconst 0, c_zreturn]
set_option maxRecDepth 100000 in
theorem eL_law_1387 (kb : Co) (a0 a1 a2 a3 a4 y0 y1 : Int) (s : St) : exb (famH (tL_law_1387 kb) kb) 0 bL_law_1387 [(5, 0, a0), (3, 11, a1), (3, 12, a2), (3, 60, a3), (0, 0, a4), (7, 0, 0), (7, 0, 0)] [(1, 0, y0), (1, 0, y1)] s = fL_law_1387 kb a0 a1 a2 a3 a4 y0 y1 s := rfl
noncomputable def bL_law_1393 : List En := [c_goto 1243 2636]
set_option maxRecDepth 100000 in
theorem eL_law_1393 (kb : Co) (a0 a1 a2 a3 a4 : Int) (s : St) : exb (famH (tL_law_1393 kb) kb) 0 bL_law_1393 [(5, 0, a0), (3, 11, a1), (3, 12, a2), (3, 60, a3), (0, 0, a4), (7, 0, 0), (7, 0, 0)] [] s = fL_law_1393 kb a0 a1 a2 a3 a4 s := rfl
noncomputable def bL_law_1396 : List En := [c_aload_n 1, c_aload_n 0, c_iload 4, c_iconst 1, c_iadd, c_iald 61 0, c_aload_n 0, c_iload 4, c_iconst 2, c_iadd, c_iald 61 0, c_aload_n 3, c_invs 184 [] gL_order mdL_order, c_istore 5, c_aload_n 2, c_aload_n 0, c_iload 4, c_iconst 1, c_iadd, c_iald 61 0, c_aload_n 0, c_iload 4, c_iconst 2, c_iadd, c_iald 61 0, c_invv 186 [] gX12_order mdX12_order, c_istore 6, c_aload_n 2, c_invv 132 [] gX12_thrown mdX12_thrown, c_iload 5, c_icmp .eq 5 1444, c_iconst 0, c_zreturn]
set_option maxRecDepth 100000 in
theorem eL_law_1396 (kb : Co) (a0 a1 a2 a3 a4 : Int) (s : St) : exb (famH (tL_law_1396 kb) kb) 0 bL_law_1396 [(5, 0, a0), (3, 11, a1), (3, 12, a2), (3, 60, a3), (0, 0, a4), (7, 0, 0), (7, 0, 0)] [] s = fL_law_1396 kb a0 a1 a2 a3 a4 s := rfl
noncomputable def bL_law_1444 : List En := [c_iload 5, c_if .ne 15 1461, c_aload_n 3, c_iconst 0, c_lald, c_iload 6, c_i2l, c_lcmp, c_if .eq 5 1461, c_iconst 0, c_zreturn]
set_option maxRecDepth 100000 in
theorem eL_law_1444 (kb : Co) (a0 a1 a2 a3 a4 a5 a6 : Int) (s : St) : exb (famH (tL_law_1444 kb) kb) 0 bL_law_1444 [(5, 0, a0), (3, 11, a1), (3, 12, a2), (3, 60, a3), (0, 0, a4), (0, 0, a5), (0, 0, a6)] [] s = fL_law_1444 kb a0 a1 a2 a3 a4 a5 a6 s := rfl
noncomputable def bL_law_1461 : List En := [c_goto 1175 2636]
set_option maxRecDepth 100000 in
theorem eL_law_1461 (kb : Co) (a0 a1 a2 a3 a4 : Int) (s : St) : exb (famH (tL_law_1461 kb) kb) 0 bL_law_1461 [(5, 0, a0), (3, 11, a1), (3, 12, a2), (3, 60, a3), (0, 0, a4), (7, 0, 0), (7, 0, 0)] [] s = fL_law_1461 kb a0 a1 a2 a3 a4 s := rfl
noncomputable def bL_law_1464 : List En := [c_aload_n 1, c_aload_n 0, c_iload 4, c_iconst 1, c_iadd, c_iald 61 0, c_aload_n 0, c_iload 4, c_iconst 2, c_iadd, c_iald 61 0, c_aload_n 0, c_iload 4, c_iconst 3, c_iadd, c_iald 61 0, c_aload_n 3, c_invs 187 [] gL_begin mdL_begin, c_istore 5, c_aload_n 2, c_aload_n 0, c_iload 4, c_iconst 1, c_iadd, c_iald 61 0, c_aload_n 0, c_iload 4, c_iconst 2, c_iadd, c_iald 61 0, c_aload_n 0, c_iload 4, c_iconst 3, c_iadd, c_iald 61 0, c_invv 189 [] gX12_begin mdX12_begin, c_istore 6, c_aload_n 2, c_invv 132 [] gX12_thrown mdX12_thrown, c_iload 5, c_icmp .eq 5 1524, c_iconst 0, c_zreturn]
set_option maxRecDepth 100000 in
theorem eL_law_1464 (kb : Co) (a0 a1 a2 a3 a4 : Int) (s : St) : exb (famH (tL_law_1464 kb) kb) 0 bL_law_1464 [(5, 0, a0), (3, 11, a1), (3, 12, a2), (3, 60, a3), (0, 0, a4), (7, 0, 0), (7, 0, 0)] [] s = fL_law_1464 kb a0 a1 a2 a3 a4 s := rfl
noncomputable def bL_law_1524 : List En := [c_iload 5, c_if .ne 15 1541, c_aload_n 3, c_iconst 0, c_lald, c_iload 6, c_i2l, c_lcmp, c_if .eq 5 1541, c_iconst 0, c_zreturn]
set_option maxRecDepth 100000 in
theorem eL_law_1524 (kb : Co) (a0 a1 a2 a3 a4 a5 a6 : Int) (s : St) : exb (famH (tL_law_1524 kb) kb) 0 bL_law_1524 [(5, 0, a0), (3, 11, a1), (3, 12, a2), (3, 60, a3), (0, 0, a4), (0, 0, a5), (0, 0, a6)] [] s = fL_law_1524 kb a0 a1 a2 a3 a4 a5 a6 s := rfl
noncomputable def bL_law_1541 : List En := [c_goto 1095 2636]
set_option maxRecDepth 100000 in
theorem eL_law_1541 (kb : Co) (a0 a1 a2 a3 a4 : Int) (s : St) : exb (famH (tL_law_1541 kb) kb) 0 bL_law_1541 [(5, 0, a0), (3, 11, a1), (3, 12, a2), (3, 60, a3), (0, 0, a4), (7, 0, 0), (7, 0, 0)] [] s = fL_law_1541 kb a0 a1 a2 a3 a4 s := rfl
noncomputable def bL_law_1544 : List En := [c_aload_n 1, c_aload_n 0, c_iload 4, c_iconst 1, c_iadd, c_iald 61 0, c_aload_n 0, c_iload 4, c_iconst 2, c_iadd, c_iald 61 0, c_aload_n 0, c_iload 4, c_iconst 3, c_iadd, c_iald 61 0, c_aload_n 3, c_invs 190 [] gL_stop mdL_stop, c_istore 5, c_aload_n 2, c_aload_n 0, c_iload 4, c_iconst 1, c_iadd, c_iald 61 0, c_aload_n 0, c_iload 4, c_iconst 2, c_iadd, c_iald 61 0, c_aload_n 0, c_iload 4, c_iconst 3, c_iadd, c_iald 61 0, c_invv 192 [] gX12_stop mdX12_stop, c_istore 6, c_aload_n 2, c_invv 132 [] gX12_thrown mdX12_thrown, c_iload 5, c_icmp .eq 5 1604, c_iconst 0, c_zreturn]
set_option maxRecDepth 100000 in
theorem eL_law_1544 (kb : Co) (a0 a1 a2 a3 a4 : Int) (s : St) : exb (famH (tL_law_1544 kb) kb) 0 bL_law_1544 [(5, 0, a0), (3, 11, a1), (3, 12, a2), (3, 60, a3), (0, 0, a4), (7, 0, 0), (7, 0, 0)] [] s = fL_law_1544 kb a0 a1 a2 a3 a4 s := rfl
noncomputable def bL_law_1604 : List En := [c_iload 5, c_if .ne 15 1621, c_aload_n 3, c_iconst 0, c_lald, c_iload 6, c_i2l, c_lcmp, c_if .eq 5 1621, c_iconst 0, c_zreturn]
set_option maxRecDepth 100000 in
theorem eL_law_1604 (kb : Co) (a0 a1 a2 a3 a4 a5 a6 : Int) (s : St) : exb (famH (tL_law_1604 kb) kb) 0 bL_law_1604 [(5, 0, a0), (3, 11, a1), (3, 12, a2), (3, 60, a3), (0, 0, a4), (0, 0, a5), (0, 0, a6)] [] s = fL_law_1604 kb a0 a1 a2 a3 a4 a5 a6 s := rfl
noncomputable def bL_law_1621 : List En := [c_goto 1015 2636]
set_option maxRecDepth 100000 in
theorem eL_law_1621 (kb : Co) (a0 a1 a2 a3 a4 : Int) (s : St) : exb (famH (tL_law_1621 kb) kb) 0 bL_law_1621 [(5, 0, a0), (3, 11, a1), (3, 12, a2), (3, 60, a3), (0, 0, a4), (7, 0, 0), (7, 0, 0)] [] s = fL_law_1621 kb a0 a1 a2 a3 a4 s := rfl
noncomputable def bL_law_1624 : List En := [c_aload_n 1, c_aload_n 0, c_iload 4, c_iconst 1, c_iadd, c_iald 61 0, c_if .eq 7 1638, c_iconst 1, c_goto 4 1639]
set_option maxRecDepth 100000 in
theorem eL_law_1624 (kb : Co) (a0 a1 a2 a3 a4 : Int) (s : St) : exb (famH (tL_law_1624 kb) kb) 0 bL_law_1624 [(5, 0, a0), (3, 11, a1), (3, 12, a2), (3, 60, a3), (0, 0, a4), (7, 0, 0), (7, 0, 0)] [] s = fL_law_1624 kb a0 a1 a2 a3 a4 s := rfl
noncomputable def bL_law_1638 : List En := [c_iconst 0]
set_option maxRecDepth 100000 in
theorem eL_law_1638 (kb : Co) (a0 a1 a2 a3 a4 y0 : Int) (s : St) : exb (famH (tL_law_1638 kb) kb) 1639 bL_law_1638 [(5, 0, a0), (3, 11, a1), (3, 12, a2), (3, 60, a3), (0, 0, a4), (7, 0, 0), (7, 0, 0)] [(3, 11, y0)] s = fL_law_1638 kb a0 a1 a2 a3 a4 y0 s := rfl
noncomputable def bL_law_1639 : List En := [c_invv 193 [] gX11_rain mdX11_rain, c_aload_n 2, c_aload_n 0, c_iload 4, c_iconst 1, c_iadd, c_iald 61 0, c_if .eq 7 1656, c_iconst 1, c_goto 4 1657]
set_option maxRecDepth 100000 in
theorem eL_law_1639 (kb : Co) (a0 a1 a2 a3 a4 y0 y1 : Int) (s : St) : exb (famH (tL_law_1639 kb) kb) 0 bL_law_1639 [(5, 0, a0), (3, 11, a1), (3, 12, a2), (3, 60, a3), (0, 0, a4), (7, 0, 0), (7, 0, 0)] [(0, 0, y0), (3, 11, y1)] s = fL_law_1639 kb a0 a1 a2 a3 a4 y0 y1 s := rfl
noncomputable def bL_law_1656 : List En := [c_iconst 0]
set_option maxRecDepth 100000 in
theorem eL_law_1656 (kb : Co) (a0 a1 a2 a3 a4 y0 y1 : Int) (s : St) : exb (famH (tL_law_1656 kb) kb) 1657 bL_law_1656 [(5, 0, a0), (3, 11, a1), (3, 12, a2), (3, 60, a3), (0, 0, a4), (7, 0, 0), (7, 0, 0)] [(3, 12, y0), (0, 0, y1)] s = fL_law_1656 kb a0 a1 a2 a3 a4 y0 y1 s := rfl
noncomputable def bL_law_1657 : List En := [c_invv 197 [] gX12_rain mdX12_rain, c_icmp .eq 976 2636, c_iconst 0, c_zreturn]
set_option maxRecDepth 100000 in
theorem eL_law_1657 (kb : Co) (a0 a1 a2 a3 a4 y0 y1 y2 : Int) (s : St) : exb (famH (tL_law_1657 kb) kb) 0 bL_law_1657 [(5, 0, a0), (3, 11, a1), (3, 12, a2), (3, 60, a3), (0, 0, a4), (7, 0, 0), (7, 0, 0)] [(0, 0, y0), (3, 12, y1), (0, 0, y2)] s = fL_law_1657 kb a0 a1 a2 a3 a4 y0 y1 y2 s := rfl
noncomputable def bL_law_1665 : List En := [c_aload_n 1, c_aload_n 0, c_iload 4, c_iconst 1, c_iadd, c_iald 61 0, c_aload_n 3, c_invs 198 [] gL_ambulance mdL_ambulance, c_istore 5, c_aload_n 2, c_aload_n 0, c_iload 4, c_iconst 1, c_iadd, c_iald 61 0, c_invv 200 [] gX12_ambulance mdX12_ambulance, c_istore 6, c_aload_n 2, c_invv 132 [] gX12_thrown mdX12_thrown, c_iload 5, c_icmp .eq 5 1701, c_iconst 0, c_zreturn]
set_option maxRecDepth 100000 in
theorem eL_law_1665 (kb : Co) (a0 a1 a2 a3 a4 : Int) (s : St) : exb (famH (tL_law_1665 kb) kb) 0 bL_law_1665 [(5, 0, a0), (3, 11, a1), (3, 12, a2), (3, 60, a3), (0, 0, a4), (7, 0, 0), (7, 0, 0)] [] s = fL_law_1665 kb a0 a1 a2 a3 a4 s := rfl
noncomputable def bL_law_1701 : List En := [c_iload 5, c_if .ne 15 1718, c_aload_n 3, c_iconst 0, c_lald, c_iload 6, c_i2l, c_lcmp, c_if .eq 5 1718, c_iconst 0, c_zreturn]
set_option maxRecDepth 100000 in
theorem eL_law_1701 (kb : Co) (a0 a1 a2 a3 a4 a5 a6 : Int) (s : St) : exb (famH (tL_law_1701 kb) kb) 0 bL_law_1701 [(5, 0, a0), (3, 11, a1), (3, 12, a2), (3, 60, a3), (0, 0, a4), (0, 0, a5), (0, 0, a6)] [] s = fL_law_1701 kb a0 a1 a2 a3 a4 a5 a6 s := rfl
noncomputable def bL_law_1718 : List En := [c_goto 918 2636]
set_option maxRecDepth 100000 in
theorem eL_law_1718 (kb : Co) (a0 a1 a2 a3 a4 : Int) (s : St) : exb (famH (tL_law_1718 kb) kb) 0 bL_law_1718 [(5, 0, a0), (3, 11, a1), (3, 12, a2), (3, 60, a3), (0, 0, a4), (7, 0, 0), (7, 0, 0)] [] s = fL_law_1718 kb a0 a1 a2 a3 a4 s := rfl
noncomputable def bL_law_1721 : List En := [c_aload_n 1, c_aload_n 0, c_iload 4, c_iconst 1, c_iadd, c_iald 61 0, c_aload_n 0, c_iload 4, c_iconst 2, c_iadd, c_iald 61 0, c_aload_n 3, c_invs 201 [] gL_march mdL_march, c_istore 5, c_aload_n 2, c_aload_n 0, c_iload 4, c_iconst 1, c_iadd, c_iald 61 0, c_aload_n 0, c_iload 4, c_iconst 2, c_iadd, c_iald 61 0, c_invv 203 [] gX12_march mdX12_march, c_istore 6, c_aload_n 2, c_invv 132 [] gX12_thrown mdX12_thrown, c_iload 5, c_icmp .eq 5 1769, c_iconst 0, c_zreturn]
set_option maxRecDepth 100000 in
theorem eL_law_1721 (kb : Co) (a0 a1 a2 a3 a4 : Int) (s : St) : exb (famH (tL_law_1721 kb) kb) 0 bL_law_1721 [(5, 0, a0), (3, 11, a1), (3, 12, a2), (3, 60, a3), (0, 0, a4), (7, 0, 0), (7, 0, 0)] [] s = fL_law_1721 kb a0 a1 a2 a3 a4 s := rfl
noncomputable def bL_law_1769 : List En := [c_iload 5, c_if .ne 15 1786, c_aload_n 3, c_iconst 0, c_lald, c_iload 6, c_i2l, c_lcmp, c_if .eq 5 1786, c_iconst 0, c_zreturn]
set_option maxRecDepth 100000 in
theorem eL_law_1769 (kb : Co) (a0 a1 a2 a3 a4 a5 a6 : Int) (s : St) : exb (famH (tL_law_1769 kb) kb) 0 bL_law_1769 [(5, 0, a0), (3, 11, a1), (3, 12, a2), (3, 60, a3), (0, 0, a4), (0, 0, a5), (0, 0, a6)] [] s = fL_law_1769 kb a0 a1 a2 a3 a4 a5 a6 s := rfl
noncomputable def bL_law_1786 : List En := [c_goto 850 2636]
set_option maxRecDepth 100000 in
theorem eL_law_1786 (kb : Co) (a0 a1 a2 a3 a4 : Int) (s : St) : exb (famH (tL_law_1786 kb) kb) 0 bL_law_1786 [(5, 0, a0), (3, 11, a1), (3, 12, a2), (3, 60, a3), (0, 0, a4), (7, 0, 0), (7, 0, 0)] [] s = fL_law_1786 kb a0 a1 a2 a3 a4 s := rfl
noncomputable def bL_law_1789 : List En := [c_aload_n 1, c_aload_n 0, c_iload 4, c_iconst 1, c_iadd, c_iald 61 0, c_aload_n 0, c_iload 4, c_iconst 2, c_iadd, c_iald 61 0, c_aload_n 0, c_iload 4, c_iconst 3, c_iadd, c_iald 61 0, c_aload_n 3, c_invs 204 [] gL_part mdL_part, c_istore 5, c_aload_n 2, c_aload_n 0, c_iload 4, c_iconst 1, c_iadd, c_iald 61 0, c_aload_n 0, c_iload 4, c_iconst 2, c_iadd, c_iald 61 0, c_aload_n 0, c_iload 4, c_iconst 3, c_iadd, c_iald 61 0, c_invv 206 [] gX12_part mdX12_part, c_istore 6, c_aload_n 2, c_invv 132 [] gX12_thrown mdX12_thrown, c_iload 5, c_icmp .eq 5 1849, c_iconst 0, c_zreturn]
set_option maxRecDepth 100000 in
theorem eL_law_1789 (kb : Co) (a0 a1 a2 a3 a4 : Int) (s : St) : exb (famH (tL_law_1789 kb) kb) 0 bL_law_1789 [(5, 0, a0), (3, 11, a1), (3, 12, a2), (3, 60, a3), (0, 0, a4), (7, 0, 0), (7, 0, 0)] [] s = fL_law_1789 kb a0 a1 a2 a3 a4 s := rfl
noncomputable def bL_law_1849 : List En := [c_iload 5, c_if .ne 15 1866, c_aload_n 3, c_iconst 0, c_lald, c_iload 6, c_i2l, c_lcmp, c_if .eq 5 1866, c_iconst 0, c_zreturn]
set_option maxRecDepth 100000 in
theorem eL_law_1849 (kb : Co) (a0 a1 a2 a3 a4 a5 a6 : Int) (s : St) : exb (famH (tL_law_1849 kb) kb) 0 bL_law_1849 [(5, 0, a0), (3, 11, a1), (3, 12, a2), (3, 60, a3), (0, 0, a4), (0, 0, a5), (0, 0, a6)] [] s = fL_law_1849 kb a0 a1 a2 a3 a4 a5 a6 s := rfl
noncomputable def bL_law_1866 : List En := [c_goto 770 2636]
set_option maxRecDepth 100000 in
theorem eL_law_1866 (kb : Co) (a0 a1 a2 a3 a4 : Int) (s : St) : exb (famH (tL_law_1866 kb) kb) 0 bL_law_1866 [(5, 0, a0), (3, 11, a1), (3, 12, a2), (3, 60, a3), (0, 0, a4), (7, 0, 0), (7, 0, 0)] [] s = fL_law_1866 kb a0 a1 a2 a3 a4 s := rfl
noncomputable def bL_law_1869 : List En := [c_aload_n 1, c_aload_n 0, c_iload 4, c_iconst 1, c_iadd, c_iald 61 0, c_aload_n 0, c_iload 4, c_iconst 2, c_iadd, c_iald 61 0, c_aload_n 3, c_invs 207 [] gL_clock mdL_clock, c_istore 5, c_aload_n 2, c_aload_n 0, c_iload 4, c_iconst 1, c_iadd, c_iald 61 0, c_aload_n 0, c_iload 4, c_iconst 2, c_iadd, c_iald 61 0, c_invv 209 [] gX12_clock mdX12_clock, c_istore 6, c_aload_n 2, c_invv 132 [] gX12_thrown mdX12_thrown, c_iload 5, c_icmp .eq 5 1917, c_iconst 0, c_zreturn]
set_option maxRecDepth 100000 in
theorem eL_law_1869 (kb : Co) (a0 a1 a2 a3 a4 : Int) (s : St) : exb (famH (tL_law_1869 kb) kb) 0 bL_law_1869 [(5, 0, a0), (3, 11, a1), (3, 12, a2), (3, 60, a3), (0, 0, a4), (7, 0, 0), (7, 0, 0)] [] s = fL_law_1869 kb a0 a1 a2 a3 a4 s := rfl
noncomputable def bL_law_1917 : List En := [c_iload 5, c_if .ne 15 1934, c_aload_n 3, c_iconst 0, c_lald, c_iload 6, c_i2l, c_lcmp, c_if .eq 5 1934, c_iconst 0, c_zreturn]
set_option maxRecDepth 100000 in
theorem eL_law_1917 (kb : Co) (a0 a1 a2 a3 a4 a5 a6 : Int) (s : St) : exb (famH (tL_law_1917 kb) kb) 0 bL_law_1917 [(5, 0, a0), (3, 11, a1), (3, 12, a2), (3, 60, a3), (0, 0, a4), (0, 0, a5), (0, 0, a6)] [] s = fL_law_1917 kb a0 a1 a2 a3 a4 a5 a6 s := rfl
noncomputable def bL_law_1934 : List En := [c_goto 702 2636]
set_option maxRecDepth 100000 in
theorem eL_law_1934 (kb : Co) (a0 a1 a2 a3 a4 : Int) (s : St) : exb (famH (tL_law_1934 kb) kb) 0 bL_law_1934 [(5, 0, a0), (3, 11, a1), (3, 12, a2), (3, 60, a3), (0, 0, a4), (7, 0, 0), (7, 0, 0)] [] s = fL_law_1934 kb a0 a1 a2 a3 a4 s := rfl
noncomputable def bL_law_1937 : List En := [c_aload_n 1, c_aload_n 0, c_iload 4, c_iconst 1, c_iadd, c_iald 61 0, c_aload_n 0, c_iload 4, c_iconst 2, c_iadd, c_iald 61 0, c_aload_n 0, c_iload 4, c_iconst 3, c_iadd, c_iald 61 0, c_aload_n 0, c_iload 4, c_iconst 4, c_iadd, c_iald 61 0, c_aload_n 3, c_invs 210 [] gL_note mdL_note, c_istore 5, c_aload_n 2, c_aload_n 0, c_iload 4, c_iconst 1, c_iadd, c_iald 61 0, c_aload_n 0, c_iload 4, c_iconst 2, c_iadd, c_iald 61 0, c_aload_n 0, c_iload 4, c_iconst 3, c_iadd, c_iald 61 0, c_aload_n 0, c_iload 4, c_iconst 4, c_iadd, c_iald 61 0, c_invv 213 [] gX12_note mdX12_note, c_istore 6, c_aload_n 2, c_invv 132 [] gX12_thrown mdX12_thrown, c_iload 5, c_icmp .eq 5 2009, c_iconst 0, c_zreturn]
set_option maxRecDepth 100000 in
theorem eL_law_1937 (kb : Co) (a0 a1 a2 a3 a4 : Int) (s : St) : exb (famH (tL_law_1937 kb) kb) 0 bL_law_1937 [(5, 0, a0), (3, 11, a1), (3, 12, a2), (3, 60, a3), (0, 0, a4), (7, 0, 0), (7, 0, 0)] [] s = fL_law_1937 kb a0 a1 a2 a3 a4 s := rfl
noncomputable def bL_law_2009 : List En := [c_iload 5, c_if .ne 15 2026, c_aload_n 3, c_iconst 0, c_lald, c_iload 6, c_i2l, c_lcmp, c_if .eq 5 2026, c_iconst 0, c_zreturn]
set_option maxRecDepth 100000 in
theorem eL_law_2009 (kb : Co) (a0 a1 a2 a3 a4 a5 a6 : Int) (s : St) : exb (famH (tL_law_2009 kb) kb) 0 bL_law_2009 [(5, 0, a0), (3, 11, a1), (3, 12, a2), (3, 60, a3), (0, 0, a4), (0, 0, a5), (0, 0, a6)] [] s = fL_law_2009 kb a0 a1 a2 a3 a4 a5 a6 s := rfl
noncomputable def bL_law_2026 : List En := [c_goto 610 2636]
set_option maxRecDepth 100000 in
theorem eL_law_2026 (kb : Co) (a0 a1 a2 a3 a4 : Int) (s : St) : exb (famH (tL_law_2026 kb) kb) 0 bL_law_2026 [(5, 0, a0), (3, 11, a1), (3, 12, a2), (3, 60, a3), (0, 0, a4), (7, 0, 0), (7, 0, 0)] [] s = fL_law_2026 kb a0 a1 a2 a3 a4 s := rfl
noncomputable def bL_law_2029 : List En := [c_aload_n 1, c_aload_n 0, c_iload 4, c_iconst 1, c_iadd, c_iald 61 0, c_aload_n 0, c_iload 4, c_iconst 2, c_iadd, c_iald 61 0, c_aload_n 0, c_iload 4, c_iconst 3, c_iadd, c_iald 61 0, c_aload_n 3, c_invs 214 [] gL_penalty mdL_penalty, c_istore 5, c_aload_n 2, c_aload_n 0, c_iload 4, c_iconst 1, c_iadd, c_iald 61 0, c_aload_n 0, c_iload 4, c_iconst 2, c_iadd, c_iald 61 0, c_aload_n 0, c_iload 4, c_iconst 3, c_iadd, c_iald 61 0, c_invv 216 [] gX12_penalty mdX12_penalty, c_istore 6, c_aload_n 2, c_invv 132 [] gX12_thrown mdX12_thrown, c_iload 5, c_icmp .eq 5 2089, c_iconst 0, c_zreturn]
set_option maxRecDepth 100000 in
theorem eL_law_2029 (kb : Co) (a0 a1 a2 a3 a4 : Int) (s : St) : exb (famH (tL_law_2029 kb) kb) 0 bL_law_2029 [(5, 0, a0), (3, 11, a1), (3, 12, a2), (3, 60, a3), (0, 0, a4), (7, 0, 0), (7, 0, 0)] [] s = fL_law_2029 kb a0 a1 a2 a3 a4 s := rfl
noncomputable def bL_law_2089 : List En := [c_iload 5, c_if .ne 15 2106, c_aload_n 3, c_iconst 0, c_lald, c_iload 6, c_i2l, c_lcmp, c_if .eq 5 2106, c_iconst 0, c_zreturn]
set_option maxRecDepth 100000 in
theorem eL_law_2089 (kb : Co) (a0 a1 a2 a3 a4 a5 a6 : Int) (s : St) : exb (famH (tL_law_2089 kb) kb) 0 bL_law_2089 [(5, 0, a0), (3, 11, a1), (3, 12, a2), (3, 60, a3), (0, 0, a4), (0, 0, a5), (0, 0, a6)] [] s = fL_law_2089 kb a0 a1 a2 a3 a4 a5 a6 s := rfl
noncomputable def bL_law_2106 : List En := [c_goto 530 2636]
set_option maxRecDepth 100000 in
theorem eL_law_2106 (kb : Co) (a0 a1 a2 a3 a4 : Int) (s : St) : exb (famH (tL_law_2106 kb) kb) 0 bL_law_2106 [(5, 0, a0), (3, 11, a1), (3, 12, a2), (3, 60, a3), (0, 0, a4), (7, 0, 0), (7, 0, 0)] [] s = fL_law_2106 kb a0 a1 a2 a3 a4 s := rfl
noncomputable def bL_law_2109 : List En := [c_aload_n 1, c_aload_n 0, c_iload 4, c_iconst 1, c_iadd, c_iald 61 0, c_aload_n 0, c_iload 4, c_iconst 2, c_iadd, c_iald 61 0, c_aload_n 3, c_invs 217 [] gL_appeal mdL_appeal, c_istore 5, c_aload_n 2, c_aload_n 0, c_iload 4, c_iconst 1, c_iadd, c_iald 61 0, c_aload_n 0, c_iload 4, c_iconst 2, c_iadd, c_iald 61 0, c_invv 219 [] gX12_appeal mdX12_appeal, c_istore 6, c_aload_n 2, c_invv 132 [] gX12_thrown mdX12_thrown, c_iload 5, c_icmp .eq 5 2157, c_iconst 0, c_zreturn]
set_option maxRecDepth 100000 in
theorem eL_law_2109 (kb : Co) (a0 a1 a2 a3 a4 : Int) (s : St) : exb (famH (tL_law_2109 kb) kb) 0 bL_law_2109 [(5, 0, a0), (3, 11, a1), (3, 12, a2), (3, 60, a3), (0, 0, a4), (7, 0, 0), (7, 0, 0)] [] s = fL_law_2109 kb a0 a1 a2 a3 a4 s := rfl
noncomputable def bL_law_2157 : List En := [c_iload 5, c_if .ne 15 2174, c_aload_n 3, c_iconst 0, c_lald, c_iload 6, c_i2l, c_lcmp, c_if .eq 5 2174, c_iconst 0, c_zreturn]
set_option maxRecDepth 100000 in
theorem eL_law_2157 (kb : Co) (a0 a1 a2 a3 a4 a5 a6 : Int) (s : St) : exb (famH (tL_law_2157 kb) kb) 0 bL_law_2157 [(5, 0, a0), (3, 11, a1), (3, 12, a2), (3, 60, a3), (0, 0, a4), (0, 0, a5), (0, 0, a6)] [] s = fL_law_2157 kb a0 a1 a2 a3 a4 a5 a6 s := rfl
noncomputable def bL_law_2174 : List En := [c_goto 462 2636]
set_option maxRecDepth 100000 in
theorem eL_law_2174 (kb : Co) (a0 a1 a2 a3 a4 : Int) (s : St) : exb (famH (tL_law_2174 kb) kb) 0 bL_law_2174 [(5, 0, a0), (3, 11, a1), (3, 12, a2), (3, 60, a3), (0, 0, a4), (7, 0, 0), (7, 0, 0)] [] s = fL_law_2174 kb a0 a1 a2 a3 a4 s := rfl
noncomputable def bL_law_2177 : List En := [c_aload_n 1, c_aload_n 0, c_iload 4, c_iconst 1, c_iadd, c_iald 61 0, c_aload_n 3, c_invs 220 [] gL_draw mdL_draw, c_istore 5, c_aload_n 2, c_aload_n 0, c_iload 4, c_iconst 1, c_iadd, c_iald 61 0, c_invv 222 [] gX12_draw mdX12_draw, c_istore 6, c_aload_n 2, c_invv 132 [] gX12_thrown mdX12_thrown, c_iload 5, c_icmp .eq 5 2213, c_iconst 0, c_zreturn]
set_option maxRecDepth 100000 in
theorem eL_law_2177 (kb : Co) (a0 a1 a2 a3 a4 : Int) (s : St) : exb (famH (tL_law_2177 kb) kb) 0 bL_law_2177 [(5, 0, a0), (3, 11, a1), (3, 12, a2), (3, 60, a3), (0, 0, a4), (7, 0, 0), (7, 0, 0)] [] s = fL_law_2177 kb a0 a1 a2 a3 a4 s := rfl
noncomputable def bL_law_2213 : List En := [c_iload 5, c_if .ne 15 2230, c_aload_n 3, c_iconst 0, c_lald, c_iload 6, c_i2l, c_lcmp, c_if .eq 5 2230, c_iconst 0, c_zreturn]
set_option maxRecDepth 100000 in
theorem eL_law_2213 (kb : Co) (a0 a1 a2 a3 a4 a5 a6 : Int) (s : St) : exb (famH (tL_law_2213 kb) kb) 0 bL_law_2213 [(5, 0, a0), (3, 11, a1), (3, 12, a2), (3, 60, a3), (0, 0, a4), (0, 0, a5), (0, 0, a6)] [] s = fL_law_2213 kb a0 a1 a2 a3 a4 a5 a6 s := rfl
noncomputable def bL_law_2230 : List En := [c_goto 406 2636]
set_option maxRecDepth 100000 in
theorem eL_law_2230 (kb : Co) (a0 a1 a2 a3 a4 : Int) (s : St) : exb (famH (tL_law_2230 kb) kb) 0 bL_law_2230 [(5, 0, a0), (3, 11, a1), (3, 12, a2), (3, 60, a3), (0, 0, a4), (7, 0, 0), (7, 0, 0)] [] s = fL_law_2230 kb a0 a1 a2 a3 a4 s := rfl
noncomputable def bL_law_2233 : List En := [c_aload_n 1, c_aload_n 3, c_invs 223 [] gL_endYear mdL_endYear, c_istore 5, c_aload_n 2, c_invv 226 [] gX12_endYear mdX12_endYear, c_istore 6, c_aload_n 2, c_invv 132 [] gX12_thrown mdX12_thrown, c_iload 5, c_icmp .eq 5 2257, c_iconst 0, c_zreturn]
set_option maxRecDepth 100000 in
theorem eL_law_2233 (kb : Co) (a0 a1 a2 a3 a4 : Int) (s : St) : exb (famH (tL_law_2233 kb) kb) 0 bL_law_2233 [(5, 0, a0), (3, 11, a1), (3, 12, a2), (3, 60, a3), (0, 0, a4), (7, 0, 0), (7, 0, 0)] [] s = fL_law_2233 kb a0 a1 a2 a3 a4 s := rfl
noncomputable def bL_law_2257 : List En := [c_iload 5, c_if .ne 15 2274, c_aload_n 3, c_iconst 0, c_lald, c_iload 6, c_i2l, c_lcmp, c_if .eq 5 2274, c_iconst 0, c_zreturn]
set_option maxRecDepth 100000 in
theorem eL_law_2257 (kb : Co) (a0 a1 a2 a3 a4 a5 a6 : Int) (s : St) : exb (famH (tL_law_2257 kb) kb) 0 bL_law_2257 [(5, 0, a0), (3, 11, a1), (3, 12, a2), (3, 60, a3), (0, 0, a4), (0, 0, a5), (0, 0, a6)] [] s = fL_law_2257 kb a0 a1 a2 a3 a4 a5 a6 s := rfl
noncomputable def bL_law_2274 : List En := [c_goto 362 2636]
set_option maxRecDepth 100000 in
theorem eL_law_2274 (kb : Co) (a0 a1 a2 a3 a4 : Int) (s : St) : exb (famH (tL_law_2274 kb) kb) 0 bL_law_2274 [(5, 0, a0), (3, 11, a1), (3, 12, a2), (3, 60, a3), (0, 0, a4), (7, 0, 0), (7, 0, 0)] [] s = fL_law_2274 kb a0 a1 a2 a3 a4 s := rfl
noncomputable def bL_law_2277 : List En := [c_aload_n 1, c_aload_n 0, c_iload 4, c_iconst 1, c_iadd, c_iald 61 0, c_aload_n 0, c_iload 4, c_iconst 2, c_iadd, c_iald 61 0, c_aload_n 3, c_invs 227 [] gL_about mdL_about, c_istore 5, c_aload_n 2, c_aload_n 0, c_iload 4, c_iconst 1, c_iadd, c_iald 61 0, c_aload_n 0, c_iload 4, c_iconst 2, c_iadd, c_iald 61 0, c_invv 229 [] gX12_about mdX12_about, c_istore 6, c_aload_n 2, c_invv 132 [] gX12_thrown mdX12_thrown, c_iload 5, c_icmp .eq 5 2325, c_iconst 0, c_zreturn]
set_option maxRecDepth 100000 in
theorem eL_law_2277 (kb : Co) (a0 a1 a2 a3 a4 : Int) (s : St) : exb (famH (tL_law_2277 kb) kb) 0 bL_law_2277 [(5, 0, a0), (3, 11, a1), (3, 12, a2), (3, 60, a3), (0, 0, a4), (7, 0, 0), (7, 0, 0)] [] s = fL_law_2277 kb a0 a1 a2 a3 a4 s := rfl
noncomputable def bL_law_2325 : List En := [c_iload 5, c_if .ne 15 2342, c_aload_n 3, c_iconst 0, c_lald, c_iload 6, c_i2l, c_lcmp, c_if .eq 5 2342, c_iconst 0, c_zreturn]
set_option maxRecDepth 100000 in
theorem eL_law_2325 (kb : Co) (a0 a1 a2 a3 a4 a5 a6 : Int) (s : St) : exb (famH (tL_law_2325 kb) kb) 0 bL_law_2325 [(5, 0, a0), (3, 11, a1), (3, 12, a2), (3, 60, a3), (0, 0, a4), (0, 0, a5), (0, 0, a6)] [] s = fL_law_2325 kb a0 a1 a2 a3 a4 a5 a6 s := rfl
noncomputable def bL_law_2342 : List En := [c_goto 294 2636]
set_option maxRecDepth 100000 in
theorem eL_law_2342 (kb : Co) (a0 a1 a2 a3 a4 : Int) (s : St) : exb (famH (tL_law_2342 kb) kb) 0 bL_law_2342 [(5, 0, a0), (3, 11, a1), (3, 12, a2), (3, 60, a3), (0, 0, a4), (7, 0, 0), (7, 0, 0)] [] s = fL_law_2342 kb a0 a1 a2 a3 a4 s := rfl
noncomputable def bL_law_2345 : List En := [c_aload_n 1, c_aload_n 0, c_iload 4, c_iconst 1, c_iadd, c_iald 61 0, c_aload_n 0, c_iload 4, c_iconst 2, c_iadd, c_iald 61 0, c_aload_n 3, c_invs 230 [] gL_notes mdL_notes, c_istore 5, c_aload_n 2, c_aload_n 0, c_iload 4, c_iconst 1, c_iadd, c_iald 61 0, c_aload_n 0, c_iload 4, c_iconst 2, c_iadd, c_iald 61 0, c_invv 232 [] gX12_notes mdX12_notes, c_istore 6, c_aload_n 2, c_invv 132 [] gX12_thrown mdX12_thrown, c_iload 5, c_icmp .eq 5 2393, c_iconst 0, c_zreturn]
set_option maxRecDepth 100000 in
theorem eL_law_2345 (kb : Co) (a0 a1 a2 a3 a4 : Int) (s : St) : exb (famH (tL_law_2345 kb) kb) 0 bL_law_2345 [(5, 0, a0), (3, 11, a1), (3, 12, a2), (3, 60, a3), (0, 0, a4), (7, 0, 0), (7, 0, 0)] [] s = fL_law_2345 kb a0 a1 a2 a3 a4 s := rfl
noncomputable def bL_law_2393 : List En := [c_iload 5, c_if .ne 15 2410, c_aload_n 3, c_iconst 0, c_lald, c_iload 6, c_i2l, c_lcmp, c_if .eq 5 2410, c_iconst 0, c_zreturn]
set_option maxRecDepth 100000 in
theorem eL_law_2393 (kb : Co) (a0 a1 a2 a3 a4 a5 a6 : Int) (s : St) : exb (famH (tL_law_2393 kb) kb) 0 bL_law_2393 [(5, 0, a0), (3, 11, a1), (3, 12, a2), (3, 60, a3), (0, 0, a4), (0, 0, a5), (0, 0, a6)] [] s = fL_law_2393 kb a0 a1 a2 a3 a4 a5 a6 s := rfl
noncomputable def bL_law_2410 : List En := [c_goto 226 2636]
set_option maxRecDepth 100000 in
theorem eL_law_2410 (kb : Co) (a0 a1 a2 a3 a4 : Int) (s : St) : exb (famH (tL_law_2410 kb) kb) 0 bL_law_2410 [(5, 0, a0), (3, 11, a1), (3, 12, a2), (3, 60, a3), (0, 0, a4), (7, 0, 0), (7, 0, 0)] [] s = fL_law_2410 kb a0 a1 a2 a3 a4 s := rfl
noncomputable def bL_law_2413 : List En := [c_aload_n 1, c_aload_n 0, c_iload 4, c_iconst 1, c_iadd, c_iald 61 0, c_aload_n 0, c_iload 4, c_iconst 2, c_iadd, c_iald 61 0, c_aload_n 0, c_iload 4, c_iconst 3, c_iadd, c_iald 61 0, c_aload_n 3, c_invs 233 [] gL_penaltyAt mdL_penaltyAt, c_istore 5, c_aload_n 2, c_aload_n 0, c_iload 4, c_iconst 1, c_iadd, c_iald 61 0, c_aload_n 0, c_iload 4, c_iconst 2, c_iadd, c_iald 61 0, c_aload_n 0, c_iload 4, c_iconst 3, c_iadd, c_iald 61 0, c_invv 235 [] gX12_penaltyAt mdX12_penaltyAt, c_istore 6, c_aload_n 2, c_invv 132 [] gX12_thrown mdX12_thrown, c_iload 5, c_icmp .eq 5 2473, c_iconst 0, c_zreturn]
set_option maxRecDepth 100000 in
theorem eL_law_2413 (kb : Co) (a0 a1 a2 a3 a4 : Int) (s : St) : exb (famH (tL_law_2413 kb) kb) 0 bL_law_2413 [(5, 0, a0), (3, 11, a1), (3, 12, a2), (3, 60, a3), (0, 0, a4), (7, 0, 0), (7, 0, 0)] [] s = fL_law_2413 kb a0 a1 a2 a3 a4 s := rfl
noncomputable def bL_law_2473 : List En := [c_iload 5, c_if .ne 15 2490, c_aload_n 3, c_iconst 0, c_lald, c_iload 6, c_i2l, c_lcmp, c_if .eq 5 2490, c_iconst 0, c_zreturn]
set_option maxRecDepth 100000 in
theorem eL_law_2473 (kb : Co) (a0 a1 a2 a3 a4 a5 a6 : Int) (s : St) : exb (famH (tL_law_2473 kb) kb) 0 bL_law_2473 [(5, 0, a0), (3, 11, a1), (3, 12, a2), (3, 60, a3), (0, 0, a4), (0, 0, a5), (0, 0, a6)] [] s = fL_law_2473 kb a0 a1 a2 a3 a4 a5 a6 s := rfl
noncomputable def bL_law_2490 : List En := [c_goto 146 2636]
set_option maxRecDepth 100000 in
theorem eL_law_2490 (kb : Co) (a0 a1 a2 a3 a4 : Int) (s : St) : exb (famH (tL_law_2490 kb) kb) 0 bL_law_2490 [(5, 0, a0), (3, 11, a1), (3, 12, a2), (3, 60, a3), (0, 0, a4), (7, 0, 0), (7, 0, 0)] [] s = fL_law_2490 kb a0 a1 a2 a3 a4 s := rfl
noncomputable def bL_law_2493 : List En := [c_aload_n 1, c_aload_n 0, c_iload 4, c_iconst 1, c_iadd, c_iald 61 0, c_aload_n 0, c_iload 4, c_iconst 2, c_iadd, c_iald 61 0, c_aload_n 3, c_invs 236 [] gL_isDoubted mdL_isDoubted, c_istore 5, c_aload_n 2, c_aload_n 0, c_iload 4, c_iconst 1, c_iadd, c_iald 61 0, c_aload_n 0, c_iload 4, c_iconst 2, c_iadd, c_iald 61 0, c_invv 238 [] gX12_isDoubted mdX12_isDoubted, c_istore 6, c_aload_n 2, c_invv 132 [] gX12_thrown mdX12_thrown, c_iload 5, c_icmp .eq 5 2541, c_iconst 0, c_zreturn]
set_option maxRecDepth 100000 in
theorem eL_law_2493 (kb : Co) (a0 a1 a2 a3 a4 : Int) (s : St) : exb (famH (tL_law_2493 kb) kb) 0 bL_law_2493 [(5, 0, a0), (3, 11, a1), (3, 12, a2), (3, 60, a3), (0, 0, a4), (7, 0, 0), (7, 0, 0)] [] s = fL_law_2493 kb a0 a1 a2 a3 a4 s := rfl
noncomputable def bL_law_2541 : List En := [c_iload 5, c_if .ne 22 2565, c_aload_n 3, c_iconst 0, c_lald, c_iload 6, c_if .eq 7 2558, c_lconst1, c_goto 4 2559]
set_option maxRecDepth 100000 in
theorem eL_law_2541 (kb : Co) (a0 a1 a2 a3 a4 a5 a6 : Int) (s : St) : exb (famH (tL_law_2541 kb) kb) 0 bL_law_2541 [(5, 0, a0), (3, 11, a1), (3, 12, a2), (3, 60, a3), (0, 0, a4), (0, 0, a5), (0, 0, a6)] [] s = fL_law_2541 kb a0 a1 a2 a3 a4 a5 a6 s := rfl
noncomputable def bL_law_2558 : List En := [c_lconst0]
set_option maxRecDepth 100000 in
theorem eL_law_2558 (kb : Co) (a0 a1 a2 a3 a4 y0 : Int) (s : St) : exb (famH (tL_law_2558 kb) kb) 2559 bL_law_2558 [(5, 0, a0), (3, 11, a1), (3, 12, a2), (3, 60, a3), (0, 0, a4), (7, 0, 0), (7, 0, 0)] [(1, 0, y0)] s = fL_law_2558 kb a0 a1 a2 a3 a4 y0 s := rfl
noncomputable def bL_law_2559 : List En := [c_lcmp, c_if .eq 5 2565, c_iconst 0, c_zreturn]
set_option maxRecDepth 100000 in
theorem eL_law_2559 (kb : Co) (a0 a1 a2 a3 a4 y0 y1 : Int) (s : St) : exb (famH (tL_law_2559 kb) kb) 0 bL_law_2559 [(5, 0, a0), (3, 11, a1), (3, 12, a2), (3, 60, a3), (0, 0, a4), (7, 0, 0), (7, 0, 0)] [(1, 0, y0), (1, 0, y1)] s = fL_law_2559 kb a0 a1 a2 a3 a4 y0 y1 s := rfl
noncomputable def bL_law_2565 : List En := [c_goto 71 2636]
set_option maxRecDepth 100000 in
theorem eL_law_2565 (kb : Co) (a0 a1 a2 a3 a4 : Int) (s : St) : exb (famH (tL_law_2565 kb) kb) 0 bL_law_2565 [(5, 0, a0), (3, 11, a1), (3, 12, a2), (3, 60, a3), (0, 0, a4), (7, 0, 0), (7, 0, 0)] [] s = fL_law_2565 kb a0 a1 a2 a3 a4 s := rfl
noncomputable def bL_law_2568 : List En := [c_aload_n 1, c_aload_n 0, c_iload 4, c_iconst 1, c_iadd, c_iald 61 0, c_aload_n 0, c_iload 4, c_iconst 2, c_iadd, c_iald 61 0, c_aload_n 3, c_invs 239 [] gL_table mdL_table, c_istore 5, c_aload_n 2, c_aload_n 0, c_iload 4, c_iconst 1, c_iadd, c_iald 61 0, c_aload_n 0, c_iload 4, c_iconst 2, c_iadd, c_iald 61 0, c_invv 241 [] gX12_table mdX12_table, c_istore 6, c_aload_n 2, c_invv 132 [] gX12_thrown mdX12_thrown, c_iload 5, c_icmp .eq 5 2616, c_iconst 0, c_zreturn]
set_option maxRecDepth 100000 in
theorem eL_law_2568 (kb : Co) (a0 a1 a2 a3 a4 : Int) (s : St) : exb (famH (tL_law_2568 kb) kb) 0 bL_law_2568 [(5, 0, a0), (3, 11, a1), (3, 12, a2), (3, 60, a3), (0, 0, a4), (7, 0, 0), (7, 0, 0)] [] s = fL_law_2568 kb a0 a1 a2 a3 a4 s := rfl
noncomputable def bL_law_2616 : List En := [c_iload 5, c_if .ne 15 2633, c_aload_n 3, c_iconst 0, c_lald, c_iload 6, c_i2l, c_lcmp, c_if .eq 5 2633, c_iconst 0, c_zreturn]
set_option maxRecDepth 100000 in
theorem eL_law_2616 (kb : Co) (a0 a1 a2 a3 a4 a5 a6 : Int) (s : St) : exb (famH (tL_law_2616 kb) kb) 0 bL_law_2616 [(5, 0, a0), (3, 11, a1), (3, 12, a2), (3, 60, a3), (0, 0, a4), (0, 0, a5), (0, 0, a6)] [] s = fL_law_2616 kb a0 a1 a2 a3 a4 a5 a6 s := rfl
noncomputable def bL_law_2633 : List En := [c_goto 3 2636]
set_option maxRecDepth 100000 in
theorem eL_law_2633 (kb : Co) (a0 a1 a2 a3 a4 : Int) (s : St) : exb (famH (tL_law_2633 kb) kb) 0 bL_law_2633 [(5, 0, a0), (3, 11, a1), (3, 12, a2), (3, 60, a3), (0, 0, a4), (7, 0, 0), (7, 0, 0)] [] s = fL_law_2633 kb a0 a1 a2 a3 a4 s := rfl
noncomputable def bL_law_2636 : List En := [c_iinc 4 7, c_goto (-2616) 23]
set_option maxRecDepth 100000 in
theorem eL_law_2636 (kb : Co) (a0 a1 a2 a3 a4 : Int) (s : St) : exb (famH (tL_law_2636 kb) kb) 0 bL_law_2636 [(5, 0, a0), (3, 11, a1), (3, 12, a2), (3, 60, a3), (0, 0, a4), (7, 0, 0), (7, 0, 0)] [] s = fL_law_2636 kb a0 a1 a2 a3 a4 s := rfl
noncomputable def bL_law_2642 : List En := [c_iconst 1, c_zreturn]
set_option maxRecDepth 100000 in
theorem eL_law_2642 (kb : Co) (s : St) : exb (famH (tL_law_2642 kb) kb) 0 bL_law_2642 [(7, 0, 0), (7, 0, 0), (7, 0, 0), (7, 0, 0), (7, 0, 0), (7, 0, 0), (7, 0, 0)] [] s = fL_law_2642 kb s := rfl
