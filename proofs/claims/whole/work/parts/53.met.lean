-- Floatparade.penaltyAt(III)I
theorem mkX11_penaltyAt : MK mdX11_penaltyAt true := MKb_ok (h1 := 1295) (h2 := 70) (h3 := 1293) (h4 := 1294) (by decide +kernel)
theorem qX11_penaltyAt_0 : blkb mdX11_penaltyAt 24 0 bX11_penaltyAt_0 [[], [], [483], [], [], [], [], [411], [], [1181], []] = true := by decide +kernel
theorem qX11_penaltyAt_24 : blkb mdX11_penaltyAt 0 24 bX11_penaltyAt_24 [[1185]] = true := by decide +kernel
theorem qX11_penaltyAt_35 : blkb mdX11_penaltyAt 0 35 bX11_penaltyAt_35 [[], [], [], [265], [], [1131]] = true := by decide +kernel
theorem qX11_penaltyAt_55 : blkb mdX11_penaltyAt 0 55 bX11_penaltyAt_55 [[], [411], [], [], [1296], []] = true := by decide +kernel
theorem pX11_penaltyAt (hA : AOK) (r : Rt) (kb : Co) : RsB mdX11_penaltyAt r kb (rX11_penaltyAt kb) := by
  have h55 : RsB mdX11_penaltyAt r kb (tX11_penaltyAt_55 kb) := row_0
  have h35 : RsB mdX11_penaltyAt r kb (tX11_penaltyAt_35 kb) := row_B hA h55 qX11_penaltyAt_55 (And.intro trivial (And.intro trivial (And.intro trivial (And.intro trivial (And.intro (co_of mkX5_tellPenalty (iX5_tellPenalty hA)) (ck_n rfl)))))) rfl (fun xs ys s => eX11_penaltyAt_55 kb (xs.getD 0 0) (xs.getD 1 0) (xs.getD 2 0) s)
  have h24 : RsB mdX11_penaltyAt r kb (tX11_penaltyAt_24 kb) := row_B hA h35 qX11_penaltyAt_35 (And.intro trivial (And.intro trivial (And.intro trivial (And.intro (co_of mkX11_isWithin (iX11_isWithin hA)) (ck_n rfl))))) rfl (fun xs ys s => eX11_penaltyAt_35 kb (xs.getD 0 0) (xs.getD 1 0) (xs.getD 2 0) s)
  have h0 : RsB mdX11_penaltyAt r kb (tX11_penaltyAt_0 kb) := row_B hA h24 qX11_penaltyAt_24 (ck_n rfl) rfl (fun xs ys s => eX11_penaltyAt_24 kb s)
  exact row_B hA h0 qX11_penaltyAt_0 (And.intro trivial (And.intro trivial (And.intro (co_of mkX11_societyAt (iX11_societyAt hA)) (And.intro trivial (And.intro trivial (And.intro trivial (And.intro trivial (And.intro trivial (And.intro trivial (And.intro (co_of mkX5_hasPenalty (iX5_hasPenalty hA)) (ck_n rfl))))))))))) rfl (fun xs ys s => eX11_penaltyAt_0 kb (xs.getD 0 0) (xs.getD 1 0) (xs.getD 2 0) (xs.getD 3 0) s)
theorem iX11_penaltyAt (hA : AOK) : Impl mdX11_penaltyAt gX11_penaltyAt := ent_B (kk := kX11_penaltyAt) (rr := rX11_penaltyAt) (f := fun kb => fun xs ys s => fX11_penaltyAt_0 kb (xs.getD 0 0) (xs.getD 1 0) (xs.getD 2 0) (xs.getD 3 0) s) (by decide +kernel) rfl (fun _ => rfl) (fun r kb => pX11_penaltyAt hA r kb) (fun kb => ⟨_, rfl⟩) 0 id (fun xs s => rfl) (fun xs => wkl_rf _)
-- Floatparade.isDoubted(II)Z
theorem mkX11_isDoubted : MK mdX11_isDoubted true := MKb_ok (h1 := 1306) (h2 := 70) (h3 := 1304) (h4 := 1305) (by decide +kernel)
theorem qX11_isDoubted_0 : blkb mdX11_isDoubted 0 0 bX11_isDoubted_0 [[], [], [483], [], [], [], [496]] = true := by decide +kernel
theorem qX11_isDoubted_20 : blkb mdX11_isDoubted 0 20 bX11_isDoubted_20 [[], [1140], [], [1307]] = true := by decide +kernel
theorem qX11_isDoubted_38 : blkb mdX11_isDoubted 0 38 bX11_isDoubted_38 [[], [411], [], [1308], []] = true := by decide +kernel
theorem pX11_isDoubted (hA : AOK) (r : Rt) (kb : Co) : RsB mdX11_isDoubted r kb (rX11_isDoubted kb) := by
  have h38 : RsB mdX11_isDoubted r kb (tX11_isDoubted_38 kb) := row_0
  have h20 : RsB mdX11_isDoubted r kb (tX11_isDoubted_20 kb) := row_B hA h38 qX11_isDoubted_38 (And.intro trivial (And.intro trivial (And.intro trivial (And.intro (co_of mkX5_castsDoubtOn (iX5_castsDoubtOn hA)) (ck_n rfl))))) rfl (fun xs ys s => eX11_isDoubted_38 kb (xs.getD 0 0) (xs.getD 1 0) s)
  have h0 : RsB mdX11_isDoubted r kb (tX11_isDoubted_0 kb) := row_B hA h20 qX11_isDoubted_20 (And.intro trivial (And.intro (co_of mkX11_isJudge (iX11_isJudge hA)) (ck_n rfl))) rfl (fun xs ys s => eX11_isDoubted_20 kb (xs.getD 0 0) (xs.getD 1 0) s)
  exact row_B hA h0 qX11_isDoubted_0 (And.intro trivial (And.intro trivial (And.intro (co_of mkX11_societyAt (iX11_societyAt hA)) (ck_n rfl)))) rfl (fun xs ys s => eX11_isDoubted_0 kb (xs.getD 0 0) (xs.getD 1 0) (xs.getD 2 0) s)
theorem iX11_isDoubted (hA : AOK) : Impl mdX11_isDoubted gX11_isDoubted := ent_B (kk := kX11_isDoubted) (rr := rX11_isDoubted) (f := fun kb => fun xs ys s => fX11_isDoubted_0 kb (xs.getD 0 0) (xs.getD 1 0) (xs.getD 2 0) s) (by decide +kernel) rfl (fun _ => rfl) (fun r kb => pX11_isDoubted hA r kb) (fun kb => ⟨_, rfl⟩) 0 id (fun xs s => rfl) (fun xs => wkl_rf _)
-- Floatparade.table(II)I
theorem mkX11_table : MK mdX11_table true := MKb_ok (h1 := 1322) (h2 := 70) (h3 := 1320) (h4 := 1321) (by decide +kernel)
theorem qX11_table_0 : blkb mdX11_table 0 0 bX11_table_0 [[], [], [903]] = true := by decide +kernel
theorem qX11_table_15 : blkb mdX11_table 0 15 bX11_table_15 [[], [], [664], [], [], [], [668]] = true := by decide +kernel
theorem qX11_table_35 : blkb mdX11_table 0 35 bX11_table_35 [[], [212], [185], [], [], []] = true := by decide +kernel
theorem qX11_table_47 : blkb mdX11_table 0 47 bX11_table_47 [[], [], [227], [], [231], [1227], [], [210], [], [904], []] = true := by decide +kernel
theorem pX11_table (hA : AOK) (r : Rt) (kb : Co) : RsB mdX11_table r kb (rX11_table kb) := by
  have h47 : RsB mdX11_table r kb (tX11_table_47 kb) := row_0
  have h35 : RsB mdX11_table r kb (tX11_table_35 kb) := row_B hA h47 qX11_table_47 (And.intro trivial (And.intro trivial (And.intro trivial (And.intro trivial (And.intro trivial (And.intro (co_of mkX0_rank (iX0_rank hA)) (And.intro trivial (And.intro trivial (And.intro trivial (And.intro (co_of mkX4_numberAt (iX4_numberAt hA)) (ck_n rfl))))))))))) rfl (fun xs ys s => eX11_table_47 kb (xs.getD 0 0) (xs.getD 1 0) (xs.getD 2 0) s)
  have h15 : RsB mdX11_table r kb (tX11_table_15 kb) := row_B hA h35 qX11_table_35 (ck_n rfl) rfl (fun xs ys s => eX11_table_35 kb (xs.getD 0 0) (xs.getD 1 0) (xs.getD 2 0) s)
  have h0 : RsB mdX11_table r kb (tX11_table_0 kb) := row_B hA h15 qX11_table_15 (And.intro trivial (And.intro trivial (And.intro (co_of mkX11_leagueAt (iX11_leagueAt hA)) (ck_n rfl)))) rfl (fun xs ys s => eX11_table_15 kb (xs.getD 0 0) (xs.getD 1 0) (xs.getD 2 0) s)
  exact row_B hA h0 qX11_table_0 (ck_n rfl) rfl (fun xs ys s => eX11_table_0 kb (xs.getD 0 0) (xs.getD 1 0) (xs.getD 2 0) s)
theorem iX11_table (hA : AOK) : Impl mdX11_table gX11_table := ent_B (kk := kX11_table) (rr := rX11_table) (f := fun kb => fun xs ys s => fX11_table_0 kb (xs.getD 0 0) (xs.getD 1 0) (xs.getD 2 0) s) (by decide +kernel) rfl (fun _ => rfl) (fun r kb => pX11_table hA r kb) (fun kb => ⟨_, rfl⟩) 0 id (fun xs s => rfl) (fun xs => wkl_rf _)
-- FloatparadeModel.thrown()I
theorem mkX12_thrown : MK mdX12_thrown true := MKb_ok (h1 := 1489) (h2 := 76) (h3 := 1487) (h4 := 1488) (by decide +kernel)
theorem qX12_thrown_0 : blkb mdX12_thrown 0 0 bX12_thrown_0 [[], [1329], []] = true := by decide +kernel
theorem pX12_thrown (hA : AOK) (r : Rt) (kb : Co) : RsB mdX12_thrown r kb (rX12_thrown kb) := by
  have h0 : RsB mdX12_thrown r kb (tX12_thrown_0 kb) := row_0
  exact row_B hA h0 qX12_thrown_0 (ck_n rfl) rfl (fun xs ys s => eX12_thrown_0 kb (xs.getD 0 0) s)
theorem iX12_thrown (hA : AOK) : Impl mdX12_thrown gX12_thrown := ent_B (kk := kX12_thrown) (rr := rX12_thrown) (f := fun kb => fun xs ys s => fX12_thrown_0 kb (xs.getD 0 0) s) (by decide +kernel) rfl (fun _ => rfl) (fun r kb => pX12_thrown hA r kb) (fun kb => ⟨_, rfl⟩) 0 id (fun xs s => rfl) (fun xs => wkl_rf _)
-- FloatparadeModel.holds(I)Z
theorem mkX12_holds : MK mdX12_holds true := MKb_ok (h1 := 1503) (h2 := 76) (h3 := 1502) (h4 := 29) (by decide +kernel)
theorem qX12_holds_0 : blkb mdX12_holds 0 0 bX12_holds_0 [[], [], [1329], [], [], [], []] = true := by decide +kernel
theorem qX12_holds_13 : blkb mdX12_holds 14 13 bX12_holds_13 [[]] = true := by decide +kernel
theorem qX12_holds_14 : blkb mdX12_holds 0 14 bX12_holds_14 [[]] = true := by decide +kernel
theorem pX12_holds (hA : AOK) (r : Rt) (kb : Co) : RsB mdX12_holds r kb (rX12_holds kb) := by
  have h14 : RsB mdX12_holds r kb (tX12_holds_14 kb) := row_0
  have h13 : RsB mdX12_holds r kb (tX12_holds_13 kb) := row_B hA h14 qX12_holds_14 (ck_n rfl) rfl (fun xs ys s => eX12_holds_14 kb (ys.getD 0 0) s)
  have h0 : RsB mdX12_holds r kb (tX12_holds_0 kb) := row_B hA h13 qX12_holds_13 (ck_n rfl) rfl (fun xs ys s => eX12_holds_13 kb s)
  exact row_B hA h0 qX12_holds_0 (ck_n rfl) rfl (fun xs ys s => eX12_holds_0 kb (xs.getD 0 0) (xs.getD 1 0) s)
theorem iX12_holds (hA : AOK) : Impl mdX12_holds gX12_holds := ent_B (kk := kX12_holds) (rr := rX12_holds) (f := fun kb => fun xs ys s => fX12_holds_0 kb (xs.getD 0 0) (xs.getD 1 0) s) (by decide +kernel) rfl (fun _ => rfl) (fun r kb => pX12_holds hA r kb) (fun kb => ⟨_, rfl⟩) 0 id (fun xs s => rfl) (fun xs => wkl_rf _)
-- FloatparadeModel.in(III)Z
theorem mkX12_in : MK mdX12_in false := MKb_ok (h1 := 1499) (h2 := 76) (h3 := 1498) (h4 := 0) (by decide +kernel)
theorem qX12_in_0 : blkb mdX12_in 0 0 bX12_in_0 [[], [], [], [], [], [], [], []] = true := by decide +kernel
theorem qX12_in_14 : blkb mdX12_in 15 14 bX12_in_14 [[]] = true := by decide +kernel
theorem qX12_in_15 : blkb mdX12_in 0 15 bX12_in_15 [[]] = true := by decide +kernel
theorem pX12_in (hA : AOK) (r : Rt) (kb : Co) : RsB mdX12_in r kb (rX12_in kb) := by
  have h15 : RsB mdX12_in r kb (tX12_in_15 kb) := row_0
  have h14 : RsB mdX12_in r kb (tX12_in_14 kb) := row_B hA h15 qX12_in_15 (ck_n rfl) rfl (fun xs ys s => eX12_in_15 kb (ys.getD 0 0) s)
  have h0 : RsB mdX12_in r kb (tX12_in_0 kb) := row_B hA h14 qX12_in_14 (ck_n rfl) rfl (fun xs ys s => eX12_in_14 kb s)
  exact row_B hA h0 qX12_in_0 (ck_n rfl) rfl (fun xs ys s => eX12_in_0 kb (xs.getD 0 0) (xs.getD 1 0) (xs.getD 2 0) s)
theorem iX12_in (hA : AOK) : Impl mdX12_in gX12_in := ent_B (kk := kX12_in) (rr := rX12_in) (f := fun kb => fun xs ys s => fX12_in_0 kb (xs.getD 0 0) (xs.getD 1 0) (xs.getD 2 0) s) (by decide +kernel) rfl (fun _ => rfl) (fun r kb => pX12_in hA r kb) (fun kb => ⟨_, rfl⟩) 0 id (fun xs s => rfl) (fun xs => wkl_rf _)
-- FloatparadeModel.isSociety(I)Z
theorem mkX12_isSociety : MK mdX12_isSociety true := MKb_ok (h1 := 1511) (h2 := 76) (h3 := 1510) (h4 := 30) (by decide +kernel)
theorem qX12_isSociety_0 : blkb mdX12_isSociety 0 0 bX12_isSociety_0 [[], [], [], [1330], [], [], [1497], []] = true := by decide +kernel
theorem pX12_isSociety (hA : AOK) (r : Rt) (kb : Co) : RsB mdX12_isSociety r kb (rX12_isSociety kb) := by
  have h0 : RsB mdX12_isSociety r kb (tX12_isSociety_0 kb) := row_0
  exact row_B hA h0 qX12_isSociety_0 (And.intro trivial (And.intro trivial (And.intro trivial (And.intro trivial (And.intro trivial (And.intro trivial (And.intro (co_of mkX12_in (iX12_in hA)) (ck_n rfl)))))))) rfl (fun xs ys s => eX12_isSociety_0 kb (xs.getD 0 0) (xs.getD 1 0) s)
theorem iX12_isSociety (hA : AOK) : Impl mdX12_isSociety gX12_isSociety := ent_B (kk := kX12_isSociety) (rr := rX12_isSociety) (f := fun kb => fun xs ys s => fX12_isSociety_0 kb (xs.getD 0 0) (xs.getD 1 0) s) (by decide +kernel) rfl (fun _ => rfl) (fun r kb => pX12_isSociety hA r kb) (fun kb => ⟨_, rfl⟩) 0 id (fun xs s => rfl) (fun xs => wkl_rf _)
-- FloatparadeModel.isCorner(I)Z
theorem mkX12_isCorner : MK mdX12_isCorner false := MKb_ok (h1 := 1545) (h2 := 76) (h3 := 1544) (h4 := 0) (by decide +kernel)
theorem qX12_isCorner_0 : blkb mdX12_isCorner 0 0 bX12_isCorner_0 [[], [], [], [1497], []] = true := by decide +kernel
theorem pX12_isCorner (hA : AOK) (r : Rt) (kb : Co) : RsB mdX12_isCorner r kb (rX12_isCorner kb) := by
  have h0 : RsB mdX12_isCorner r kb (tX12_isCorner_0 kb) := row_0
  exact row_B hA h0 qX12_isCorner_0 (And.intro trivial (And.intro trivial (And.intro trivial (And.intro (co_of mkX12_in (iX12_in hA)) (ck_n rfl))))) rfl (fun xs ys s => eX12_isCorner_0 kb (xs.getD 0 0) s)
theorem iX12_isCorner (hA : AOK) : Impl mdX12_isCorner gX12_isCorner := ent_B (kk := kX12_isCorner) (rr := rX12_isCorner) (f := fun kb => fun xs ys s => fX12_isCorner_0 kb (xs.getD 0 0) s) (by decide +kernel) rfl (fun _ => rfl) (fun r kb => pX12_isCorner hA r kb) (fun kb => ⟨_, rfl⟩) 0 id (fun xs s => rfl) (fun xs => wkl_rf _)
-- FloatparadeModel.isLeague(I)Z
theorem mkX12_isLeague : MK mdX12_isLeague false := MKb_ok (h1 := 1496) (h2 := 76) (h3 := 1495) (h4 := 0) (by decide +kernel)
theorem qX12_isLeague_0 : blkb mdX12_isLeague 0 0 bX12_isLeague_0 [[], [], [], [1497], []] = true := by decide +kernel
theorem pX12_isLeague (hA : AOK) (r : Rt) (kb : Co) : RsB mdX12_isLeague r kb (rX12_isLeague kb) := by
  have h0 : RsB mdX12_isLeague r kb (tX12_isLeague_0 kb) := row_0
  exact row_B hA h0 qX12_isLeague_0 (And.intro trivial (And.intro trivial (And.intro trivial (And.intro (co_of mkX12_in (iX12_in hA)) (ck_n rfl))))) rfl (fun xs ys s => eX12_isLeague_0 kb (xs.getD 0 0) s)
theorem iX12_isLeague (hA : AOK) : Impl mdX12_isLeague gX12_isLeague := ent_B (kk := kX12_isLeague) (rr := rX12_isLeague) (f := fun kb => fun xs ys s => fX12_isLeague_0 kb (xs.getD 0 0) s) (by decide +kernel) rfl (fun _ => rfl) (fun r kb => pX12_isLeague hA r kb) (fun kb => ⟨_, rfl⟩) 0 id (fun xs s => rfl) (fun xs => wkl_rf _)
-- FloatparadeModel.bits(I)I
theorem mkX12_bits : MK mdX12_bits false := MKb_ok (h1 := 1518) (h2 := 76) (h3 := 1517) (h4 := 0) (by decide +kernel)
theorem qX12_bits_0 : blkb mdX12_bits 4 0 bX12_bits_0 [[], [], [], []] = true := by decide +kernel
theorem qX12_bits_4 : blkb mdX12_bits 0 4 bX12_bits_4 [[], [], [], [], [], [], [], [], [], []] = true := by decide +kernel
theorem qX12_bits_20 : blkb mdX12_bits 0 20 bX12_bits_20 [[], []] = true := by decide +kernel
theorem pX12_bits (hA : AOK) (r : Rt) (kb : Co) : RsB mdX12_bits r kb (rX12_bits kb) := by
  have h20 : RsB mdX12_bits r kb (tX12_bits_20 kb) := row_0
  have h4 : RsB mdX12_bits r kb (tX12_bits_4 kb) := row_B hA h20 qX12_bits_20 (ck_n rfl) rfl (fun xs ys s => eX12_bits_20 kb (xs.getD 0 0) s)
  have h0 : RsB mdX12_bits r kb (tX12_bits_0 kb) := row_B hA h4 qX12_bits_4 (ck_n rfl) rfl (fun xs ys s => eX12_bits_4 kb (xs.getD 0 0) (xs.getD 1 0) s)
  exact row_B hA h0 qX12_bits_0 (ck_n rfl) rfl (fun xs ys s => eX12_bits_0 kb (xs.getD 0 0) s)
theorem iX12_bits (hA : AOK) : Impl mdX12_bits gX12_bits := ent_B (kk := kX12_bits) (rr := rX12_bits) (f := fun kb => fun xs ys s => fX12_bits_0 kb (xs.getD 0 0) s) (by decide +kernel) rfl (fun _ => rfl) (fun r kb => pX12_bits hA r kb) (fun kb => ⟨_, rfl⟩) 9999 id (fun xs s => rfl) (fun xs => wkl_rf _)
-- FloatparadeModel.society(II)I
theorem mkX12_society : MK mdX12_society true := MKb_ok (h1 := 1493) (h2 := 76) (h3 := 1491) (h4 := 1492) (by decide +kernel)
theorem qX12_society_0 : blkb mdX12_society 19 0 bX12_society_0 [[], [], [1494], [], [], [], [], [1497], []] = true := by decide +kernel
theorem qX12_society_19 : blkb mdX12_society 0 19 bX12_society_19 [[], []] = true := by decide +kernel
theorem qX12_society_23 : blkb mdX12_society 0 23 bX12_society_23 [[], [1330], [], [], [], []] = true := by decide +kernel
theorem qX12_society_36 : blkb mdX12_society 37 36 bX12_society_36 [[]] = true := by decide +kernel
theorem qX12_society_37 : blkb mdX12_society 0 37 bX12_society_37 [[1500], [], [], []] = true := by decide +kernel
theorem qX12_society_45 : blkb mdX12_society 0 45 bX12_society_45 [[], [1331], [], [1330], [], [], [], [1332], [], [1330], [], [], [], [1372], [], [1330], [], [], [], [1373], [], [1330], [], [], [], [], [1330], [], [], [1330], [], [1330], [], [], []] = true := by decide +kernel
theorem pX12_society (hA : AOK) (r : Rt) (kb : Co) : RsB mdX12_society r kb (rX12_society kb) := by
  have h45 : RsB mdX12_society r kb (tX12_society_45 kb) := row_0
  have h37 : RsB mdX12_society r kb (tX12_society_37 kb) := row_B hA h45 qX12_society_45 (ck_n rfl) rfl (fun xs ys s => eX12_society_45 kb (xs.getD 0 0) (xs.getD 1 0) (xs.getD 2 0) s)
  have h36 : RsB mdX12_society r kb (tX12_society_36 kb) := row_B hA h37 qX12_society_37 (And.intro (co_of mkX12_holds (iX12_holds hA)) (ck_n rfl)) rfl (fun xs ys s => eX12_society_37 kb (xs.getD 0 0) (xs.getD 1 0) (xs.getD 2 0) (ys.getD 0 0) (ys.getD 1 0) s)
  have h23 : RsB mdX12_society r kb (tX12_society_23 kb) := row_B hA h36 qX12_society_36 (ck_n rfl) rfl (fun xs ys s => eX12_society_36 kb (xs.getD 0 0) (xs.getD 1 0) (xs.getD 2 0) (ys.getD 0 0) s)
  have h19 : RsB mdX12_society r kb (tX12_society_19 kb) := row_B hA h23 qX12_society_23 (ck_n rfl) rfl (fun xs ys s => eX12_society_23 kb (xs.getD 0 0) (xs.getD 1 0) (xs.getD 2 0) (ys.getD 0 0) s)
  have h0 : RsB mdX12_society r kb (tX12_society_0 kb) := row_B hA h19 qX12_society_19 (ck_n rfl) rfl (fun xs ys s => eX12_society_19 kb (xs.getD 0 0) (xs.getD 1 0) (xs.getD 2 0) (ys.getD 0 0) s)
  exact row_B hA h0 qX12_society_0 (And.intro trivial (And.intro trivial (And.intro (co_of mkX12_isLeague (iX12_isLeague hA)) (And.intro trivial (And.intro trivial (And.intro trivial (And.intro trivial (And.intro (co_of mkX12_in (iX12_in hA)) (ck_n rfl))))))))) rfl (fun xs ys s => eX12_society_0 kb (xs.getD 0 0) (xs.getD 1 0) (xs.getD 2 0) s)
theorem iX12_society (hA : AOK) : Impl mdX12_society gX12_society := ent_B (kk := kX12_society) (rr := rX12_society) (f := fun kb => fun xs ys s => fX12_society_0 kb (xs.getD 0 0) (xs.getD 1 0) (xs.getD 2 0) s) (by decide +kernel) rfl (fun _ => rfl) (fun r kb => pX12_society hA r kb) (fun kb => ⟨_, rfl⟩) 0 id (fun xs s => rfl) (fun xs => wkl_rf _)
-- FloatparadeModel.feud(IIZ)Z
theorem mkX12_feud : MK mdX12_feud true := MKb_ok (h1 := 1507) (h2 := 76) (h3 := 1505) (h4 := 1506) (by decide +kernel)
theorem qX12_feud_0 : blkb mdX12_feud 17 0 bX12_feud_0 [[], [], [], [1508], [], [], [], [1508], []] = true := by decide +kernel
theorem qX12_feud_17 : blkb mdX12_feud 0 17 bX12_feud_17 [[], []] = true := by decide +kernel
theorem qX12_feud_21 : blkb mdX12_feud 0 21 bX12_feud_21 [[], [], [], [], []] = true := by decide +kernel
theorem qX12_feud_30 : blkb mdX12_feud 31 30 bX12_feud_30 [[]] = true := by decide +kernel
theorem qX12_feud_31 : blkb mdX12_feud 0 31 bX12_feud_31 [[1500], [], [], []] = true := by decide +kernel
theorem qX12_feud_39 : blkb mdX12_feud 0 39 bX12_feud_39 [[], [1334], [], [], [], [], [], [], [], [], [1334], [], [], [], [], [], [], [], [], [1334], [], [], [], [], [], [], [], [], []] = true := by decide +kernel
theorem pX12_feud (hA : AOK) (r : Rt) (kb : Co) : RsB mdX12_feud r kb (rX12_feud kb) := by
  have h39 : RsB mdX12_feud r kb (tX12_feud_39 kb) := row_0
  have h31 : RsB mdX12_feud r kb (tX12_feud_31 kb) := row_B hA h39 qX12_feud_39 (ck_n rfl) rfl (fun xs ys s => eX12_feud_39 kb (xs.getD 0 0) (xs.getD 1 0) (xs.getD 2 0) (xs.getD 3 0) s)
  have h30 : RsB mdX12_feud r kb (tX12_feud_30 kb) := row_B hA h31 qX12_feud_31 (And.intro (co_of mkX12_holds (iX12_holds hA)) (ck_n rfl)) rfl (fun xs ys s => eX12_feud_31 kb (xs.getD 0 0) (xs.getD 1 0) (xs.getD 2 0) (xs.getD 3 0) (ys.getD 0 0) (ys.getD 1 0) s)
  have h21 : RsB mdX12_feud r kb (tX12_feud_21 kb) := row_B hA h30 qX12_feud_30 (ck_n rfl) rfl (fun xs ys s => eX12_feud_30 kb (xs.getD 0 0) (xs.getD 1 0) (xs.getD 2 0) (xs.getD 3 0) (ys.getD 0 0) s)
  have h17 : RsB mdX12_feud r kb (tX12_feud_17 kb) := row_B hA h21 qX12_feud_21 (ck_n rfl) rfl (fun xs ys s => eX12_feud_21 kb (xs.getD 0 0) (xs.getD 1 0) (xs.getD 2 0) (xs.getD 3 0) (ys.getD 0 0) s)
  have h0 : RsB mdX12_feud r kb (tX12_feud_0 kb) := row_B hA h17 qX12_feud_17 (ck_n rfl) rfl (fun xs ys s => eX12_feud_17 kb (xs.getD 0 0) (xs.getD 1 0) (xs.getD 2 0) (xs.getD 3 0) (ys.getD 0 0) s)
  exact row_B hA h0 qX12_feud_0 (And.intro trivial (And.intro trivial (And.intro trivial (And.intro (co_of mkX12_isSociety (iX12_isSociety hA)) (And.intro trivial (And.intro trivial (And.intro trivial (And.intro (co_of mkX12_isSociety (iX12_isSociety hA)) (ck_n rfl))))))))) rfl (fun xs ys s => eX12_feud_0 kb (xs.getD 0 0) (xs.getD 1 0) (xs.getD 2 0) (xs.getD 3 0) s)
theorem iX12_feud (hA : AOK) : Impl mdX12_feud gX12_feud := ent_B (kk := kX12_feud) (rr := rX12_feud) (f := fun kb => fun xs ys s => fX12_feud_0 kb (xs.getD 0 0) (xs.getD 1 0) (xs.getD 2 0) (xs.getD 3 0) s) (by decide +kernel) rfl (fun _ => rfl) (fun r kb => pX12_feud hA r kb) (fun kb => ⟨_, rfl⟩) 0 id (fun xs s => rfl) (fun xs => wkl_rf _)
-- FloatparadeModel.theme(III)I
theorem mkX12_theme : MK mdX12_theme true := MKb_ok (h1 := 1515) (h2 := 76) (h3 := 1513) (h4 := 1514) (by decide +kernel)
theorem qX12_theme_0 : blkb mdX12_theme 0 0 bX12_theme_0 [[], [], [], [1508], [], [], []] = true := by decide +kernel
theorem qX12_theme_13 : blkb mdX12_theme 0 13 bX12_theme_13 [[], [], [], [1497], [], [], [], [], [1497], [], [], []] = true := by decide +kernel
theorem qX12_theme_38 : blkb mdX12_theme 39 38 bX12_theme_38 [[]] = true := by decide +kernel
theorem qX12_theme_39 : blkb mdX12_theme 0 39 bX12_theme_39 [[1500], [], [], []] = true := by decide +kernel
theorem qX12_theme_47 : blkb mdX12_theme 57 47 bX12_theme_47 [[], [1335], [], [], [], [], []] = true := by decide +kernel
theorem qX12_theme_57 : blkb mdX12_theme 0 57 bX12_theme_57 [[], [], [1330], [], [], [1335], [], [], [], [], [1516], [], [], [], [1336], [], [], [], [], [], []] = true := by decide +kernel
theorem qX12_theme_95 : blkb mdX12_theme 0 95 bX12_theme_95 [[], []] = true := by decide +kernel
theorem qX12_theme_101 : blkb mdX12_theme 107 101 bX12_theme_101 [[], [], [], []] = true := by decide +kernel
theorem qX12_theme_107 : blkb mdX12_theme 143 107 bX12_theme_107 [[], [], [1330], [], [], [1335], [], [], [], [], [1516], [], [], [], [1335], [], [], [], []] = true := by decide +kernel
theorem qX12_theme_143 : blkb mdX12_theme 0 143 bX12_theme_143 [[], []] = true := by decide +kernel
theorem qX12_theme_149 : blkb mdX12_theme 0 149 bX12_theme_149 [[], [1335], [], [], [], [], [1336], [], [], [], [], []] = true := by decide +kernel
theorem pX12_theme (hA : AOK) (r : Rt) (kb : Co) : RsB mdX12_theme r kb (rX12_theme kb) := by
  have h149 : RsB mdX12_theme r kb (tX12_theme_149 kb) := row_0
  have h143 : RsB mdX12_theme r kb (tX12_theme_143 kb) := row_B hA h149 qX12_theme_149 (ck_n rfl) rfl (fun xs ys s => eX12_theme_149 kb (xs.getD 0 0) (xs.getD 1 0) (xs.getD 2 0) (xs.getD 3 0) (xs.getD 4 0) s)
  have h107 : RsB mdX12_theme r kb (tX12_theme_107 kb) := row_B hA h143 qX12_theme_143 (ck_n rfl) rfl (fun xs ys s => eX12_theme_143 kb (xs.getD 0 0) (xs.getD 1 0) (xs.getD 2 0) (xs.getD 3 0) (xs.getD 4 0) (xs.getD 5 0) s)
  have h101 : RsB mdX12_theme r kb (tX12_theme_101 kb) := row_B hA h107 qX12_theme_107 (And.intro trivial (And.intro trivial (And.intro trivial (And.intro trivial (And.intro trivial (And.intro trivial (And.intro trivial (And.intro trivial (And.intro trivial (And.intro trivial (And.intro (co_of mkX12_bits (iX12_bits hA)) (ck_n rfl)))))))))))) rfl (fun xs ys s => eX12_theme_107 kb (xs.getD 0 0) (xs.getD 1 0) (xs.getD 2 0) (xs.getD 3 0) (xs.getD 4 0) (xs.getD 5 0) s)
  have h95 : RsB mdX12_theme r kb (tX12_theme_95 kb) := row_B hA h101 qX12_theme_101 (ck_n rfl) rfl (fun xs ys s => eX12_theme_101 kb (xs.getD 0 0) (xs.getD 1 0) (xs.getD 2 0) (xs.getD 3 0) s)
  have h57 : RsB mdX12_theme r kb (tX12_theme_57 kb) := row_B hA h95 qX12_theme_95 (ck_n rfl) rfl (fun xs ys s => eX12_theme_95 kb (xs.getD 0 0) (xs.getD 1 0) (xs.getD 2 0) (xs.getD 3 0) (xs.getD 4 0) s)
  have h47 : RsB mdX12_theme r kb (tX12_theme_47 kb) := row_B hA h57 qX12_theme_57 (And.intro trivial (And.intro trivial (And.intro trivial (And.intro trivial (And.intro trivial (And.intro trivial (And.intro trivial (And.intro trivial (And.intro trivial (And.intro trivial (And.intro (co_of mkX12_bits (iX12_bits hA)) (ck_n rfl)))))))))))) rfl (fun xs ys s => eX12_theme_57 kb (xs.getD 0 0) (xs.getD 1 0) (xs.getD 2 0) (xs.getD 3 0) (xs.getD 4 0) s)
  have h39 : RsB mdX12_theme r kb (tX12_theme_39 kb) := row_B hA h47 qX12_theme_47 (ck_n rfl) rfl (fun xs ys s => eX12_theme_47 kb (xs.getD 0 0) (xs.getD 1 0) (xs.getD 2 0) (xs.getD 3 0) s)
  have h38 : RsB mdX12_theme r kb (tX12_theme_38 kb) := row_B hA h39 qX12_theme_39 (And.intro (co_of mkX12_holds (iX12_holds hA)) (ck_n rfl)) rfl (fun xs ys s => eX12_theme_39 kb (xs.getD 0 0) (xs.getD 1 0) (xs.getD 2 0) (xs.getD 3 0) (ys.getD 0 0) (ys.getD 1 0) s)
  have h13 : RsB mdX12_theme r kb (tX12_theme_13 kb) := row_B hA h38 qX12_theme_38 (ck_n rfl) rfl (fun xs ys s => eX12_theme_38 kb (xs.getD 0 0) (xs.getD 1 0) (xs.getD 2 0) (xs.getD 3 0) (ys.getD 0 0) s)
  have h0 : RsB mdX12_theme r kb (tX12_theme_0 kb) := row_B hA h13 qX12_theme_13 (And.intro trivial (And.intro trivial (And.intro trivial (And.intro (co_of mkX12_in (iX12_in hA)) (And.intro trivial (And.intro trivial (And.intro trivial (And.intro trivial (And.intro (co_of mkX12_in (iX12_in hA)) (ck_n rfl)))))))))) rfl (fun xs ys s => eX12_theme_13 kb (xs.getD 0 0) (xs.getD 1 0) (xs.getD 2 0) (xs.getD 3 0) (ys.getD 0 0) s)
  exact row_B hA h0 qX12_theme_0 (And.intro trivial (And.intro trivial (And.intro trivial (And.intro (co_of mkX12_isSociety (iX12_isSociety hA)) (ck_n rfl))))) rfl (fun xs ys s => eX12_theme_0 kb (xs.getD 0 0) (xs.getD 1 0) (xs.getD 2 0) (xs.getD 3 0) s)
theorem iX12_theme (hA : AOK) : Impl mdX12_theme gX12_theme := ent_B (kk := kX12_theme) (rr := rX12_theme) (f := fun kb => fun xs ys s => fX12_theme_0 kb (xs.getD 0 0) (xs.getD 1 0) (xs.getD 2 0) (xs.getD 3 0) s) (by decide +kernel) rfl (fun _ => rfl) (fun r kb => pX12_theme hA r kb) (fun kb => ⟨_, rfl⟩) 9999 id (fun xs s => rfl) (fun xs => wkl_rf _)
-- FloatparadeModel.song(I)I
theorem mkX12_song : MK mdX12_song true := MKb_ok (h1 := 1522) (h2 := 76) (h3 := 1520) (h4 := 1521) (by decide +kernel)
theorem qX12_song_0 : blkb mdX12_song 0 0 bX12_song_0 [[], [], [1508], [], [], [], [], [], []] = true := by decide +kernel
theorem qX12_song_15 : blkb mdX12_song 35 15 bX12_song_15 [[], [1337], [], [], [], [], [], [1339], [], [], []] = true := by decide +kernel
theorem qX12_song_35 : blkb mdX12_song 0 35 bX12_song_35 [[], []] = true := by decide +kernel
theorem qX12_song_39 : blkb mdX12_song 40 39 bX12_song_39 [[]] = true := by decide +kernel
theorem qX12_song_40 : blkb mdX12_song 0 40 bX12_song_40 [[1500], [], [], []] = true := by decide +kernel
theorem qX12_song_48 : blkb mdX12_song 0 48 bX12_song_48 [[], [1340], [], [], [], [], [1337], [], [], [], [], [], [], [1337], [], [], [], [], [], [], [], [1337], [], [], [], [], []] = true := by decide +kernel
theorem pX12_song (hA : AOK) (r : Rt) (kb : Co) : RsB mdX12_song r kb (rX12_song kb) := by
  have h48 : RsB mdX12_song r kb (tX12_song_48 kb) := row_0
  have h40 : RsB mdX12_song r kb (tX12_song_40 kb) := row_B hA h48 qX12_song_48 (ck_n rfl) rfl (fun xs ys s => eX12_song_48 kb (xs.getD 0 0) (xs.getD 1 0) s)
  have h39 : RsB mdX12_song r kb (tX12_song_39 kb) := row_B hA h40 qX12_song_40 (And.intro (co_of mkX12_holds (iX12_holds hA)) (ck_n rfl)) rfl (fun xs ys s => eX12_song_40 kb (xs.getD 0 0) (xs.getD 1 0) (ys.getD 0 0) (ys.getD 1 0) s)
  have h35 : RsB mdX12_song r kb (tX12_song_35 kb) := row_B hA h39 qX12_song_39 (ck_n rfl) rfl (fun xs ys s => eX12_song_39 kb (xs.getD 0 0) (xs.getD 1 0) (ys.getD 0 0) s)
  have h15 : RsB mdX12_song r kb (tX12_song_15 kb) := row_B hA h35 qX12_song_35 (ck_n rfl) rfl (fun xs ys s => eX12_song_35 kb (xs.getD 0 0) (xs.getD 1 0) (ys.getD 0 0) s)
  have h0 : RsB mdX12_song r kb (tX12_song_0 kb) := row_B hA h15 qX12_song_15 (ck_n rfl) rfl (fun xs ys s => eX12_song_15 kb (xs.getD 0 0) (xs.getD 1 0) (ys.getD 0 0) s)
  exact row_B hA h0 qX12_song_0 (And.intro trivial (And.intro trivial (And.intro (co_of mkX12_isSociety (iX12_isSociety hA)) (ck_n rfl)))) rfl (fun xs ys s => eX12_song_0 kb (xs.getD 0 0) (xs.getD 1 0) s)
theorem iX12_song (hA : AOK) : Impl mdX12_song gX12_song := ent_B (kk := kX12_song) (rr := rX12_song) (f := fun kb => fun xs ys s => fX12_song_0 kb (xs.getD 0 0) (xs.getD 1 0) s) (by decide +kernel) rfl (fun _ => rfl) (fun r kb => pX12_song hA r kb) (fun kb => ⟨_, rfl⟩) 0 id (fun xs s => rfl) (fun xs => wkl_rf _)
-- FloatparadeModel.leftSongs(I)I
theorem mkX12_leftSongs : MK mdX12_leftSongs true := MKb_ok (h1 := 1534) (h2 := 76) (h3 := 1533) (h4 := 32) (by decide +kernel)
theorem qX12_leftSongs_0 : blkb mdX12_leftSongs 0 0 bX12_leftSongs_0 [[], [1337], [], [], [], [1338], [], [], [1516], [], []] = true := by decide +kernel
theorem pX12_leftSongs (hA : AOK) (r : Rt) (kb : Co) : RsB mdX12_leftSongs r kb (rX12_leftSongs kb) := by
  have h0 : RsB mdX12_leftSongs r kb (tX12_leftSongs_0 kb) := row_0
  exact row_B hA h0 qX12_leftSongs_0 (And.intro trivial (And.intro trivial (And.intro trivial (And.intro trivial (And.intro trivial (And.intro trivial (And.intro trivial (And.intro trivial (And.intro (co_of mkX12_bits (iX12_bits hA)) (ck_n rfl)))))))))) rfl (fun xs ys s => eX12_leftSongs_0 kb (xs.getD 0 0) (xs.getD 1 0) s)
theorem iX12_leftSongs (hA : AOK) : Impl mdX12_leftSongs gX12_leftSongs := ent_B (kk := kX12_leftSongs) (rr := rX12_leftSongs) (f := fun kb => fun xs ys s => fX12_leftSongs_0 kb (xs.getD 0 0) (xs.getD 1 0) s) (by decide +kernel) rfl (fun _ => rfl) (fun r kb => pX12_leftSongs hA r kb) (fun kb => ⟨_, rfl⟩) 0 id (fun xs s => rfl) (fun xs => wkl_rf _)
-- FloatparadeModel.isStruck(II)Z
theorem mkX12_isStruck : MK mdX12_isStruck true := MKb_ok (h1 := 1530) (h2 := 76) (h3 := 1529) (h4 := 31) (by decide +kernel)
theorem qX12_isStruck_0 : blkb mdX12_isStruck 0 0 bX12_isStruck_0 [[], [1338], [], [], [], [], [], [], [], [], [], []] = true := by decide +kernel
theorem qX12_isStruck_18 : blkb mdX12_isStruck 19 18 bX12_isStruck_18 [[]] = true := by decide +kernel
theorem qX12_isStruck_19 : blkb mdX12_isStruck 0 19 bX12_isStruck_19 [[]] = true := by decide +kernel
theorem pX12_isStruck (hA : AOK) (r : Rt) (kb : Co) : RsB mdX12_isStruck r kb (rX12_isStruck kb) := by
  have h19 : RsB mdX12_isStruck r kb (tX12_isStruck_19 kb) := row_0
  have h18 : RsB mdX12_isStruck r kb (tX12_isStruck_18 kb) := row_B hA h19 qX12_isStruck_19 (ck_n rfl) rfl (fun xs ys s => eX12_isStruck_19 kb (ys.getD 0 0) s)
  have h0 : RsB mdX12_isStruck r kb (tX12_isStruck_0 kb) := row_B hA h18 qX12_isStruck_18 (ck_n rfl) rfl (fun xs ys s => eX12_isStruck_18 kb s)
  exact row_B hA h0 qX12_isStruck_0 (ck_n rfl) rfl (fun xs ys s => eX12_isStruck_0 kb (xs.getD 0 0) (xs.getD 1 0) (xs.getD 2 0) s)
theorem iX12_isStruck (hA : AOK) : Impl mdX12_isStruck gX12_isStruck := ent_B (kk := kX12_isStruck) (rr := rX12_isStruck) (f := fun kb => fun xs ys s => fX12_isStruck_0 kb (xs.getD 0 0) (xs.getD 1 0) (xs.getD 2 0) s) (by decide +kernel) rfl (fun _ => rfl) (fun r kb => pX12_isStruck hA r kb) (fun kb => ⟨_, rfl⟩) 0 id (fun xs s => rfl) (fun xs => wkl_rf _)
-- FloatparadeModel.vote(III)I
theorem mkX12_vote : MK mdX12_vote true := MKb_ok (h1 := 1526) (h2 := 76) (h3 := 1524) (h4 := 1525) (by decide +kernel)
theorem qX12_vote_0 : blkb mdX12_vote 0 0 bX12_vote_0 [[], [], [1508], [], [], [], [], [1337], [], [], [1508], [], [], []] = true := by decide +kernel
theorem qX12_vote_26 : blkb mdX12_vote 27 26 bX12_vote_26 [[]] = true := by decide +kernel
theorem qX12_vote_27 : blkb mdX12_vote 0 27 bX12_vote_27 [[], [], [], [1497], [], [], []] = true := by decide +kernel
theorem qX12_vote_40 : blkb mdX12_vote 41 40 bX12_vote_40 [[]] = true := by decide +kernel
theorem qX12_vote_41 : blkb mdX12_vote 0 41 bX12_vote_41 [[], [], [], [], [], []] = true := by decide +kernel
theorem qX12_vote_53 : blkb mdX12_vote 0 53 bX12_vote_53 [[], [], [], [1497], [], [], []] = true := by decide +kernel
theorem qX12_vote_67 : blkb mdX12_vote 85 67 bX12_vote_67 [[], [], [], [1527], [], [], [], [1531], [], []] = true := by decide +kernel
theorem qX12_vote_85 : blkb mdX12_vote 0 85 bX12_vote_85 [[], []] = true := by decide +kernel
theorem qX12_vote_89 : blkb mdX12_vote 90 89 bX12_vote_89 [[]] = true := by decide +kernel
theorem qX12_vote_90 : blkb mdX12_vote 0 90 bX12_vote_90 [[1500], [], [], []] = true := by decide +kernel
theorem qX12_vote_98 : blkb mdX12_vote 0 98 bX12_vote_98 [[], [1340], [], [], [], [], [], [], [], [], [], [], [], [1340], [], [], [], [], [], [], []] = true := by decide +kernel
theorem pX12_vote (hA : AOK) (r : Rt) (kb : Co) : RsB mdX12_vote r kb (rX12_vote kb) := by
  have h98 : RsB mdX12_vote r kb (tX12_vote_98 kb) := row_0
  have h90 : RsB mdX12_vote r kb (tX12_vote_90 kb) := row_B hA h98 qX12_vote_98 (ck_n rfl) rfl (fun xs ys s => eX12_vote_98 kb (xs.getD 0 0) (xs.getD 1 0) (xs.getD 2 0) (xs.getD 3 0) s)
  have h89 : RsB mdX12_vote r kb (tX12_vote_89 kb) := row_B hA h90 qX12_vote_90 (And.intro (co_of mkX12_holds (iX12_holds hA)) (ck_n rfl)) rfl (fun xs ys s => eX12_vote_90 kb (xs.getD 0 0) (xs.getD 1 0) (xs.getD 2 0) (xs.getD 3 0) (ys.getD 0 0) (ys.getD 1 0) s)
  have h85 : RsB mdX12_vote r kb (tX12_vote_85 kb) := row_B hA h89 qX12_vote_89 (ck_n rfl) rfl (fun xs ys s => eX12_vote_89 kb (xs.getD 0 0) (xs.getD 1 0) (xs.getD 2 0) (xs.getD 3 0) (ys.getD 0 0) s)
  have h67 : RsB mdX12_vote r kb (tX12_vote_67 kb) := row_B hA h85 qX12_vote_85 (ck_n rfl) rfl (fun xs ys s => eX12_vote_85 kb (xs.getD 0 0) (xs.getD 1 0) (xs.getD 2 0) (xs.getD 3 0) (ys.getD 0 0) s)
  have h53 : RsB mdX12_vote r kb (tX12_vote_53 kb) := row_B hA h67 qX12_vote_67 (And.intro trivial (And.intro trivial (And.intro trivial (And.intro (co_of mkX12_isStruck (iX12_isStruck hA)) (And.intro trivial (And.intro trivial (And.intro trivial (And.intro (co_of mkX12_leftSongs (iX12_leftSongs hA)) (ck_n rfl))))))))) rfl (fun xs ys s => eX12_vote_67 kb (xs.getD 0 0) (xs.getD 1 0) (xs.getD 2 0) (xs.getD 3 0) (ys.getD 0 0) s)
  have h41 : RsB mdX12_vote r kb (tX12_vote_41 kb) := row_B hA h53 qX12_vote_53 (And.intro trivial (And.intro trivial (And.intro trivial (And.intro (co_of mkX12_in (iX12_in hA)) (ck_n rfl))))) rfl (fun xs ys s => eX12_vote_53 kb (xs.getD 0 0) (xs.getD 1 0) (xs.getD 2 0) (xs.getD 3 0) (ys.getD 0 0) s)
  have h40 : RsB mdX12_vote r kb (tX12_vote_40 kb) := row_B hA h41 qX12_vote_41 (ck_n rfl) rfl (fun xs ys s => eX12_vote_41 kb (xs.getD 0 0) (xs.getD 1 0) (xs.getD 2 0) (xs.getD 3 0) (ys.getD 0 0) s)
  have h27 : RsB mdX12_vote r kb (tX12_vote_27 kb) := row_B hA h40 qX12_vote_40 (ck_n rfl) rfl (fun xs ys s => eX12_vote_40 kb (xs.getD 0 0) (xs.getD 1 0) (xs.getD 2 0) (xs.getD 3 0) s)
  have h26 : RsB mdX12_vote r kb (tX12_vote_26 kb) := row_B hA h27 qX12_vote_27 (And.intro trivial (And.intro trivial (And.intro trivial (And.intro (co_of mkX12_in (iX12_in hA)) (ck_n rfl))))) rfl (fun xs ys s => eX12_vote_27 kb (xs.getD 0 0) (xs.getD 1 0) (xs.getD 2 0) (xs.getD 3 0) (ys.getD 0 0) (ys.getD 1 0) (ys.getD 2 0) (ys.getD 3 0) s)
  have h0 : RsB mdX12_vote r kb (tX12_vote_0 kb) := row_B hA h26 qX12_vote_26 (ck_n rfl) rfl (fun xs ys s => eX12_vote_26 kb (xs.getD 0 0) (xs.getD 1 0) (xs.getD 2 0) (xs.getD 3 0) (ys.getD 0 0) (ys.getD 1 0) (ys.getD 2 0) s)
  exact row_B hA h0 qX12_vote_0 (And.intro trivial (And.intro trivial (And.intro (co_of mkX12_isSociety (iX12_isSociety hA)) (And.intro trivial (And.intro trivial (And.intro trivial (And.intro trivial (And.intro trivial (And.intro trivial (And.intro trivial (And.intro (co_of mkX12_isSociety (iX12_isSociety hA)) (ck_n rfl)))))))))))) rfl (fun xs ys s => eX12_vote_0 kb (xs.getD 0 0) (xs.getD 1 0) (xs.getD 2 0) (xs.getD 3 0) s)
theorem iX12_vote (hA : AOK) : Impl mdX12_vote gX12_vote := ent_B (kk := kX12_vote) (rr := rX12_vote) (f := fun kb => fun xs ys s => fX12_vote_0 kb (xs.getD 0 0) (xs.getD 1 0) (xs.getD 2 0) (xs.getD 3 0) s) (by decide +kernel) rfl (fun _ => rfl) (fun r kb => pX12_vote hA r kb) (fun kb => ⟨_, rfl⟩) 0 id (fun xs s => rfl) (fun xs => wkl_rf _)
-- FloatparadeModel.round(I)I
theorem mkX12_round : MK mdX12_round true := MKb_ok (h1 := 1538) (h2 := 76) (h3 := 1536) (h4 := 1537) (by decide +kernel)
theorem qX12_round_0 : blkb mdX12_round 0 0 bX12_round_0 [[], [], [1508], [], [], [], [], [], []] = true := by decide +kernel
theorem qX12_round_15 : blkb mdX12_round 0 15 bX12_round_15 [[], [], [1531], [], [], [], []] = true := by decide +kernel
theorem qX12_round_28 : blkb mdX12_round 29 28 bX12_round_28 [[]] = true := by decide +kernel
theorem qX12_round_29 : blkb mdX12_round 0 29 bX12_round_29 [[1500], [], [], []] = true := by decide +kernel
theorem qX12_round_37 : blkb mdX12_round 42 37 bX12_round_37 [[], [], [], []] = true := by decide +kernel
theorem qX12_round_42 : blkb mdX12_round 84 42 bX12_round_42 [[], [], [1337], [], [], [], [], [], [], [], [1340], [], [], [], [], [], [], [], [1340], [], [], [], [], [], [], []] = true := by decide +kernel
theorem qX12_round_84 : blkb mdX12_round 0 84 bX12_round_84 [[], []] = true := by decide +kernel
theorem qX12_round_88 : blkb mdX12_round 89 88 bX12_round_88 [[]] = true := by decide +kernel
theorem qX12_round_89 : blkb mdX12_round 0 89 bX12_round_89 [[], [], [], [], [1527], [], [], [], [], []] = true := by decide +kernel
theorem qX12_round_111 : blkb mdX12_round 112 111 bX12_round_111 [[]] = true := by decide +kernel
theorem qX12_round_112 : blkb mdX12_round 0 112 bX12_round_112 [[], [], []] = true := by decide +kernel
theorem qX12_round_119 : blkb mdX12_round 141 119 bX12_round_119 [[], [1338], [], [], [], [], [], [], [], [], [], [1339], [], [], [], [], []] = true := by decide +kernel
theorem qX12_round_141 : blkb mdX12_round 0 141 bX12_round_141 [[], [], [1337], [], [], [], [], [1340], [], [], [], [], [], [], [], [], []] = true := by decide +kernel
theorem qX12_round_171 : blkb mdX12_round 0 171 bX12_round_171 [[], []] = true := by decide +kernel
theorem pX12_round (hA : AOK) (r : Rt) (kb : Co) : RsB mdX12_round r kb (rX12_round kb) := by
  have h171 : RsB mdX12_round r kb (tX12_round_171 kb) := row_0
  have h141 : RsB mdX12_round r kb (tX12_round_141 kb) := row_B hA h171 qX12_round_171 (ck_n rfl) rfl (fun xs ys s => eX12_round_171 kb (xs.getD 0 0) s)
  have h119 : RsB mdX12_round r kb (tX12_round_119 kb) := row_B hA h141 qX12_round_141 (ck_n rfl) rfl (fun xs ys s => eX12_round_141 kb (xs.getD 0 0) (xs.getD 1 0) (xs.getD 2 0) (xs.getD 3 0) s)
  have h112 : RsB mdX12_round r kb (tX12_round_112 kb) := row_B hA h119 qX12_round_119 (ck_n rfl) rfl (fun xs ys s => eX12_round_119 kb (xs.getD 0 0) (xs.getD 1 0) (xs.getD 2 0) s)
  have h111 : RsB mdX12_round r kb (tX12_round_111 kb) := row_B hA h112 qX12_round_112 (ck_n rfl) rfl (fun xs ys s => eX12_round_112 kb (xs.getD 0 0) (xs.getD 1 0) (xs.getD 2 0) (ys.getD 0 0) s)
  have h89 : RsB mdX12_round r kb (tX12_round_89 kb) := row_B hA h111 qX12_round_111 (ck_n rfl) rfl (fun xs ys s => eX12_round_111 kb (xs.getD 0 0) (xs.getD 1 0) (xs.getD 2 0) (xs.getD 3 0) s)
  have h88 : RsB mdX12_round r kb (tX12_round_88 kb) := row_B hA h89 qX12_round_89 (And.intro trivial (And.intro trivial (And.intro trivial (And.intro trivial (And.intro (co_of mkX12_isStruck (iX12_isStruck hA)) (ck_n rfl)))))) rfl (fun xs ys s => eX12_round_89 kb (xs.getD 0 0) (xs.getD 1 0) (xs.getD 2 0) (xs.getD 3 0) (ys.getD 0 0) s)
  have h84 : RsB mdX12_round r kb (tX12_round_84 kb) := row_B hA h88 qX12_round_88 (ck_n rfl) rfl (fun xs ys s => eX12_round_88 kb (xs.getD 0 0) (xs.getD 1 0) (xs.getD 2 0) (xs.getD 3 0) s)
  have h42 : RsB mdX12_round r kb (tX12_round_42 kb) := row_B hA h84 qX12_round_84 (ck_n rfl) rfl (fun xs ys s => eX12_round_84 kb (xs.getD 0 0) (xs.getD 1 0) (xs.getD 2 0) (xs.getD 3 0) s)
  have h37 : RsB mdX12_round r kb (tX12_round_37 kb) := row_B hA h42 qX12_round_42 (ck_n rfl) rfl (fun xs ys s => eX12_round_42 kb (xs.getD 0 0) (xs.getD 1 0) (xs.getD 2 0) (xs.getD 3 0) s)
  have h29 : RsB mdX12_round r kb (tX12_round_29 kb) := row_B hA h37 qX12_round_37 (ck_n rfl) rfl (fun xs ys s => eX12_round_37 kb (xs.getD 0 0) (xs.getD 1 0) s)
  have h28 : RsB mdX12_round r kb (tX12_round_28 kb) := row_B hA h29 qX12_round_29 (And.intro (co_of mkX12_holds (iX12_holds hA)) (ck_n rfl)) rfl (fun xs ys s => eX12_round_29 kb (xs.getD 0 0) (xs.getD 1 0) (ys.getD 0 0) (ys.getD 1 0) s)
  have h15 : RsB mdX12_round r kb (tX12_round_15 kb) := row_B hA h28 qX12_round_28 (ck_n rfl) rfl (fun xs ys s => eX12_round_28 kb (xs.getD 0 0) (xs.getD 1 0) (ys.getD 0 0) s)
  have h0 : RsB mdX12_round r kb (tX12_round_0 kb) := row_B hA h15 qX12_round_15 (And.intro trivial (And.intro trivial (And.intro (co_of mkX12_leftSongs (iX12_leftSongs hA)) (ck_n rfl)))) rfl (fun xs ys s => eX12_round_15 kb (xs.getD 0 0) (xs.getD 1 0) (ys.getD 0 0) s)
  exact row_B hA h0 qX12_round_0 (And.intro trivial (And.intro trivial (And.intro (co_of mkX12_isSociety (iX12_isSociety hA)) (ck_n rfl)))) rfl (fun xs ys s => eX12_round_0 kb (xs.getD 0 0) (xs.getD 1 0) s)
theorem iX12_round (hA : AOK) : Impl mdX12_round gX12_round := ent_B (kk := kX12_round) (rr := rX12_round) (f := fun kb => fun xs ys s => fX12_round_0 kb (xs.getD 0 0) (xs.getD 1 0) s) (by decide +kernel) rfl (fun _ => rfl) (fun r kb => pX12_round hA r kb) (fun kb => ⟨_, rfl⟩) 9999 id (fun xs s => rfl) (fun xs => wkl_rf _)
-- FloatparadeModel.chosenSong(I)I
theorem mkX12_chosenSong : MK mdX12_chosenSong true := MKb_ok (h1 := 1772) (h2 := 76) (h3 := 1771) (h4 := 66) (by decide +kernel)
theorem qX12_chosenSong_0 : blkb mdX12_chosenSong 4 0 bX12_chosenSong_0 [[], [], [], []] = true := by decide +kernel
theorem qX12_chosenSong_4 : blkb mdX12_chosenSong 0 4 bX12_chosenSong_4 [[], [], [1337], [], [], [], [], [], [], [1527], [], [], []] = true := by decide +kernel
theorem qX12_chosenSong_27 : blkb mdX12_chosenSong 28 27 bX12_chosenSong_27 [[]] = true := by decide +kernel
theorem qX12_chosenSong_28 : blkb mdX12_chosenSong 0 28 bX12_chosenSong_28 [[], [], []] = true := by decide +kernel
theorem qX12_chosenSong_35 : blkb mdX12_chosenSong 0 35 bX12_chosenSong_35 [[], [], [1531], [], [], [], []] = true := by decide +kernel
theorem qX12_chosenSong_48 : blkb mdX12_chosenSong 49 48 bX12_chosenSong_48 [[]] = true := by decide +kernel
theorem qX12_chosenSong_49 : blkb mdX12_chosenSong 0 49 bX12_chosenSong_49 [[]] = true := by decide +kernel
theorem pX12_chosenSong (hA : AOK) (r : Rt) (kb : Co) : RsB mdX12_chosenSong r kb (rX12_chosenSong kb) := by
  have h49 : RsB mdX12_chosenSong r kb (tX12_chosenSong_49 kb) := row_0
  have h48 : RsB mdX12_chosenSong r kb (tX12_chosenSong_48 kb) := row_B hA h49 qX12_chosenSong_49 (ck_n rfl) rfl (fun xs ys s => eX12_chosenSong_49 kb (ys.getD 0 0) s)
  have h35 : RsB mdX12_chosenSong r kb (tX12_chosenSong_35 kb) := row_B hA h48 qX12_chosenSong_48 (ck_n rfl) rfl (fun xs ys s => eX12_chosenSong_48 kb s)
  have h28 : RsB mdX12_chosenSong r kb (tX12_chosenSong_28 kb) := row_B hA h35 qX12_chosenSong_35 (And.intro trivial (And.intro trivial (And.intro (co_of mkX12_leftSongs (iX12_leftSongs hA)) (ck_n rfl)))) rfl (fun xs ys s => eX12_chosenSong_35 kb (xs.getD 0 0) (xs.getD 1 0) (xs.getD 2 0) s)
  have h27 : RsB mdX12_chosenSong r kb (tX12_chosenSong_27 kb) := row_B hA h28 qX12_chosenSong_28 (ck_n rfl) rfl (fun xs ys s => eX12_chosenSong_28 kb (xs.getD 0 0) (xs.getD 1 0) (xs.getD 2 0) (ys.getD 0 0) s)
  have h4 : RsB mdX12_chosenSong r kb (tX12_chosenSong_4 kb) := row_B hA h27 qX12_chosenSong_27 (ck_n rfl) rfl (fun xs ys s => eX12_chosenSong_27 kb (xs.getD 0 0) (xs.getD 1 0) (xs.getD 2 0) s)
  have h0 : RsB mdX12_chosenSong r kb (tX12_chosenSong_0 kb) := row_B hA h4 qX12_chosenSong_4 (And.intro trivial (And.intro trivial (And.intro trivial (And.intro trivial (And.intro trivial (And.intro trivial (And.intro trivial (And.intro trivial (And.intro trivial (And.intro (co_of mkX12_isStruck (iX12_isStruck hA)) (ck_n rfl))))))))))) rfl (fun xs ys s => eX12_chosenSong_4 kb (xs.getD 0 0) (xs.getD 1 0) (xs.getD 2 0) (xs.getD 3 0) s)
  exact row_B hA h0 qX12_chosenSong_0 (ck_n rfl) rfl (fun xs ys s => eX12_chosenSong_0 kb (xs.getD 0 0) (xs.getD 1 0) s)
theorem iX12_chosenSong (hA : AOK) : Impl mdX12_chosenSong gX12_chosenSong := ent_B (kk := kX12_chosenSong) (rr := rX12_chosenSong) (f := fun kb => fun xs ys s => fX12_chosenSong_0 kb (xs.getD 0 0) (xs.getD 1 0) s) (by decide +kernel) rfl (fun _ => rfl) (fun r kb => pX12_chosenSong hA r kb) (fun kb => ⟨_, rfl⟩) 9999 id (fun xs s => rfl) (fun xs => wkl_rf _)
-- FloatparadeModel.streetBetween(II)I
theorem mkX12_streetBetween : MK mdX12_streetBetween true := MKb_ok (h1 := 1549) (h2 := 76) (h3 := 1548) (h4 := 33) (by decide +kernel)
theorem qX12_streetBetween_0 : blkb mdX12_streetBetween 5 0 bX12_streetBetween_0 [[], [], [], []] = true := by decide +kernel
theorem qX12_streetBetween_5 : blkb mdX12_streetBetween 36 5 bX12_streetBetween_5 [[], [], [1343], [], [], [1344], [], [], [], [], [], [1345], [], [], [], []] = true := by decide +kernel
theorem qX12_streetBetween_36 : blkb mdX12_streetBetween 58 36 bX12_streetBetween_36 [[], [1344], [], [], [], [], [], [1345], [], [], [], []] = true := by decide +kernel
theorem qX12_streetBetween_58 : blkb mdX12_streetBetween 0 58 bX12_streetBetween_58 [[], []] = true := by decide +kernel
theorem qX12_streetBetween_62 : blkb mdX12_streetBetween 63 62 bX12_streetBetween_62 [[]] = true := by decide +kernel
theorem qX12_streetBetween_63 : blkb mdX12_streetBetween 0 63 bX12_streetBetween_63 [[], [], [], [], []] = true := by decide +kernel
theorem qX12_streetBetween_75 : blkb mdX12_streetBetween 76 75 bX12_streetBetween_75 [[]] = true := by decide +kernel
theorem qX12_streetBetween_76 : blkb mdX12_streetBetween 0 76 bX12_streetBetween_76 [[], [], []] = true := by decide +kernel
theorem qX12_streetBetween_83 : blkb mdX12_streetBetween 0 83 bX12_streetBetween_83 [[], []] = true := by decide +kernel
theorem pX12_streetBetween (hA : AOK) (r : Rt) (kb : Co) : RsB mdX12_streetBetween r kb (rX12_streetBetween kb) := by
  have h83 : RsB mdX12_streetBetween r kb (tX12_streetBetween_83 kb) := row_0
  have h76 : RsB mdX12_streetBetween r kb (tX12_streetBetween_76 kb) := row_B hA h83 qX12_streetBetween_83 (ck_n rfl) rfl (fun xs ys s => eX12_streetBetween_83 kb (xs.getD 0 0) s)
  have h75 : RsB mdX12_streetBetween r kb (tX12_streetBetween_75 kb) := row_B hA h76 qX12_streetBetween_76 (ck_n rfl) rfl (fun xs ys s => eX12_streetBetween_76 kb (xs.getD 0 0) (xs.getD 1 0) (xs.getD 2 0) (xs.getD 3 0) (ys.getD 0 0) s)
  have h63 : RsB mdX12_streetBetween r kb (tX12_streetBetween_63 kb) := row_B hA h75 qX12_streetBetween_75 (ck_n rfl) rfl (fun xs ys s => eX12_streetBetween_75 kb (xs.getD 0 0) (xs.getD 1 0) (xs.getD 2 0) (xs.getD 3 0) (xs.getD 4 0) s)
  have h62 : RsB mdX12_streetBetween r kb (tX12_streetBetween_62 kb) := row_B hA h63 qX12_streetBetween_63 (ck_n rfl) rfl (fun xs ys s => eX12_streetBetween_63 kb (xs.getD 0 0) (xs.getD 1 0) (xs.getD 2 0) (xs.getD 3 0) (xs.getD 4 0) (ys.getD 0 0) s)
  have h58 : RsB mdX12_streetBetween r kb (tX12_streetBetween_58 kb) := row_B hA h62 qX12_streetBetween_62 (ck_n rfl) rfl (fun xs ys s => eX12_streetBetween_62 kb (xs.getD 0 0) (xs.getD 1 0) (xs.getD 2 0) (xs.getD 3 0) (xs.getD 4 0) s)
  have h36 : RsB mdX12_streetBetween r kb (tX12_streetBetween_36 kb) := row_B hA h58 qX12_streetBetween_58 (ck_n rfl) rfl (fun xs ys s => eX12_streetBetween_58 kb (xs.getD 0 0) (xs.getD 1 0) (xs.getD 2 0) (xs.getD 3 0) (xs.getD 4 0) s)
  have h5 : RsB mdX12_streetBetween r kb (tX12_streetBetween_5 kb) := row_B hA h36 qX12_streetBetween_36 (ck_n rfl) rfl (fun xs ys s => eX12_streetBetween_36 kb (xs.getD 0 0) (xs.getD 1 0) (xs.getD 2 0) (xs.getD 3 0) (xs.getD 4 0) s)
  have h0 : RsB mdX12_streetBetween r kb (tX12_streetBetween_0 kb) := row_B hA h5 qX12_streetBetween_5 (ck_n rfl) rfl (fun xs ys s => eX12_streetBetween_5 kb (xs.getD 0 0) (xs.getD 1 0) (xs.getD 2 0) (xs.getD 3 0) (xs.getD 4 0) s)
  exact row_B hA h0 qX12_streetBetween_0 (ck_n rfl) rfl (fun xs ys s => eX12_streetBetween_0 kb (xs.getD 0 0) (xs.getD 1 0) (xs.getD 2 0) s)
theorem iX12_streetBetween (hA : AOK) : Impl mdX12_streetBetween gX12_streetBetween := ent_B (kk := kX12_streetBetween) (rr := rX12_streetBetween) (f := fun kb => fun xs ys s => fX12_streetBetween_0 kb (xs.getD 0 0) (xs.getD 1 0) (xs.getD 2 0) s) (by decide +kernel) rfl (fun _ => rfl) (fun r kb => pX12_streetBetween hA r kb) (fun kb => ⟨_, rfl⟩) 9999 id (fun xs s => rfl) (fun xs => wkl_rf _)
-- FloatparadeModel.street(IIIIII)I
theorem mkX12_street : MK mdX12_street true := MKb_ok (h1 := 1542) (h2 := 76) (h3 := 1540) (h4 := 1541) (by decide +kernel)
theorem qX12_street_0 : blkb mdX12_street 0 0 bX12_street_0 [[], [1543], [], [], [1543], [], [], []] = true := by decide +kernel
theorem qX12_street_18 : blkb mdX12_street 19 18 bX12_street_18 [[]] = true := by decide +kernel
theorem qX12_street_19 : blkb mdX12_street 0 19 bX12_street_19 [[], [], [], [], [], [], [], [1497], [], [], [], [], [1497], [], [], [], [], [1497], [], [], [], [], [1497], [], [], []] = true := by decide +kernel
theorem qX12_street_73 : blkb mdX12_street 74 73 bX12_street_73 [[]] = true := by decide +kernel
theorem qX12_street_74 : blkb mdX12_street 0 74 bX12_street_74 [[], [], [], [], [], []] = true := by decide +kernel
theorem qX12_street_86 : blkb mdX12_street 0 86 bX12_street_86 [[], [], [], []] = true := by decide +kernel
theorem qX12_street_95 : blkb mdX12_street 114 95 bX12_street_95 [[], [1343], [], [], [], [], [], [1546], [], []] = true := by decide +kernel
theorem qX12_street_114 : blkb mdX12_street 0 114 bX12_street_114 [[], []] = true := by decide +kernel
theorem qX12_street_118 : blkb mdX12_street 119 118 bX12_street_118 [[]] = true := by decide +kernel
theorem qX12_street_119 : blkb mdX12_street 0 119 bX12_street_119 [[1500], [], [], []] = true := by decide +kernel
theorem qX12_street_127 : blkb mdX12_street 0 127 bX12_street_127 [[], [1344], [], [1343], [], [], [], [1345], [], [1343], [], [], [], [1346], [], [1343], [], [], [], [1347], [], [1343], [], [], [], [1348], [], [1343], [], [], [], [1349], [], [1343], [], [], [], [], [1343], [], [], [1343], [], [1343], []] = true := by decide +kernel
theorem pX12_street (hA : AOK) (r : Rt) (kb : Co) : RsB mdX12_street r kb (rX12_street kb) := by
  have h127 : RsB mdX12_street r kb (tX12_street_127 kb) := row_0
  have h119 : RsB mdX12_street r kb (tX12_street_119 kb) := row_B hA h127 qX12_street_127 (ck_n rfl) rfl (fun xs ys s => eX12_street_127 kb (xs.getD 0 0) (xs.getD 1 0) (xs.getD 2 0) (xs.getD 3 0) (xs.getD 4 0) (xs.getD 5 0) (xs.getD 6 0) s)
  have h118 : RsB mdX12_street r kb (tX12_street_118 kb) := row_B hA h119 qX12_street_119 (And.intro (co_of mkX12_holds (iX12_holds hA)) (ck_n rfl)) rfl (fun xs ys s => eX12_street_119 kb (xs.getD 0 0) (xs.getD 1 0) (xs.getD 2 0) (xs.getD 3 0) (xs.getD 4 0) (xs.getD 5 0) (xs.getD 6 0) (ys.getD 0 0) (ys.getD 1 0) s)
  have h114 : RsB mdX12_street r kb (tX12_street_114 kb) := row_B hA h118 qX12_street_118 (ck_n rfl) rfl (fun xs ys s => eX12_street_118 kb (xs.getD 0 0) (xs.getD 1 0) (xs.getD 2 0) (xs.getD 3 0) (xs.getD 4 0) (xs.getD 5 0) (xs.getD 6 0) (ys.getD 0 0) s)
  have h95 : RsB mdX12_street r kb (tX12_street_95 kb) := row_B hA h114 qX12_street_114 (ck_n rfl) rfl (fun xs ys s => eX12_street_114 kb (xs.getD 0 0) (xs.getD 1 0) (xs.getD 2 0) (xs.getD 3 0) (xs.getD 4 0) (xs.getD 5 0) (xs.getD 6 0) (ys.getD 0 0) s)
  have h86 : RsB mdX12_street r kb (tX12_street_86 kb) := row_B hA h95 qX12_street_95 (And.intro trivial (And.intro trivial (And.intro trivial (And.intro trivial (And.intro trivial (And.intro trivial (And.intro trivial (And.intro (co_of mkX12_streetBetween (iX12_streetBetween hA)) (ck_n rfl))))))))) rfl (fun xs ys s => eX12_street_95 kb (xs.getD 0 0) (xs.getD 1 0) (xs.getD 2 0) (xs.getD 3 0) (xs.getD 4 0) (xs.getD 5 0) (xs.getD 6 0) (ys.getD 0 0) s)
  have h74 : RsB mdX12_street r kb (tX12_street_74 kb) := row_B hA h86 qX12_street_86 (ck_n rfl) rfl (fun xs ys s => eX12_street_86 kb (xs.getD 0 0) (xs.getD 1 0) (xs.getD 2 0) (xs.getD 3 0) (xs.getD 4 0) (xs.getD 5 0) (xs.getD 6 0) (xs.getD 7 0) (ys.getD 0 0) s)
  have h73 : RsB mdX12_street r kb (tX12_street_73 kb) := row_B hA h74 qX12_street_74 (ck_n rfl) rfl (fun xs ys s => eX12_street_74 kb (xs.getD 0 0) (xs.getD 1 0) (xs.getD 2 0) (xs.getD 3 0) (xs.getD 4 0) (xs.getD 5 0) (xs.getD 6 0) (xs.getD 7 0) (ys.getD 0 0) s)
  have h19 : RsB mdX12_street r kb (tX12_street_19 kb) := row_B hA h73 qX12_street_73 (ck_n rfl) rfl (fun xs ys s => eX12_street_73 kb (xs.getD 0 0) (xs.getD 1 0) (xs.getD 2 0) (xs.getD 3 0) (xs.getD 4 0) (xs.getD 5 0) (xs.getD 6 0) (xs.getD 7 0) s)
  have h18 : RsB mdX12_street r kb (tX12_street_18 kb) := row_B hA h19 qX12_street_19 (And.intro trivial (And.intro trivial (And.intro trivial (And.intro trivial (And.intro trivial (And.intro trivial (And.intro trivial (And.intro (co_of mkX12_in (iX12_in hA)) (And.intro trivial (And.intro trivial (And.intro trivial (And.intro trivial (And.intro (co_of mkX12_in (iX12_in hA)) (And.intro trivial (And.intro trivial (And.intro trivial (And.intro trivial (And.intro (co_of mkX12_in (iX12_in hA)) (And.intro trivial (And.intro trivial (And.intro trivial (And.intro trivial (And.intro (co_of mkX12_in (iX12_in hA)) (ck_n rfl)))))))))))))))))))))))) rfl (fun xs ys s => eX12_street_19 kb (xs.getD 0 0) (xs.getD 1 0) (xs.getD 2 0) (xs.getD 3 0) (xs.getD 4 0) (xs.getD 5 0) (xs.getD 6 0) (ys.getD 0 0) s)
  have h0 : RsB mdX12_street r kb (tX12_street_0 kb) := row_B hA h18 qX12_street_18 (ck_n rfl) rfl (fun xs ys s => eX12_street_18 kb (xs.getD 0 0) (xs.getD 1 0) (xs.getD 2 0) (xs.getD 3 0) (xs.getD 4 0) (xs.getD 5 0) (xs.getD 6 0) s)
  exact row_B hA h0 qX12_street_0 (And.intro trivial (And.intro (co_of mkX12_isCorner (iX12_isCorner hA)) (And.intro trivial (And.intro trivial (And.intro (co_of mkX12_isCorner (iX12_isCorner hA)) (ck_n rfl)))))) rfl (fun xs ys s => eX12_street_0 kb (xs.getD 0 0) (xs.getD 1 0) (xs.getD 2 0) (xs.getD 3 0) (xs.getD 4 0) (xs.getD 5 0) (xs.getD 6 0) s)
theorem iX12_street (hA : AOK) : Impl mdX12_street gX12_street := ent_B (kk := kX12_street) (rr := rX12_street) (f := fun kb => fun xs ys s => fX12_street_0 kb (xs.getD 0 0) (xs.getD 1 0) (xs.getD 2 0) (xs.getD 3 0) (xs.getD 4 0) (xs.getD 5 0) (xs.getD 6 0) s) (by decide +kernel) rfl (fun _ => rfl) (fun r kb => pX12_street hA r kb) (fun kb => ⟨_, rfl⟩) 0 id (fun xs s => rfl) (fun xs => wkl_rf _)
-- FloatparadeModel.isBound(I)Z
theorem mkX12_isBound : MK mdX12_isBound true := MKb_ok (h1 := 1557) (h2 := 76) (h3 := 1556) (h4 := 34) (by decide +kernel)
theorem qX12_isBound_0 : blkb mdX12_isBound 18 0 bX12_isBound_0 [[], [1359], [], [], [], [], [1355], [], [], []] = true := by decide +kernel
theorem qX12_isBound_18 : blkb mdX12_isBound 0 18 bX12_isBound_18 [[], []] = true := by decide +kernel
theorem qX12_isBound_22 : blkb mdX12_isBound 23 22 bX12_isBound_22 [[]] = true := by decide +kernel
theorem qX12_isBound_23 : blkb mdX12_isBound 0 23 bX12_isBound_23 [[]] = true := by decide +kernel
theorem pX12_isBound (hA : AOK) (r : Rt) (kb : Co) : RsB mdX12_isBound r kb (rX12_isBound kb) := by
  have h23 : RsB mdX12_isBound r kb (tX12_isBound_23 kb) := row_0
  have h22 : RsB mdX12_isBound r kb (tX12_isBound_22 kb) := row_B hA h23 qX12_isBound_23 (ck_n rfl) rfl (fun xs ys s => eX12_isBound_23 kb (ys.getD 0 0) s)
  have h18 : RsB mdX12_isBound r kb (tX12_isBound_18 kb) := row_B hA h22 qX12_isBound_22 (ck_n rfl) rfl (fun xs ys s => eX12_isBound_22 kb s)
  have h0 : RsB mdX12_isBound r kb (tX12_isBound_0 kb) := row_B hA h18 qX12_isBound_18 (ck_n rfl) rfl (fun xs ys s => eX12_isBound_18 kb s)
  exact row_B hA h0 qX12_isBound_0 (ck_n rfl) rfl (fun xs ys s => eX12_isBound_0 kb (xs.getD 0 0) (xs.getD 1 0) s)
theorem iX12_isBound (hA : AOK) : Impl mdX12_isBound gX12_isBound := ent_B (kk := kX12_isBound) (rr := rX12_isBound) (f := fun kb => fun xs ys s => fX12_isBound_0 kb (xs.getD 0 0) (xs.getD 1 0) s) (by decide +kernel) rfl (fun _ => rfl) (fun r kb => pX12_isBound hA r kb) (fun kb => ⟨_, rfl⟩) 0 id (fun xs s => rfl) (fun xs => wkl_rf _)
-- FloatparadeModel.route(II)V
theorem mkX12_route : MK mdX12_route true := MKb_ok (h1 := 1553) (h2 := 76) (h3 := 1551) (h4 := 1552) (by decide +kernel)
theorem qX12_route_0 : blkb mdX12_route 0 0 bX12_route_0 [[], [], [1543], [], [], []] = true := by decide +kernel
theorem qX12_route_12 : blkb mdX12_route 0 12 bX12_route_12 [[], [1494], [], [], []] = true := by decide +kernel
theorem qX12_route_23 : blkb mdX12_route 0 23 bX12_route_23 [[], [], [1554], [], [], []] = true := by decide +kernel
theorem qX12_route_35 : blkb mdX12_route 36 35 bX12_route_35 [[]] = true := by decide +kernel
theorem qX12_route_36 : blkb mdX12_route 59 36 bX12_route_36 [[1500], [], [], [1351], [], [], [], [], [], [], [1350], [], [], []] = true := by decide +kernel
theorem qX12_route_59 : blkb mdX12_route 0 59 bX12_route_59 [[]] = true := by decide +kernel
theorem pX12_route (hA : AOK) (r : Rt) (kb : Co) : RsB mdX12_route r kb (rX12_route kb) := by
  have h59 : RsB mdX12_route r kb (tX12_route_59 kb) := row_0
  have h36 : RsB mdX12_route r kb (tX12_route_36 kb) := row_B hA h59 qX12_route_59 (ck_n rfl) rfl (fun xs ys s => eX12_route_59 kb s)
  have h35 : RsB mdX12_route r kb (tX12_route_35 kb) := row_B hA h36 qX12_route_36 (And.intro (co_of mkX12_holds (iX12_holds hA)) (ck_n rfl)) rfl (fun xs ys s => eX12_route_36 kb (xs.getD 0 0) (xs.getD 1 0) (xs.getD 2 0) (ys.getD 0 0) (ys.getD 1 0) s)
  have h23 : RsB mdX12_route r kb (tX12_route_23 kb) := row_B hA h35 qX12_route_35 (ck_n rfl) rfl (fun xs ys s => eX12_route_35 kb (xs.getD 0 0) (xs.getD 1 0) (xs.getD 2 0) (ys.getD 0 0) s)
  have h12 : RsB mdX12_route r kb (tX12_route_12 kb) := row_B hA h23 qX12_route_23 (And.intro trivial (And.intro trivial (And.intro (co_of mkX12_isBound (iX12_isBound hA)) (ck_n rfl)))) rfl (fun xs ys s => eX12_route_23 kb (xs.getD 0 0) (xs.getD 1 0) (xs.getD 2 0) (ys.getD 0 0) s)
  have h0 : RsB mdX12_route r kb (tX12_route_0 kb) := row_B hA h12 qX12_route_12 (And.intro trivial (And.intro (co_of mkX12_isLeague (iX12_isLeague hA)) (ck_n rfl))) rfl (fun xs ys s => eX12_route_12 kb (xs.getD 0 0) (xs.getD 1 0) (xs.getD 2 0) (ys.getD 0 0) s)
  exact row_B hA h0 qX12_route_0 (And.intro trivial (And.intro trivial (And.intro (co_of mkX12_isCorner (iX12_isCorner hA)) (ck_n rfl)))) rfl (fun xs ys s => eX12_route_0 kb (xs.getD 0 0) (xs.getD 1 0) (xs.getD 2 0) s)
theorem iX12_route (hA : AOK) : Impl mdX12_route gX12_route := ent_B (kk := kX12_route) (rr := rX12_route) (f := fun kb => fun xs ys s => fX12_route_0 kb (xs.getD 0 0) (xs.getD 1 0) (xs.getD 2 0) s) (by decide +kernel) rfl (fun _ => rfl) (fun r kb => pX12_route hA r kb) (fun kb => ⟨_, rfl⟩) 0 id (fun xs s => rfl) (fun xs => wkl_rf _)
-- FloatparadeModel.streetOf(II)I
theorem mkX12_streetOf : MK mdX12_streetOf true := MKb_ok (h1 := 1577) (h2 := 76) (h3 := 1576) (h4 := 38) (by decide +kernel)
theorem qX12_streetOf_0 : blkb mdX12_streetOf 0 0 bX12_streetOf_0 [[], [], [1351], [], [], [], [], [], [], [], [1351], [], [], [], [], [], [], [], [], [1546], []] = true := by decide +kernel
theorem pX12_streetOf (hA : AOK) (r : Rt) (kb : Co) : RsB mdX12_streetOf r kb (rX12_streetOf kb) := by
  have h0 : RsB mdX12_streetOf r kb (tX12_streetOf_0 kb) := row_0
  exact row_B hA h0 qX12_streetOf_0 (And.intro trivial (And.intro trivial (And.intro trivial (And.intro trivial (And.intro trivial (And.intro trivial (And.intro trivial (And.intro trivial (And.intro trivial (And.intro trivial (And.intro trivial (And.intro trivial (And.intro trivial (And.intro trivial (And.intro trivial (And.intro trivial (And.intro trivial (And.intro trivial (And.intro trivial (And.intro (co_of mkX12_streetBetween (iX12_streetBetween hA)) (ck_n rfl))))))))))))))))))))) rfl (fun xs ys s => eX12_streetOf_0 kb (xs.getD 0 0) (xs.getD 1 0) (xs.getD 2 0) s)
theorem iX12_streetOf (hA : AOK) : Impl mdX12_streetOf gX12_streetOf := ent_B (kk := kX12_streetOf) (rr := rX12_streetOf) (f := fun kb => fun xs ys s => fX12_streetOf_0 kb (xs.getD 0 0) (xs.getD 1 0) (xs.getD 2 0) s) (by decide +kernel) rfl (fun _ => rfl) (fun r kb => pX12_streetOf hA r kb) (fun kb => ⟨_, rfl⟩) 0 id (fun xs s => rfl) (fun xs => wkl_rf _)
-- FloatparadeModel.cellOf(II)I
theorem mkX12_cellOf : MK mdX12_cellOf true := MKb_ok (h1 := 1680) (h2 := 76) (h3 := 1679) (h4 := 52) (by decide +kernel)
theorem qX12_cellOf_0 : blkb mdX12_cellOf 5 0 bX12_cellOf_0 [[], [], [], []] = true := by decide +kernel
theorem qX12_cellOf_5 : blkb mdX12_cellOf 0 5 bX12_cellOf_5 [[], [], [], [], [], [1346], [], [], [], [1574], [], [], [], [], []] = true := by decide +kernel
theorem qX12_cellOf_32 : blkb mdX12_cellOf 0 32 bX12_cellOf_32 [[], [], [], [], [1350], [], [], [], [], [], [], [], [], []] = true := by decide +kernel
theorem qX12_cellOf_54 : blkb mdX12_cellOf 55 54 bX12_cellOf_54 [[]] = true := by decide +kernel
theorem qX12_cellOf_55 : blkb mdX12_cellOf 0 55 bX12_cellOf_55 [[]] = true := by decide +kernel
theorem pX12_cellOf (hA : AOK) (r : Rt) (kb : Co) : RsB mdX12_cellOf r kb (rX12_cellOf kb) := by
  have h55 : RsB mdX12_cellOf r kb (tX12_cellOf_55 kb) := row_0
  have h54 : RsB mdX12_cellOf r kb (tX12_cellOf_54 kb) := row_B hA h55 qX12_cellOf_55 (ck_n rfl) rfl (fun xs ys s => eX12_cellOf_55 kb (ys.getD 0 0) s)
  have h32 : RsB mdX12_cellOf r kb (tX12_cellOf_32 kb) := row_B hA h54 qX12_cellOf_54 (ck_n rfl) rfl (fun xs ys s => eX12_cellOf_54 kb (xs.getD 0 0) s)
  have h5 : RsB mdX12_cellOf r kb (tX12_cellOf_5 kb) := row_B hA h32 qX12_cellOf_32 (ck_n rfl) rfl (fun xs ys s => eX12_cellOf_32 kb (xs.getD 0 0) (xs.getD 1 0) (xs.getD 2 0) (xs.getD 3 0) s)
  have h0 : RsB mdX12_cellOf r kb (tX12_cellOf_0 kb) := row_B hA h5 qX12_cellOf_5 (And.intro trivial (And.intro trivial (And.intro trivial (And.intro trivial (And.intro trivial (And.intro trivial (And.intro trivial (And.intro trivial (And.intro trivial (And.intro (co_of mkX12_streetOf (iX12_streetOf hA)) (ck_n rfl))))))))))) rfl (fun xs ys s => eX12_cellOf_5 kb (xs.getD 0 0) (xs.getD 1 0) (xs.getD 2 0) (xs.getD 3 0) (xs.getD 4 0) s)
  exact row_B hA h0 qX12_cellOf_0 (ck_n rfl) rfl (fun xs ys s => eX12_cellOf_0 kb (xs.getD 0 0) (xs.getD 1 0) (xs.getD 2 0) s)
theorem iX12_cellOf (hA : AOK) : Impl mdX12_cellOf gX12_cellOf := ent_B (kk := kX12_cellOf) (rr := rX12_cellOf) (f := fun kb => fun xs ys s => fX12_cellOf_0 kb (xs.getD 0 0) (xs.getD 1 0) (xs.getD 2 0) s) (by decide +kernel) rfl (fun _ => rfl) (fun r kb => pX12_cellOf hA r kb) (fun kb => ⟨_, rfl⟩) 9999 id (fun xs s => rfl) (fun xs => wkl_rf _)
-- FloatparadeModel.cells(I)I
theorem mkX12_cells : MK mdX12_cells true := MKb_ok (h1 := 1573) (h2 := 76) (h3 := 1572) (h4 := 37) (by decide +kernel)
theorem qX12_cells_0 : blkb mdX12_cells 4 0 bX12_cells_0 [[], [], [], []] = true := by decide +kernel
theorem qX12_cells_4 : blkb mdX12_cells 0 4 bX12_cells_4 [[], [], [1350], [], [], [], [], [], [], [], [1346], [], [], [], [1574], [], [], [], [], []] = true := by decide +kernel
theorem qX12_cells_36 : blkb mdX12_cells 0 36 bX12_cells_36 [[], []] = true := by decide +kernel
theorem pX12_cells (hA : AOK) (r : Rt) (kb : Co) : RsB mdX12_cells r kb (rX12_cells kb) := by
  have h36 : RsB mdX12_cells r kb (tX12_cells_36 kb) := row_0
  have h4 : RsB mdX12_cells r kb (tX12_cells_4 kb) := row_B hA h36 qX12_cells_36 (ck_n rfl) rfl (fun xs ys s => eX12_cells_36 kb (xs.getD 0 0) s)
  have h0 : RsB mdX12_cells r kb (tX12_cells_0 kb) := row_B hA h4 qX12_cells_4 (And.intro trivial (And.intro trivial (And.intro trivial (And.intro trivial (And.intro trivial (And.intro trivial (And.intro trivial (And.intro trivial (And.intro trivial (And.intro trivial (And.intro trivial (And.intro trivial (And.intro trivial (And.intro trivial (And.intro (co_of mkX12_streetOf (iX12_streetOf hA)) (ck_n rfl)))))))))))))))) rfl (fun xs ys s => eX12_cells_4 kb (xs.getD 0 0) (xs.getD 1 0) (xs.getD 2 0) (xs.getD 3 0) s)
  exact row_B hA h0 qX12_cells_0 (ck_n rfl) rfl (fun xs ys s => eX12_cells_0 kb (xs.getD 0 0) (xs.getD 1 0) s)
theorem iX12_cells (hA : AOK) : Impl mdX12_cells gX12_cells := ent_B (kk := kX12_cells) (rr := rX12_cells) (f := fun kb => fun xs ys s => fX12_cells_0 kb (xs.getD 0 0) (xs.getD 1 0) s) (by decide +kernel) rfl (fun _ => rfl) (fun r kb => pX12_cells hA r kb) (fun kb => ⟨_, rfl⟩) 9999 id (fun xs s => rfl) (fun xs => wkl_rf _)
-- FloatparadeModel.placeOf(II)I
theorem mkX12_placeOf : MK mdX12_placeOf true := MKb_ok (h1 := 1569) (h2 := 76) (h3 := 1568) (h4 := 36) (by decide +kernel)
theorem qX12_placeOf_0 : blkb mdX12_placeOf 5 0 bX12_placeOf_0 [[], [], [], []] = true := by decide +kernel
theorem qX12_placeOf_5 : blkb mdX12_placeOf 0 5 bX12_placeOf_5 [[], [], [1350], [], [], [], [], [1351], [], [], [], [], [], [], [], [], [], []] = true := by decide +kernel
theorem qX12_placeOf_37 : blkb mdX12_placeOf 38 37 bX12_placeOf_37 [[]] = true := by decide +kernel
theorem qX12_placeOf_38 : blkb mdX12_placeOf 0 38 bX12_placeOf_38 [[], [], []] = true := by decide +kernel
theorem qX12_placeOf_45 : blkb mdX12_placeOf 0 45 bX12_placeOf_45 [[], []] = true := by decide +kernel
theorem pX12_placeOf (hA : AOK) (r : Rt) (kb : Co) : RsB mdX12_placeOf r kb (rX12_placeOf kb) := by
  have h45 : RsB mdX12_placeOf r kb (tX12_placeOf_45 kb) := row_0
  have h38 : RsB mdX12_placeOf r kb (tX12_placeOf_38 kb) := row_B hA h45 qX12_placeOf_45 (ck_n rfl) rfl (fun xs ys s => eX12_placeOf_45 kb (xs.getD 0 0) s)
  have h37 : RsB mdX12_placeOf r kb (tX12_placeOf_37 kb) := row_B hA h38 qX12_placeOf_38 (ck_n rfl) rfl (fun xs ys s => eX12_placeOf_38 kb (xs.getD 0 0) (xs.getD 1 0) (xs.getD 2 0) (xs.getD 3 0) (ys.getD 0 0) s)
  have h5 : RsB mdX12_placeOf r kb (tX12_placeOf_5 kb) := row_B hA h37 qX12_placeOf_37 (ck_n rfl) rfl (fun xs ys s => eX12_placeOf_37 kb (xs.getD 0 0) (xs.getD 1 0) (xs.getD 2 0) (xs.getD 3 0) (xs.getD 4 0) s)
  have h0 : RsB mdX12_placeOf r kb (tX12_placeOf_0 kb) := row_B hA h5 qX12_placeOf_5 (ck_n rfl) rfl (fun xs ys s => eX12_placeOf_5 kb (xs.getD 0 0) (xs.getD 1 0) (xs.getD 2 0) (xs.getD 3 0) (xs.getD 4 0) s)
  exact row_B hA h0 qX12_placeOf_0 (ck_n rfl) rfl (fun xs ys s => eX12_placeOf_0 kb (xs.getD 0 0) (xs.getD 1 0) (xs.getD 2 0) s)
theorem iX12_placeOf (hA : AOK) : Impl mdX12_placeOf gX12_placeOf := ent_B (kk := kX12_placeOf) (rr := rX12_placeOf) (f := fun kb => fun xs ys s => fX12_placeOf_0 kb (xs.getD 0 0) (xs.getD 1 0) (xs.getD 2 0) s) (by decide +kernel) rfl (fun _ => rfl) (fun r kb => pX12_placeOf hA r kb) (fun kb => ⟨_, rfl⟩) 9999 id (fun xs s => rfl) (fun xs => wkl_rf _)
-- FloatparadeModel.canGoOn(II)Z
theorem mkX12_canGoOn : MK mdX12_canGoOn true := MKb_ok (h1 := 1565) (h2 := 76) (h3 := 1564) (h4 := 35) (by decide +kernel)
theorem qX12_canGoOn_0 : blkb mdX12_canGoOn 0 0 bX12_canGoOn_0 [[], [1350], [], [], [], [], [], [1554], [], [], [], [], [1497], [], [], [], [], [1566], [], [], [], [], [1351], [], [], [], [], [], [], [], [], [], [1546], [], [], [], []] = true := by decide +kernel
theorem qX12_canGoOn_61 : blkb mdX12_canGoOn 62 61 bX12_canGoOn_61 [[]] = true := by decide +kernel
theorem qX12_canGoOn_62 : blkb mdX12_canGoOn 0 62 bX12_canGoOn_62 [[]] = true := by decide +kernel
theorem pX12_canGoOn (hA : AOK) (r : Rt) (kb : Co) : RsB mdX12_canGoOn r kb (rX12_canGoOn kb) := by
  have h62 : RsB mdX12_canGoOn r kb (tX12_canGoOn_62 kb) := row_0
  have h61 : RsB mdX12_canGoOn r kb (tX12_canGoOn_61 kb) := row_B hA h62 qX12_canGoOn_62 (ck_n rfl) rfl (fun xs ys s => eX12_canGoOn_62 kb (ys.getD 0 0) s)
  have h0 : RsB mdX12_canGoOn r kb (tX12_canGoOn_0 kb) := row_B hA h61 qX12_canGoOn_61 (ck_n rfl) rfl (fun xs ys s => eX12_canGoOn_61 kb s)
  exact row_B hA h0 qX12_canGoOn_0 (And.intro trivial (And.intro trivial (And.intro trivial (And.intro trivial (And.intro trivial (And.intro trivial (And.intro trivial (And.intro (co_of mkX12_isBound (iX12_isBound hA)) (And.intro trivial (And.intro trivial (And.intro trivial (And.intro trivial (And.intro (co_of mkX12_in (iX12_in hA)) (And.intro trivial (And.intro trivial (And.intro trivial (And.intro trivial (And.intro (co_of mkX12_placeOf (iX12_placeOf hA)) (And.intro trivial (And.intro trivial (And.intro trivial (And.intro trivial (And.intro trivial (And.intro trivial (And.intro trivial (And.intro trivial (And.intro trivial (And.intro trivial (And.intro trivial (And.intro trivial (And.intro trivial (And.intro trivial (And.intro (co_of mkX12_streetBetween (iX12_streetBetween hA)) (ck_n rfl)))))))))))))))))))))))))))))))))) rfl (fun xs ys s => eX12_canGoOn_0 kb (xs.getD 0 0) (xs.getD 1 0) (xs.getD 2 0) s)
theorem iX12_canGoOn (hA : AOK) : Impl mdX12_canGoOn gX12_canGoOn := ent_B (kk := kX12_canGoOn) (rr := rX12_canGoOn) (f := fun kb => fun xs ys s => fX12_canGoOn_0 kb (xs.getD 0 0) (xs.getD 1 0) (xs.getD 2 0) s) (by decide +kernel) rfl (fun _ => rfl) (fun r kb => pX12_canGoOn hA r kb) (fun kb => ⟨_, rfl⟩) 0 id (fun xs s => rfl) (fun xs => wkl_rf _)
-- FloatparadeModel.goOn(II)I
theorem mkX12_goOn : MK mdX12_goOn true := MKb_ok (h1 := 1561) (h2 := 76) (h3 := 1559) (h4 := 1560) (by decide +kernel)
theorem qX12_goOn_0 : blkb mdX12_goOn 0 0 bX12_goOn_0 [[], [], [1543], [], [], []] = true := by decide +kernel
theorem qX12_goOn_12 : blkb mdX12_goOn 0 12 bX12_goOn_12 [[], [1494], [], [], []] = true := by decide +kernel
theorem qX12_goOn_23 : blkb mdX12_goOn 0 23 bX12_goOn_23 [[], [], [], [1562], [], [], []] = true := by decide +kernel
theorem qX12_goOn_36 : blkb mdX12_goOn 37 36 bX12_goOn_36 [[]] = true := by decide +kernel
theorem qX12_goOn_37 : blkb mdX12_goOn 0 37 bX12_goOn_37 [[1500], [], [], []] = true := by decide +kernel
theorem qX12_goOn_45 : blkb mdX12_goOn 0 45 bX12_goOn_45 [[], [1351], [], [], [], [], [1350], [], [], [], [], [], [], [1350], [], [], [], [], [], [], [], [], [1570], []] = true := by decide +kernel
theorem pX12_goOn (hA : AOK) (r : Rt) (kb : Co) : RsB mdX12_goOn r kb (rX12_goOn kb) := by
  have h45 : RsB mdX12_goOn r kb (tX12_goOn_45 kb) := row_0
  have h37 : RsB mdX12_goOn r kb (tX12_goOn_37 kb) := row_B hA h45 qX12_goOn_45 (And.intro trivial (And.intro trivial (And.intro trivial (And.intro trivial (And.intro trivial (And.intro trivial (And.intro trivial (And.intro trivial (And.intro trivial (And.intro trivial (And.intro trivial (And.intro trivial (And.intro trivial (And.intro trivial (And.intro trivial (And.intro trivial (And.intro trivial (And.intro trivial (And.intro trivial (And.intro trivial (And.intro trivial (And.intro trivial (And.intro (co_of mkX12_cells (iX12_cells hA)) (ck_n rfl)))))))))))))))))))))))) rfl (fun xs ys s => eX12_goOn_45 kb (xs.getD 0 0) (xs.getD 1 0) (xs.getD 2 0) s)
  have h36 : RsB mdX12_goOn r kb (tX12_goOn_36 kb) := row_B hA h37 qX12_goOn_37 (And.intro (co_of mkX12_holds (iX12_holds hA)) (ck_n rfl)) rfl (fun xs ys s => eX12_goOn_37 kb (xs.getD 0 0) (xs.getD 1 0) (xs.getD 2 0) (ys.getD 0 0) (ys.getD 1 0) s)
  have h23 : RsB mdX12_goOn r kb (tX12_goOn_23 kb) := row_B hA h36 qX12_goOn_36 (ck_n rfl) rfl (fun xs ys s => eX12_goOn_36 kb (xs.getD 0 0) (xs.getD 1 0) (xs.getD 2 0) (ys.getD 0 0) s)
  have h12 : RsB mdX12_goOn r kb (tX12_goOn_12 kb) := row_B hA h23 qX12_goOn_23 (And.intro trivial (And.intro trivial (And.intro trivial (And.intro (co_of mkX12_canGoOn (iX12_canGoOn hA)) (ck_n rfl))))) rfl (fun xs ys s => eX12_goOn_23 kb (xs.getD 0 0) (xs.getD 1 0) (xs.getD 2 0) (ys.getD 0 0) s)
  have h0 : RsB mdX12_goOn r kb (tX12_goOn_0 kb) := row_B hA h12 qX12_goOn_12 (And.intro trivial (And.intro (co_of mkX12_isLeague (iX12_isLeague hA)) (ck_n rfl))) rfl (fun xs ys s => eX12_goOn_12 kb (xs.getD 0 0) (xs.getD 1 0) (xs.getD 2 0) (ys.getD 0 0) s)
  exact row_B hA h0 qX12_goOn_0 (And.intro trivial (And.intro trivial (And.intro (co_of mkX12_isCorner (iX12_isCorner hA)) (ck_n rfl)))) rfl (fun xs ys s => eX12_goOn_0 kb (xs.getD 0 0) (xs.getD 1 0) (xs.getD 2 0) s)
theorem iX12_goOn (hA : AOK) : Impl mdX12_goOn gX12_goOn := ent_B (kk := kX12_goOn) (rr := rX12_goOn) (f := fun kb => fun xs ys s => fX12_goOn_0 kb (xs.getD 0 0) (xs.getD 1 0) (xs.getD 2 0) s) (by decide +kernel) rfl (fun _ => rfl) (fun r kb => pX12_goOn hA r kb) (fun kb => ⟨_, rfl⟩) 0 id (fun xs s => rfl) (fun xs => wkl_rf _)
-- FloatparadeModel.jury(IZ)Z
theorem mkX12_jury : MK mdX12_jury true := MKb_ok (h1 := 1581) (h2 := 76) (h3 := 1579) (h4 := 1580) (by decide +kernel)
theorem qX12_jury_0 : blkb mdX12_jury 0 0 bX12_jury_0 [[], [], [1543], [], [], []] = true := by decide +kernel
theorem qX12_jury_12 : blkb mdX12_jury 13 12 bX12_jury_12 [[]] = true := by decide +kernel
theorem qX12_jury_13 : blkb mdX12_jury 0 13 bX12_jury_13 [[1500], [], [], []] = true := by decide +kernel
theorem qX12_jury_21 : blkb mdX12_jury 0 21 bX12_jury_21 [[], [1352], [], [], [], [], [1352], [], [], [], [], []] = true := by decide +kernel
theorem pX12_jury (hA : AOK) (r : Rt) (kb : Co) : RsB mdX12_jury r kb (rX12_jury kb) := by
  have h21 : RsB mdX12_jury r kb (tX12_jury_21 kb) := row_0
  have h13 : RsB mdX12_jury r kb (tX12_jury_13 kb) := row_B hA h21 qX12_jury_21 (ck_n rfl) rfl (fun xs ys s => eX12_jury_21 kb (xs.getD 0 0) (xs.getD 1 0) (xs.getD 2 0) s)
  have h12 : RsB mdX12_jury r kb (tX12_jury_12 kb) := row_B hA h13 qX12_jury_13 (And.intro (co_of mkX12_holds (iX12_holds hA)) (ck_n rfl)) rfl (fun xs ys s => eX12_jury_13 kb (xs.getD 0 0) (xs.getD 1 0) (xs.getD 2 0) (ys.getD 0 0) (ys.getD 1 0) s)
  have h0 : RsB mdX12_jury r kb (tX12_jury_0 kb) := row_B hA h12 qX12_jury_12 (ck_n rfl) rfl (fun xs ys s => eX12_jury_12 kb (xs.getD 0 0) (xs.getD 1 0) (xs.getD 2 0) (ys.getD 0 0) s)
  exact row_B hA h0 qX12_jury_0 (And.intro trivial (And.intro trivial (And.intro (co_of mkX12_isCorner (iX12_isCorner hA)) (ck_n rfl)))) rfl (fun xs ys s => eX12_jury_0 kb (xs.getD 0 0) (xs.getD 1 0) (xs.getD 2 0) s)
theorem iX12_jury (hA : AOK) : Impl mdX12_jury gX12_jury := ent_B (kk := kX12_jury) (rr := rX12_jury) (f := fun kb => fun xs ys s => fX12_jury_0 kb (xs.getD 0 0) (xs.getD 1 0) (xs.getD 2 0) s) (by decide +kernel) rfl (fun _ => rfl) (fun r kb => pX12_jury hA r kb) (fun kb => ⟨_, rfl⟩) 0 id (fun xs s => rfl) (fun xs => wkl_rf _)
-- FloatparadeModel.at(II)I
theorem mkX12_at : MK mdX12_at false := MKb_ok (h1 := 1588) (h2 := 76) (h3 := 1587) (h4 := 0) (by decide +kernel)
theorem qX12_at_0 : blkb mdX12_at 0 0 bX12_at_0 [[], [], [], [], [], [], [], []] = true := by decide +kernel
theorem pX12_at (hA : AOK) (r : Rt) (kb : Co) : RsB mdX12_at r kb (rX12_at kb) := by
  have h0 : RsB mdX12_at r kb (tX12_at_0 kb) := row_0
  exact row_B hA h0 qX12_at_0 (ck_n rfl) rfl (fun xs ys s => eX12_at_0 kb (xs.getD 0 0) (xs.getD 1 0) s)
theorem iX12_at (hA : AOK) : Impl mdX12_at gX12_at := ent_B (kk := kX12_at) (rr := rX12_at) (f := fun kb => fun xs ys s => fX12_at_0 kb (xs.getD 0 0) (xs.getD 1 0) s) (by decide +kernel) rfl (fun _ => rfl) (fun r kb => pX12_at hA r kb) (fun kb => ⟨_, rfl⟩) 0 id (fun xs s => rfl) (fun xs => wkl_rf _)
-- FloatparadeModel.isFloat(II)Z
theorem mkX12_isFloat : MK mdX12_isFloat true := MKb_ok (h1 := 1596) (h2 := 76) (h3 := 1595) (h4 := 39) (by decide +kernel)
theorem qX12_isFloat_0 : blkb mdX12_isFloat 0 0 bX12_isFloat_0 [[], [], [1508], [], [], [], [], [1341], [], [], [], [], [1497], [], [], []] = true := by decide +kernel
theorem qX12_isFloat_28 : blkb mdX12_isFloat 29 28 bX12_isFloat_28 [[]] = true := by decide +kernel
theorem qX12_isFloat_29 : blkb mdX12_isFloat 0 29 bX12_isFloat_29 [[]] = true := by decide +kernel
theorem pX12_isFloat (hA : AOK) (r : Rt) (kb : Co) : RsB mdX12_isFloat r kb (rX12_isFloat kb) := by
  have h29 : RsB mdX12_isFloat r kb (tX12_isFloat_29 kb) := row_0
  have h28 : RsB mdX12_isFloat r kb (tX12_isFloat_28 kb) := row_B hA h29 qX12_isFloat_29 (ck_n rfl) rfl (fun xs ys s => eX12_isFloat_29 kb (ys.getD 0 0) s)
  have h0 : RsB mdX12_isFloat r kb (tX12_isFloat_0 kb) := row_B hA h28 qX12_isFloat_28 (ck_n rfl) rfl (fun xs ys s => eX12_isFloat_28 kb s)
  exact row_B hA h0 qX12_isFloat_0 (And.intro trivial (And.intro trivial (And.intro (co_of mkX12_isSociety (iX12_isSociety hA)) (And.intro trivial (And.intro trivial (And.intro trivial (And.intro trivial (And.intro trivial (And.intro trivial (And.intro trivial (And.intro trivial (And.intro trivial (And.intro (co_of mkX12_in (iX12_in hA)) (ck_n rfl)))))))))))))) rfl (fun xs ys s => eX12_isFloat_0 kb (xs.getD 0 0) (xs.getD 1 0) (xs.getD 2 0) s)
theorem iX12_isFloat (hA : AOK) : Impl mdX12_isFloat gX12_isFloat := ent_B (kk := kX12_isFloat) (rr := rX12_isFloat) (f := fun kb => fun xs ys s => fX12_isFloat_0 kb (xs.getD 0 0) (xs.getD 1 0) (xs.getD 2 0) s) (by decide +kernel) rfl (fun _ => rfl) (fun r kb => pX12_isFloat hA r kb) (fun kb => ⟨_, rfl⟩) 0 id (fun xs s => rfl) (fun xs => wkl_rf _)
-- FloatparadeModel.build(IIIII)I
theorem mkX12_build : MK mdX12_build true := MKb_ok (h1 := 1585) (h2 := 76) (h3 := 1583) (h4 := 1584) (by decide +kernel)
theorem qX12_build_0 : blkb mdX12_build 0 0 bX12_build_0 [[], [], [1508], [], [], [], [], [1497], [], [], [], [], [1497], [], [], [], [], [1497], [], [], [], [], [1497], [], [], []] = true := by decide +kernel
theorem qX12_build_53 : blkb mdX12_build 54 53 bX12_build_53 [[]] = true := by decide +kernel
theorem qX12_build_54 : blkb mdX12_build 0 54 bX12_build_54 [[], [], [], [], [], []] = true := by decide +kernel
theorem qX12_build_66 : blkb mdX12_build 0 66 bX12_build_66 [[], [], [], []] = true := by decide +kernel
theorem qX12_build_75 : blkb mdX12_build 94 75 bX12_build_75 [[], [1341], [], [], [], [], [], [1353], [], [], []] = true := by decide +kernel
theorem qX12_build_94 : blkb mdX12_build 0 94 bX12_build_94 [[], []] = true := by decide +kernel
theorem qX12_build_98 : blkb mdX12_build 99 98 bX12_build_98 [[]] = true := by decide +kernel
theorem qX12_build_99 : blkb mdX12_build 0 99 bX12_build_99 [[1500], [], [], []] = true := by decide +kernel
theorem qX12_build_107 : blkb mdX12_build 0 107 bX12_build_107 [[], [], [1341], [], [], [1586], [], [], [1342], [], [], [], [], [1342], [], [], [], [], [], [], [1342], [], [], [], [], [], [], [1342], [], [], [], [], [], [], [1341], [], [], [], [], [], [], [], [1341], [], [], [], [], []] = true := by decide +kernel
theorem pX12_build (hA : AOK) (r : Rt) (kb : Co) : RsB mdX12_build r kb (rX12_build kb) := by
  have h107 : RsB mdX12_build r kb (tX12_build_107 kb) := row_0
  have h99 : RsB mdX12_build r kb (tX12_build_99 kb) := row_B hA h107 qX12_build_107 (And.intro trivial (And.intro trivial (And.intro trivial (And.intro trivial (And.intro trivial (And.intro (co_of mkX12_at (iX12_at hA)) (ck_n rfl))))))) rfl (fun xs ys s => eX12_build_107 kb (xs.getD 0 0) (xs.getD 1 0) (xs.getD 2 0) (xs.getD 3 0) (xs.getD 4 0) (xs.getD 5 0) s)
  have h98 : RsB mdX12_build r kb (tX12_build_98 kb) := row_B hA h99 qX12_build_99 (And.intro (co_of mkX12_holds (iX12_holds hA)) (ck_n rfl)) rfl (fun xs ys s => eX12_build_99 kb (xs.getD 0 0) (xs.getD 1 0) (xs.getD 2 0) (xs.getD 3 0) (xs.getD 4 0) (xs.getD 5 0) (ys.getD 0 0) (ys.getD 1 0) s)
  have h94 : RsB mdX12_build r kb (tX12_build_94 kb) := row_B hA h98 qX12_build_98 (ck_n rfl) rfl (fun xs ys s => eX12_build_98 kb (xs.getD 0 0) (xs.getD 1 0) (xs.getD 2 0) (xs.getD 3 0) (xs.getD 4 0) (xs.getD 5 0) (ys.getD 0 0) s)
  have h75 : RsB mdX12_build r kb (tX12_build_75 kb) := row_B hA h94 qX12_build_94 (ck_n rfl) rfl (fun xs ys s => eX12_build_94 kb (xs.getD 0 0) (xs.getD 1 0) (xs.getD 2 0) (xs.getD 3 0) (xs.getD 4 0) (xs.getD 5 0) (ys.getD 0 0) s)
  have h66 : RsB mdX12_build r kb (tX12_build_66 kb) := row_B hA h75 qX12_build_75 (ck_n rfl) rfl (fun xs ys s => eX12_build_75 kb (xs.getD 0 0) (xs.getD 1 0) (xs.getD 2 0) (xs.getD 3 0) (xs.getD 4 0) (xs.getD 5 0) (ys.getD 0 0) s)
  have h54 : RsB mdX12_build r kb (tX12_build_54 kb) := row_B hA h66 qX12_build_66 (ck_n rfl) rfl (fun xs ys s => eX12_build_66 kb (xs.getD 0 0) (xs.getD 1 0) (xs.getD 2 0) (xs.getD 3 0) (xs.getD 4 0) (xs.getD 5 0) (xs.getD 6 0) (ys.getD 0 0) s)
  have h53 : RsB mdX12_build r kb (tX12_build_53 kb) := row_B hA h54 qX12_build_54 (ck_n rfl) rfl (fun xs ys s => eX12_build_54 kb (xs.getD 0 0) (xs.getD 1 0) (xs.getD 2 0) (xs.getD 3 0) (xs.getD 4 0) (xs.getD 5 0) (xs.getD 6 0) (ys.getD 0 0) s)
  have h0 : RsB mdX12_build r kb (tX12_build_0 kb) := row_B hA h53 qX12_build_53 (ck_n rfl) rfl (fun xs ys s => eX12_build_53 kb (xs.getD 0 0) (xs.getD 1 0) (xs.getD 2 0) (xs.getD 3 0) (xs.getD 4 0) (xs.getD 5 0) (xs.getD 6 0) s)
  exact row_B hA h0 qX12_build_0 (And.intro trivial (And.intro trivial (And.intro (co_of mkX12_isSociety (iX12_isSociety hA)) (And.intro trivial (And.intro trivial (And.intro trivial (And.intro trivial (And.intro (co_of mkX12_in (iX12_in hA)) (And.intro trivial (And.intro trivial (And.intro trivial (And.intro trivial (And.intro (co_of mkX12_in (iX12_in hA)) (And.intro trivial (And.intro trivial (And.intro trivial (And.intro trivial (And.intro (co_of mkX12_in (iX12_in hA)) (And.intro trivial (And.intro trivial (And.intro trivial (And.intro trivial (And.intro (co_of mkX12_in (iX12_in hA)) (ck_n rfl)))))))))))))))))))))))) rfl (fun xs ys s => eX12_build_0 kb (xs.getD 0 0) (xs.getD 1 0) (xs.getD 2 0) (xs.getD 3 0) (xs.getD 4 0) (xs.getD 5 0) s)
theorem iX12_build (hA : AOK) : Impl mdX12_build gX12_build := ent_B (kk := kX12_build) (rr := rX12_build) (f := fun kb => fun xs ys s => fX12_build_0 kb (xs.getD 0 0) (xs.getD 1 0) (xs.getD 2 0) (xs.getD 3 0) (xs.getD 4 0) (xs.getD 5 0) s) (by decide +kernel) rfl (fun _ => rfl) (fun r kb => pX12_build hA r kb) (fun kb => ⟨_, rfl⟩) 0 id (fun xs s => rfl) (fun xs => wkl_rf _)
-- FloatparadeModel.cut(IIIIII)I
theorem mkX12_cut : MK mdX12_cut true := MKb_ok (h1 := 1592) (h2 := 76) (h3 := 1590) (h4 := 1591) (by decide +kernel)
theorem qX12_cut_0 : blkb mdX12_cut 0 0 bX12_cut_0 [[], [], [], [1593], [], [], [], [], [], [1586], []] = true := by decide +kernel
theorem qX12_cut_21 : blkb mdX12_cut 22 21 bX12_cut_21 [[]] = true := by decide +kernel
theorem qX12_cut_22 : blkb mdX12_cut 0 22 bX12_cut_22 [[], [], [], [], [1342], [], [], [1497], [], [], [], [], [1342], [], [], [], [], [1497], [], [], [], [], [1342], [], [], [], [], [1497], [], [], [], [], [1342], [], [], [], [], [1497], [], [], []] = true := by decide +kernel
theorem qX12_cut_97 : blkb mdX12_cut 98 97 bX12_cut_97 [[]] = true := by decide +kernel
theorem qX12_cut_98 : blkb mdX12_cut 0 98 bX12_cut_98 [[], [], [], [], [], []] = true := by decide +kernel
theorem qX12_cut_110 : blkb mdX12_cut 0 110 bX12_cut_110 [[], [], [], []] = true := by decide +kernel
theorem qX12_cut_119 : blkb mdX12_cut 0 119 bX12_cut_119 [[], [1353], [], [], [], [], []] = true := by decide +kernel
theorem qX12_cut_132 : blkb mdX12_cut 133 132 bX12_cut_132 [[]] = true := by decide +kernel
theorem qX12_cut_133 : blkb mdX12_cut 0 133 bX12_cut_133 [[1500], [], [], []] = true := by decide +kernel
theorem qX12_cut_141 : blkb mdX12_cut 0 141 bX12_cut_141 [[], [1342], [], [], [], [1342], [], [], [], [], [], [], [1342], [], [], [], [], [], [], [1342], [], [], [], [], [], [], [], [], [], [], [], [], [], [], [], [1342], [], [], [], [], [1342], [], [], [], [], [], [], [1342], [], [], [], [], [], [], [1342], [], [], [], [], [], [], []] = true := by decide +kernel
theorem pX12_cut (hA : AOK) (r : Rt) (kb : Co) : RsB mdX12_cut r kb (rX12_cut kb) := by
  have h141 : RsB mdX12_cut r kb (tX12_cut_141 kb) := row_0
  have h133 : RsB mdX12_cut r kb (tX12_cut_133 kb) := row_B hA h141 qX12_cut_141 (ck_n rfl) rfl (fun xs ys s => eX12_cut_141 kb (xs.getD 0 0) (xs.getD 1 0) (xs.getD 2 0) (xs.getD 3 0) (xs.getD 4 0) (xs.getD 5 0) s)
  have h132 : RsB mdX12_cut r kb (tX12_cut_132 kb) := row_B hA h133 qX12_cut_133 (And.intro (co_of mkX12_holds (iX12_holds hA)) (ck_n rfl)) rfl (fun xs ys s => eX12_cut_133 kb (xs.getD 0 0) (xs.getD 1 0) (xs.getD 2 0) (xs.getD 3 0) (xs.getD 4 0) (xs.getD 5 0) (ys.getD 0 0) (ys.getD 1 0) s)
  have h119 : RsB mdX12_cut r kb (tX12_cut_119 kb) := row_B hA h132 qX12_cut_132 (ck_n rfl) rfl (fun xs ys s => eX12_cut_132 kb (xs.getD 0 0) (xs.getD 1 0) (xs.getD 2 0) (xs.getD 3 0) (xs.getD 4 0) (xs.getD 5 0) (ys.getD 0 0) s)
  have h110 : RsB mdX12_cut r kb (tX12_cut_110 kb) := row_B hA h119 qX12_cut_119 (ck_n rfl) rfl (fun xs ys s => eX12_cut_119 kb (xs.getD 0 0) (xs.getD 1 0) (xs.getD 2 0) (xs.getD 3 0) (xs.getD 4 0) (xs.getD 5 0) (xs.getD 6 0) (ys.getD 0 0) s)
  have h98 : RsB mdX12_cut r kb (tX12_cut_98 kb) := row_B hA h110 qX12_cut_110 (ck_n rfl) rfl (fun xs ys s => eX12_cut_110 kb (xs.getD 0 0) (xs.getD 1 0) (xs.getD 2 0) (xs.getD 3 0) (xs.getD 4 0) (xs.getD 5 0) (xs.getD 6 0) (xs.getD 7 0) (ys.getD 0 0) s)
  have h97 : RsB mdX12_cut r kb (tX12_cut_97 kb) := row_B hA h98 qX12_cut_98 (ck_n rfl) rfl (fun xs ys s => eX12_cut_98 kb (xs.getD 0 0) (xs.getD 1 0) (xs.getD 2 0) (xs.getD 3 0) (xs.getD 4 0) (xs.getD 5 0) (xs.getD 6 0) (xs.getD 7 0) (ys.getD 0 0) s)
  have h22 : RsB mdX12_cut r kb (tX12_cut_22 kb) := row_B hA h97 qX12_cut_97 (ck_n rfl) rfl (fun xs ys s => eX12_cut_97 kb (xs.getD 0 0) (xs.getD 1 0) (xs.getD 2 0) (xs.getD 3 0) (xs.getD 4 0) (xs.getD 5 0) (xs.getD 6 0) (xs.getD 7 0) s)
  have h21 : RsB mdX12_cut r kb (tX12_cut_21 kb) := row_B hA h22 qX12_cut_22 (And.intro trivial (And.intro trivial (And.intro trivial (And.intro trivial (And.intro trivial (And.intro trivial (And.intro trivial (And.intro (co_of mkX12_in (iX12_in hA)) (And.intro trivial (And.intro trivial (And.intro trivial (And.intro trivial (And.intro trivial (And.intro trivial (And.intro trivial (And.intro trivial (And.intro trivial (And.intro (co_of mkX12_in (iX12_in hA)) (And.intro trivial (And.intro trivial (And.intro trivial (And.intro trivial (And.intro trivial (And.intro trivial (And.intro trivial (And.intro trivial (And.intro trivial (And.intro (co_of mkX12_in (iX12_in hA)) (And.intro trivial (And.intro trivial (And.intro trivial (And.intro trivial (And.intro trivial (And.intro trivial (And.intro trivial (And.intro trivial (And.intro trivial (And.intro (co_of mkX12_in (iX12_in hA)) (ck_n rfl))))))))))))))))))))))))))))))))))))))) rfl (fun xs ys s => eX12_cut_22 kb (xs.getD 0 0) (xs.getD 1 0) (xs.getD 2 0) (xs.getD 3 0) (xs.getD 4 0) (xs.getD 5 0) (xs.getD 6 0) (ys.getD 0 0) s)
  have h0 : RsB mdX12_cut r kb (tX12_cut_0 kb) := row_B hA h21 qX12_cut_21 (ck_n rfl) rfl (fun xs ys s => eX12_cut_21 kb (xs.getD 0 0) (xs.getD 1 0) (xs.getD 2 0) (xs.getD 3 0) (xs.getD 4 0) (xs.getD 5 0) (xs.getD 6 0) s)
  exact row_B hA h0 qX12_cut_0 (And.intro trivial (And.intro trivial (And.intro trivial (And.intro (co_of mkX12_isFloat (iX12_isFloat hA)) (And.intro trivial (And.intro trivial (And.intro trivial (And.intro trivial (And.intro trivial (And.intro (co_of mkX12_at (iX12_at hA)) (ck_n rfl))))))))))) rfl (fun xs ys s => eX12_cut_0 kb (xs.getD 0 0) (xs.getD 1 0) (xs.getD 2 0) (xs.getD 3 0) (xs.getD 4 0) (xs.getD 5 0) (xs.getD 6 0) s)
theorem iX12_cut (hA : AOK) : Impl mdX12_cut gX12_cut := ent_B (kk := kX12_cut) (rr := rX12_cut) (f := fun kb => fun xs ys s => fX12_cut_0 kb (xs.getD 0 0) (xs.getD 1 0) (xs.getD 2 0) (xs.getD 3 0) (xs.getD 4 0) (xs.getD 5 0) (xs.getD 6 0) s) (by decide +kernel) rfl (fun _ => rfl) (fun r kb => pX12_cut hA r kb) (fun kb => ⟨_, rfl⟩) 0 id (fun xs s => rfl) (fun xs => wkl_rf _)
-- FloatparadeModel.isFit(II)Z
theorem mkX12_isFit : MK mdX12_isFit true := MKb_ok (h1 := 1604) (h2 := 76) (h3 := 1603) (h4 := 40) (by decide +kernel)
theorem qX12_isFit_0 : blkb mdX12_isFit 0 0 bX12_isFit_0 [[], [1331], [], [], [], [], [], [1586], [], [], [1350], [], [], [], [], [], []] = true := by decide +kernel
theorem qX12_isFit_28 : blkb mdX12_isFit 29 28 bX12_isFit_28 [[]] = true := by decide +kernel
theorem qX12_isFit_29 : blkb mdX12_isFit 34 29 bX12_isFit_29 [[], [], []] = true := by decide +kernel
theorem qX12_isFit_34 : blkb mdX12_isFit 0 34 bX12_isFit_34 [[], [], [1350], [], [], [], [], [], [], [], [], [1574], [], [], [], [], [1342], [], [], [], [1347], [], [], [], [], [], [], [1342], [], [], [], [], [], [1348], [], [], [], [], [], [], [1342], [], [], [], [], [], [1349], [], [], [], [], []] = true := by decide +kernel
theorem qX12_isFit_124 : blkb mdX12_isFit 125 124 bX12_isFit_124 [[]] = true := by decide +kernel
theorem qX12_isFit_125 : blkb mdX12_isFit 171 125 bX12_isFit_125 [[], [], [], [], [], [], [1342], [], [], [], [], [], [1347], [], [], [], [1347], [], [], [], [], [], [1574], [], [], []] = true := by decide +kernel
theorem qX12_isFit_171 : blkb mdX12_isFit 0 171 bX12_isFit_171 [[], []] = true := by decide +kernel
theorem qX12_isFit_175 : blkb mdX12_isFit 176 175 bX12_isFit_175 [[]] = true := by decide +kernel
theorem qX12_isFit_176 : blkb mdX12_isFit 0 176 bX12_isFit_176 [[], [], []] = true := by decide +kernel
theorem qX12_isFit_184 : blkb mdX12_isFit 0 184 bX12_isFit_184 [[], []] = true := by decide +kernel
theorem pX12_isFit (hA : AOK) (r : Rt) (kb : Co) : RsB mdX12_isFit r kb (rX12_isFit kb) := by
  have h184 : RsB mdX12_isFit r kb (tX12_isFit_184 kb) := row_0
  have h176 : RsB mdX12_isFit r kb (tX12_isFit_176 kb) := row_B hA h184 qX12_isFit_184 (ck_n rfl) rfl (fun xs ys s => eX12_isFit_184 kb (xs.getD 0 0) s)
  have h175 : RsB mdX12_isFit r kb (tX12_isFit_175 kb) := row_B hA h176 qX12_isFit_176 (ck_n rfl) rfl (fun xs ys s => eX12_isFit_176 kb (xs.getD 0 0) (xs.getD 1 0) (xs.getD 2 0) (xs.getD 3 0) (ys.getD 0 0) s)
  have h171 : RsB mdX12_isFit r kb (tX12_isFit_171 kb) := row_B hA h175 qX12_isFit_175 (ck_n rfl) rfl (fun xs ys s => eX12_isFit_175 kb (xs.getD 0 0) (xs.getD 1 0) (xs.getD 2 0) (xs.getD 3 0) s)
  have h125 : RsB mdX12_isFit r kb (tX12_isFit_125 kb) := row_B hA h171 qX12_isFit_171 (ck_n rfl) rfl (fun xs ys s => eX12_isFit_171 kb (xs.getD 0 0) (xs.getD 1 0) (xs.getD 2 0) (xs.getD 3 0) s)
  have h124 : RsB mdX12_isFit r kb (tX12_isFit_124 kb) := row_B hA h125 qX12_isFit_125 (And.intro trivial (And.intro trivial (And.intro trivial (And.intro trivial (And.intro trivial (And.intro trivial (And.intro trivial (And.intro trivial (And.intro trivial (And.intro trivial (And.intro trivial (And.intro trivial (And.intro trivial (And.intro trivial (And.intro trivial (And.intro trivial (And.intro trivial (And.intro trivial (And.intro trivial (And.intro trivial (And.intro trivial (And.intro trivial (And.intro (co_of mkX12_streetOf (iX12_streetOf hA)) (ck_n rfl)))))))))))))))))))))))) rfl (fun xs ys s => eX12_isFit_125 kb (xs.getD 0 0) (xs.getD 1 0) (xs.getD 2 0) (xs.getD 3 0) (xs.getD 4 0) (ys.getD 0 0) s)
  have h34 : RsB mdX12_isFit r kb (tX12_isFit_34 kb) := row_B hA h124 qX12_isFit_124 (ck_n rfl) rfl (fun xs ys s => eX12_isFit_124 kb (xs.getD 0 0) (xs.getD 1 0) (xs.getD 2 0) (xs.getD 3 0) (xs.getD 4 0) s)
  have h29 : RsB mdX12_isFit r kb (tX12_isFit_29 kb) := row_B hA h34 qX12_isFit_34 (And.intro trivial (And.intro trivial (And.intro trivial (And.intro trivial (And.intro trivial (And.intro trivial (And.intro trivial (And.intro trivial (And.intro trivial (And.intro trivial (And.intro trivial (And.intro (co_of mkX12_streetOf (iX12_streetOf hA)) (ck_n rfl))))))))))))) rfl (fun xs ys s => eX12_isFit_34 kb (xs.getD 0 0) (xs.getD 1 0) (xs.getD 2 0) (xs.getD 3 0) (xs.getD 4 0) s)
  have h28 : RsB mdX12_isFit r kb (tX12_isFit_28 kb) := row_B hA h29 qX12_isFit_29 (ck_n rfl) rfl (fun xs ys s => eX12_isFit_29 kb (xs.getD 0 0) (xs.getD 1 0) (xs.getD 2 0) (ys.getD 0 0) s)
  have h0 : RsB mdX12_isFit r kb (tX12_isFit_0 kb) := row_B hA h28 qX12_isFit_28 (ck_n rfl) rfl (fun xs ys s => eX12_isFit_28 kb (xs.getD 0 0) (xs.getD 1 0) (xs.getD 2 0) s)
  exact row_B hA h0 qX12_isFit_0 (And.intro trivial (And.intro trivial (And.intro trivial (And.intro trivial (And.intro trivial (And.intro trivial (And.intro trivial (And.intro (co_of mkX12_at (iX12_at hA)) (ck_n rfl))))))))) rfl (fun xs ys s => eX12_isFit_0 kb (xs.getD 0 0) (xs.getD 1 0) (xs.getD 2 0) s)
theorem iX12_isFit (hA : AOK) : Impl mdX12_isFit gX12_isFit := ent_B (kk := kX12_isFit) (rr := rX12_isFit) (f := fun kb => fun xs ys s => fX12_isFit_0 kb (xs.getD 0 0) (xs.getD 1 0) (xs.getD 2 0) s) (by decide +kernel) rfl (fun _ => rfl) (fun r kb => pX12_isFit hA r kb) (fun kb => ⟨_, rfl⟩) 9999 id (fun xs s => rfl) (fun xs => wkl_rf _)
-- FloatparadeModel.fits(II)Z
theorem mkX12_fits : MK mdX12_fits true := MKb_ok (h1 := 1600) (h2 := 76) (h3 := 1598) (h4 := 1599) (by decide +kernel)
theorem qX12_fits_0 : blkb mdX12_fits 0 0 bX12_fits_0 [[], [], [], [], [1593], [], [], []] = true := by decide +kernel
theorem qX12_fits_14 : blkb mdX12_fits 15 14 bX12_fits_14 [[]] = true := by decide +kernel
theorem qX12_fits_15 : blkb mdX12_fits 0 15 bX12_fits_15 [[1500], [], [], [], [], [1601], [], [], []] = true := by decide +kernel
theorem qX12_fits_34 : blkb mdX12_fits 35 34 bX12_fits_34 [[]] = true := by decide +kernel
theorem qX12_fits_35 : blkb mdX12_fits 0 35 bX12_fits_35 [[]] = true := by decide +kernel
theorem pX12_fits (hA : AOK) (r : Rt) (kb : Co) : RsB mdX12_fits r kb (rX12_fits kb) := by
  have h35 : RsB mdX12_fits r kb (tX12_fits_35 kb) := row_0
  have h34 : RsB mdX12_fits r kb (tX12_fits_34 kb) := row_B hA h35 qX12_fits_35 (ck_n rfl) rfl (fun xs ys s => eX12_fits_35 kb (ys.getD 0 0) s)
  have h15 : RsB mdX12_fits r kb (tX12_fits_15 kb) := row_B hA h34 qX12_fits_34 (ck_n rfl) rfl (fun xs ys s => eX12_fits_34 kb s)
  have h14 : RsB mdX12_fits r kb (tX12_fits_14 kb) := row_B hA h15 qX12_fits_15 (And.intro (co_of mkX12_holds (iX12_holds hA)) (And.intro trivial (And.intro trivial (And.intro trivial (And.intro trivial (And.intro (co_of mkX12_isFit (iX12_isFit hA)) (ck_n rfl))))))) rfl (fun xs ys s => eX12_fits_15 kb (xs.getD 0 0) (xs.getD 1 0) (xs.getD 2 0) (ys.getD 0 0) (ys.getD 1 0) s)
  have h0 : RsB mdX12_fits r kb (tX12_fits_0 kb) := row_B hA h14 qX12_fits_14 (ck_n rfl) rfl (fun xs ys s => eX12_fits_14 kb (xs.getD 0 0) (xs.getD 1 0) (xs.getD 2 0) (ys.getD 0 0) s)
  exact row_B hA h0 qX12_fits_0 (And.intro trivial (And.intro trivial (And.intro trivial (And.intro trivial (And.intro (co_of mkX12_isFloat (iX12_isFloat hA)) (ck_n rfl)))))) rfl (fun xs ys s => eX12_fits_0 kb (xs.getD 0 0) (xs.getD 1 0) (xs.getD 2 0) s)
theorem iX12_fits (hA : AOK) : Impl mdX12_fits gX12_fits := ent_B (kk := kX12_fits) (rr := rX12_fits) (f := fun kb => fun xs ys s => fX12_fits_0 kb (xs.getD 0 0) (xs.getD 1 0) (xs.getD 2 0) s) (by decide +kernel) rfl (fun _ => rfl) (fun r kb => pX12_fits hA r kb) (fun kb => ⟨_, rfl⟩) 0 id (fun xs s => rfl) (fun xs => wkl_rf _)
