-- FloatparadeModel.part(III)I
theorem mkX12_part : MK mdX12_part true := MKb_ok (h1 := 1712) (h2 := 76) (h3 := 1710) (h4 := 1711) (by decide +kernel)
theorem qX12_part_0 : blkb mdX12_part 0 0 bX12_part_0 [[], [1494], [], [], [], [], [1497], [], [], []] = true := by decide +kernel
theorem qX12_part_20 : blkb mdX12_part 21 20 bX12_part_20 [[]] = true := by decide +kernel
theorem qX12_part_21 : blkb mdX12_part 0 21 bX12_part_21 [[], [], [], [], [1359], [], [], [], [], []] = true := by decide +kernel
theorem qX12_part_41 : blkb mdX12_part 42 41 bX12_part_41 [[]] = true := by decide +kernel
theorem qX12_part_42 : blkb mdX12_part 0 42 bX12_part_42 [[], [], [], [], [], []] = true := by decide +kernel
theorem qX12_part_54 : blkb mdX12_part 0 54 bX12_part_54 [[], [], [], []] = true := by decide +kernel
theorem qX12_part_63 : blkb mdX12_part 0 63 bX12_part_63 [[], [], [], [1363], [], [], [], [], [1497], [], [], []] = true := by decide +kernel
theorem qX12_part_83 : blkb mdX12_part 84 83 bX12_part_83 [[]] = true := by decide +kernel
theorem qX12_part_84 : blkb mdX12_part 0 84 bX12_part_84 [[1500], [], [], []] = true := by decide +kernel
theorem qX12_part_92 : blkb mdX12_part 0 92 bX12_part_92 [[], [], [], [], [], [], [], [], [], [], [], [], [1364], [], [], []] = true := by decide +kernel
theorem qX12_part_119 : blkb mdX12_part 0 119 bX12_part_119 [[], [], [], [], [1365], [], [], []] = true := by decide +kernel
theorem qX12_part_134 : blkb mdX12_part 141 134 bX12_part_134 [[], [1367], [], []] = true := by decide +kernel
theorem qX12_part_141 : blkb mdX12_part 0 141 bX12_part_141 [[]] = true := by decide +kernel
theorem qX12_part_142 : blkb mdX12_part 0 142 bX12_part_142 [[], [], [], [], [1366], [], [], []] = true := by decide +kernel
theorem qX12_part_157 : blkb mdX12_part 0 157 bX12_part_157 [[], [], [], [1661], [], [], []] = true := by decide +kernel
theorem qX12_part_170 : blkb mdX12_part 171 170 bX12_part_170 [[]] = true := by decide +kernel
theorem qX12_part_171 : blkb mdX12_part 0 171 bX12_part_171 [[]] = true := by decide +kernel
theorem pX12_part (hA : AOK) (r : Rt) (kb : Co) : RsB mdX12_part r kb (rX12_part kb) := by
  have h171 : RsB mdX12_part r kb (tX12_part_171 kb) := row_0
  have h170 : RsB mdX12_part r kb (tX12_part_170 kb) := row_B hA h171 qX12_part_171 (ck_n rfl) rfl (fun xs ys s => eX12_part_171 kb (ys.getD 0 0) s)
  have h157 : RsB mdX12_part r kb (tX12_part_157 kb) := row_B hA h170 qX12_part_170 (ck_n rfl) rfl (fun xs ys s => eX12_part_170 kb s)
  have h142 : RsB mdX12_part r kb (tX12_part_142 kb) := row_B hA h157 qX12_part_157 (And.intro trivial (And.intro trivial (And.intro trivial (And.intro (co_of mkX12_isOut (iX12_isOut hA)) (ck_n rfl))))) rfl (fun xs ys s => eX12_part_157 kb (xs.getD 0 0) (xs.getD 1 0) (xs.getD 2 0) s)
  have h141 : RsB mdX12_part r kb (tX12_part_141 kb) := row_B hA h142 qX12_part_142 (ck_n rfl) rfl (fun xs ys s => eX12_part_142 kb (xs.getD 0 0) (xs.getD 1 0) (xs.getD 2 0) (xs.getD 3 0) (xs.getD 4 0) s)
  have h134 : RsB mdX12_part r kb (tX12_part_134 kb) := row_B hA h141 qX12_part_141 (ck_n rfl) rfl (fun xs ys s => eX12_part_141 kb (ys.getD 0 0) s)
  have h119 : RsB mdX12_part r kb (tX12_part_119 kb) := row_B hA h134 qX12_part_134 (ck_n rfl) rfl (fun xs ys s => eX12_part_134 kb (xs.getD 0 0) (xs.getD 1 0) s)
  have h92 : RsB mdX12_part r kb (tX12_part_92 kb) := row_B hA h119 qX12_part_119 (ck_n rfl) rfl (fun xs ys s => eX12_part_119 kb (xs.getD 0 0) (xs.getD 1 0) (xs.getD 2 0) s)
  have h84 : RsB mdX12_part r kb (tX12_part_84 kb) := row_B hA h92 qX12_part_92 (ck_n rfl) rfl (fun xs ys s => eX12_part_92 kb (xs.getD 0 0) (xs.getD 1 0) (xs.getD 2 0) (xs.getD 3 0) s)
  have h83 : RsB mdX12_part r kb (tX12_part_83 kb) := row_B hA h84 qX12_part_84 (And.intro (co_of mkX12_holds (iX12_holds hA)) (ck_n rfl)) rfl (fun xs ys s => eX12_part_84 kb (xs.getD 0 0) (xs.getD 1 0) (xs.getD 2 0) (xs.getD 3 0) (ys.getD 0 0) (ys.getD 1 0) s)
  have h63 : RsB mdX12_part r kb (tX12_part_63 kb) := row_B hA h83 qX12_part_83 (ck_n rfl) rfl (fun xs ys s => eX12_part_83 kb (xs.getD 0 0) (xs.getD 1 0) (xs.getD 2 0) (xs.getD 3 0) (ys.getD 0 0) s)
  have h54 : RsB mdX12_part r kb (tX12_part_54 kb) := row_B hA h63 qX12_part_63 (And.intro trivial (And.intro trivial (And.intro trivial (And.intro trivial (And.intro trivial (And.intro trivial (And.intro trivial (And.intro trivial (And.intro (co_of mkX12_in (iX12_in hA)) (ck_n rfl)))))))))) rfl (fun xs ys s => eX12_part_63 kb (xs.getD 0 0) (xs.getD 1 0) (xs.getD 2 0) (xs.getD 3 0) (ys.getD 0 0) s)
  have h42 : RsB mdX12_part r kb (tX12_part_42 kb) := row_B hA h54 qX12_part_54 (ck_n rfl) rfl (fun xs ys s => eX12_part_54 kb (xs.getD 0 0) (xs.getD 1 0) (xs.getD 2 0) (xs.getD 3 0) (xs.getD 4 0) (ys.getD 0 0) s)
  have h41 : RsB mdX12_part r kb (tX12_part_41 kb) := row_B hA h42 qX12_part_42 (ck_n rfl) rfl (fun xs ys s => eX12_part_42 kb (xs.getD 0 0) (xs.getD 1 0) (xs.getD 2 0) (xs.getD 3 0) (xs.getD 4 0) (ys.getD 0 0) s)
  have h21 : RsB mdX12_part r kb (tX12_part_21 kb) := row_B hA h41 qX12_part_41 (ck_n rfl) rfl (fun xs ys s => eX12_part_41 kb (xs.getD 0 0) (xs.getD 1 0) (xs.getD 2 0) (xs.getD 3 0) (xs.getD 4 0) s)
  have h20 : RsB mdX12_part r kb (tX12_part_20 kb) := row_B hA h21 qX12_part_21 (ck_n rfl) rfl (fun xs ys s => eX12_part_21 kb (xs.getD 0 0) (xs.getD 1 0) (xs.getD 2 0) (xs.getD 3 0) (ys.getD 0 0) s)
  have h0 : RsB mdX12_part r kb (tX12_part_0 kb) := row_B hA h20 qX12_part_20 (ck_n rfl) rfl (fun xs ys s => eX12_part_20 kb (xs.getD 0 0) (xs.getD 1 0) (xs.getD 2 0) (xs.getD 3 0) s)
  exact row_B hA h0 qX12_part_0 (And.intro trivial (And.intro (co_of mkX12_isLeague (iX12_isLeague hA)) (And.intro trivial (And.intro trivial (And.intro trivial (And.intro trivial (And.intro (co_of mkX12_in (iX12_in hA)) (ck_n rfl)))))))) rfl (fun xs ys s => eX12_part_0 kb (xs.getD 0 0) (xs.getD 1 0) (xs.getD 2 0) (xs.getD 3 0) s)
theorem iX12_part (hA : AOK) : Impl mdX12_part gX12_part := ent_B (kk := kX12_part) (rr := rX12_part) (f := fun kb => fun xs ys s => fX12_part_0 kb (xs.getD 0 0) (xs.getD 1 0) (xs.getD 2 0) (xs.getD 3 0) s) (by decide +kernel) rfl (fun _ => rfl) (fun r kb => pX12_part hA r kb) (fun kb => ⟨_, rfl⟩) 0 id (fun xs s => rfl) (fun xs => wkl_rf _)
-- FloatparadeModel.clock(II)I
theorem mkX12_clock : MK mdX12_clock true := MKb_ok (h1 := 1716) (h2 := 76) (h3 := 1714) (h4 := 1715) (by decide +kernel)
theorem qX12_clock_0 : blkb mdX12_clock 0 0 bX12_clock_0 [[], [], [], [1508], [], [], []] = true := by decide +kernel
theorem qX12_clock_13 : blkb mdX12_clock 0 13 bX12_clock_13 [[], [], [], [1497], [], [], []] = true := by decide +kernel
theorem qX12_clock_26 : blkb mdX12_clock 27 26 bX12_clock_26 [[]] = true := by decide +kernel
theorem qX12_clock_27 : blkb mdX12_clock 0 27 bX12_clock_27 [[1500], [], [], []] = true := by decide +kernel
theorem qX12_clock_35 : blkb mdX12_clock 0 35 bX12_clock_35 [[], [], [], [1372], [], [], []] = true := by decide +kernel
theorem qX12_clock_48 : blkb mdX12_clock 0 48 bX12_clock_48 [[], [], [], [], [1373], [], [], []] = true := by decide +kernel
theorem qX12_clock_62 : blkb mdX12_clock 0 62 bX12_clock_62 [[], [], [], [], [1374], [], [], []] = true := by decide +kernel
theorem qX12_clock_76 : blkb mdX12_clock 81 76 bX12_clock_76 [[], [], [1701]] = true := by decide +kernel
theorem qX12_clock_81 : blkb mdX12_clock 0 81 bX12_clock_81 [[]] = true := by decide +kernel
theorem pX12_clock (hA : AOK) (r : Rt) (kb : Co) : RsB mdX12_clock r kb (rX12_clock kb) := by
  have h81 : RsB mdX12_clock r kb (tX12_clock_81 kb) := row_0
  have h76 : RsB mdX12_clock r kb (tX12_clock_76 kb) := row_B hA h81 qX12_clock_81 (ck_n rfl) rfl (fun xs ys s => eX12_clock_81 kb (ys.getD 0 0) s)
  have h62 : RsB mdX12_clock r kb (tX12_clock_62 kb) := row_B hA h76 qX12_clock_76 (And.intro trivial (And.intro trivial (And.intro (co_of mkX12_timeOf (iX12_timeOf hA)) (ck_n rfl)))) rfl (fun xs ys s => eX12_clock_76 kb (xs.getD 0 0) (xs.getD 1 0) s)
  have h48 : RsB mdX12_clock r kb (tX12_clock_48 kb) := row_B hA h62 qX12_clock_62 (ck_n rfl) rfl (fun xs ys s => eX12_clock_62 kb (xs.getD 0 0) (xs.getD 1 0) (xs.getD 2 0) s)
  have h35 : RsB mdX12_clock r kb (tX12_clock_35 kb) := row_B hA h48 qX12_clock_48 (ck_n rfl) rfl (fun xs ys s => eX12_clock_48 kb (xs.getD 0 0) (xs.getD 1 0) (xs.getD 2 0) s)
  have h27 : RsB mdX12_clock r kb (tX12_clock_27 kb) := row_B hA h35 qX12_clock_35 (ck_n rfl) rfl (fun xs ys s => eX12_clock_35 kb (xs.getD 0 0) (xs.getD 1 0) (xs.getD 2 0) s)
  have h26 : RsB mdX12_clock r kb (tX12_clock_26 kb) := row_B hA h27 qX12_clock_27 (And.intro (co_of mkX12_holds (iX12_holds hA)) (ck_n rfl)) rfl (fun xs ys s => eX12_clock_27 kb (xs.getD 0 0) (xs.getD 1 0) (xs.getD 2 0) (ys.getD 0 0) (ys.getD 1 0) s)
  have h13 : RsB mdX12_clock r kb (tX12_clock_13 kb) := row_B hA h26 qX12_clock_26 (ck_n rfl) rfl (fun xs ys s => eX12_clock_26 kb (xs.getD 0 0) (xs.getD 1 0) (xs.getD 2 0) (ys.getD 0 0) s)
  have h0 : RsB mdX12_clock r kb (tX12_clock_0 kb) := row_B hA h13 qX12_clock_13 (And.intro trivial (And.intro trivial (And.intro trivial (And.intro (co_of mkX12_in (iX12_in hA)) (ck_n rfl))))) rfl (fun xs ys s => eX12_clock_13 kb (xs.getD 0 0) (xs.getD 1 0) (xs.getD 2 0) (ys.getD 0 0) s)
  exact row_B hA h0 qX12_clock_0 (And.intro trivial (And.intro trivial (And.intro trivial (And.intro (co_of mkX12_isSociety (iX12_isSociety hA)) (ck_n rfl))))) rfl (fun xs ys s => eX12_clock_0 kb (xs.getD 0 0) (xs.getD 1 0) (xs.getD 2 0) s)
theorem iX12_clock (hA : AOK) : Impl mdX12_clock gX12_clock := ent_B (kk := kX12_clock) (rr := rX12_clock) (f := fun kb => fun xs ys s => fX12_clock_0 kb (xs.getD 0 0) (xs.getD 1 0) (xs.getD 2 0) s) (by decide +kernel) rfl (fun _ => rfl) (fun r kb => pX12_clock hA r kb) (fun kb => ⟨_, rfl⟩) 0 id (fun xs s => rfl) (fun xs => wkl_rf _)
-- FloatparadeModel.hasMarched(I)Z
theorem mkX12_hasMarched : MK mdX12_hasMarched true := MKb_ok (h1 := 1724) (h2 := 76) (h3 := 1723) (h4 := 59) (by decide +kernel)
theorem qX12_hasMarched_0 : blkb mdX12_hasMarched 0 0 bX12_hasMarched_0 [[], [1353], [], [], [], [], [1359], [], [1331], [], [], [], [], [], [], []] = true := by decide +kernel
theorem qX12_hasMarched_28 : blkb mdX12_hasMarched 29 28 bX12_hasMarched_28 [[]] = true := by decide +kernel
theorem qX12_hasMarched_29 : blkb mdX12_hasMarched 0 29 bX12_hasMarched_29 [[]] = true := by decide +kernel
theorem pX12_hasMarched (hA : AOK) (r : Rt) (kb : Co) : RsB mdX12_hasMarched r kb (rX12_hasMarched kb) := by
  have h29 : RsB mdX12_hasMarched r kb (tX12_hasMarched_29 kb) := row_0
  have h28 : RsB mdX12_hasMarched r kb (tX12_hasMarched_28 kb) := row_B hA h29 qX12_hasMarched_29 (ck_n rfl) rfl (fun xs ys s => eX12_hasMarched_29 kb (ys.getD 0 0) s)
  have h0 : RsB mdX12_hasMarched r kb (tX12_hasMarched_0 kb) := row_B hA h28 qX12_hasMarched_28 (ck_n rfl) rfl (fun xs ys s => eX12_hasMarched_28 kb s)
  exact row_B hA h0 qX12_hasMarched_0 (ck_n rfl) rfl (fun xs ys s => eX12_hasMarched_0 kb (xs.getD 0 0) (xs.getD 1 0) s)
theorem iX12_hasMarched (hA : AOK) : Impl mdX12_hasMarched gX12_hasMarched := ent_B (kk := kX12_hasMarched) (rr := rX12_hasMarched) (f := fun kb => fun xs ys s => fX12_hasMarched_0 kb (xs.getD 0 0) (xs.getD 1 0) s) (by decide +kernel) rfl (fun _ => rfl) (fun r kb => pX12_hasMarched hA r kb) (fun kb => ⟨_, rfl⟩) 0 id (fun xs s => rfl) (fun xs => wkl_rf _)
-- FloatparadeModel.note(IIII)I
theorem mkX12_note : MK mdX12_note true := MKb_ok (h1 := 1720) (h2 := 76) (h3 := 1718) (h4 := 1719) (by decide +kernel)
theorem qX12_note_0 : blkb mdX12_note 0 0 bX12_note_0 [[], [], [1508], [], [], [], [], [1497], [], [], [], [], [1497], [], [], [], [], [1497], [], [], []] = true := by decide +kernel
theorem qX12_note_41 : blkb mdX12_note 42 41 bX12_note_41 [[]] = true := by decide +kernel
theorem qX12_note_42 : blkb mdX12_note 0 42 bX12_note_42 [[], [], [], [], [], []] = true := by decide +kernel
theorem qX12_note_54 : blkb mdX12_note 0 54 bX12_note_54 [[], [], [], []] = true := by decide +kernel
theorem qX12_note_63 : blkb mdX12_note 0 63 bX12_note_63 [[], [], [1721], [], [], []] = true := by decide +kernel
theorem qX12_note_75 : blkb mdX12_note 76 75 bX12_note_75 [[]] = true := by decide +kernel
theorem qX12_note_76 : blkb mdX12_note 0 76 bX12_note_76 [[1500], [], [], []] = true := by decide +kernel
theorem qX12_note_84 : blkb mdX12_note 0 84 bX12_note_84 [[], [], [], [], [], [], [], [], [], [], [], [1375], [], [], [], [], []] = true := by decide +kernel
theorem qX12_note_110 : blkb mdX12_note 117 110 bX12_note_110 [[], [1375], [], []] = true := by decide +kernel
theorem qX12_note_117 : blkb mdX12_note 0 117 bX12_note_117 [[], [], [1375], [], [], [], [], []] = true := by decide +kernel
theorem pX12_note (hA : AOK) (r : Rt) (kb : Co) : RsB mdX12_note r kb (rX12_note kb) := by
  have h117 : RsB mdX12_note r kb (tX12_note_117 kb) := row_0
  have h110 : RsB mdX12_note r kb (tX12_note_110 kb) := row_B hA h117 qX12_note_117 (ck_n rfl) rfl (fun xs ys s => eX12_note_117 kb (xs.getD 0 0) (xs.getD 1 0) (xs.getD 2 0) (ys.getD 0 0) s)
  have h84 : RsB mdX12_note r kb (tX12_note_84 kb) := row_B hA h110 qX12_note_110 (ck_n rfl) rfl (fun xs ys s => eX12_note_110 kb (xs.getD 0 0) (xs.getD 1 0) (xs.getD 2 0) s)
  have h76 : RsB mdX12_note r kb (tX12_note_76 kb) := row_B hA h84 qX12_note_84 (ck_n rfl) rfl (fun xs ys s => eX12_note_84 kb (xs.getD 0 0) (xs.getD 1 0) (xs.getD 2 0) (xs.getD 3 0) (xs.getD 4 0) s)
  have h75 : RsB mdX12_note r kb (tX12_note_75 kb) := row_B hA h76 qX12_note_76 (And.intro (co_of mkX12_holds (iX12_holds hA)) (ck_n rfl)) rfl (fun xs ys s => eX12_note_76 kb (xs.getD 0 0) (xs.getD 1 0) (xs.getD 2 0) (xs.getD 3 0) (xs.getD 4 0) (ys.getD 0 0) (ys.getD 1 0) s)
  have h63 : RsB mdX12_note r kb (tX12_note_63 kb) := row_B hA h75 qX12_note_75 (ck_n rfl) rfl (fun xs ys s => eX12_note_75 kb (xs.getD 0 0) (xs.getD 1 0) (xs.getD 2 0) (xs.getD 3 0) (xs.getD 4 0) (ys.getD 0 0) s)
  have h54 : RsB mdX12_note r kb (tX12_note_54 kb) := row_B hA h63 qX12_note_63 (And.intro trivial (And.intro trivial (And.intro (co_of mkX12_hasMarched (iX12_hasMarched hA)) (ck_n rfl)))) rfl (fun xs ys s => eX12_note_63 kb (xs.getD 0 0) (xs.getD 1 0) (xs.getD 2 0) (xs.getD 3 0) (xs.getD 4 0) (ys.getD 0 0) s)
  have h42 : RsB mdX12_note r kb (tX12_note_42 kb) := row_B hA h54 qX12_note_54 (ck_n rfl) rfl (fun xs ys s => eX12_note_54 kb (xs.getD 0 0) (xs.getD 1 0) (xs.getD 2 0) (xs.getD 3 0) (xs.getD 4 0) (xs.getD 5 0) (ys.getD 0 0) s)
  have h41 : RsB mdX12_note r kb (tX12_note_41 kb) := row_B hA h42 qX12_note_42 (ck_n rfl) rfl (fun xs ys s => eX12_note_42 kb (xs.getD 0 0) (xs.getD 1 0) (xs.getD 2 0) (xs.getD 3 0) (xs.getD 4 0) (xs.getD 5 0) (ys.getD 0 0) s)
  have h0 : RsB mdX12_note r kb (tX12_note_0 kb) := row_B hA h41 qX12_note_41 (ck_n rfl) rfl (fun xs ys s => eX12_note_41 kb (xs.getD 0 0) (xs.getD 1 0) (xs.getD 2 0) (xs.getD 3 0) (xs.getD 4 0) (xs.getD 5 0) s)
  exact row_B hA h0 qX12_note_0 (And.intro trivial (And.intro trivial (And.intro (co_of mkX12_isSociety (iX12_isSociety hA)) (And.intro trivial (And.intro trivial (And.intro trivial (And.intro trivial (And.intro (co_of mkX12_in (iX12_in hA)) (And.intro trivial (And.intro trivial (And.intro trivial (And.intro trivial (And.intro (co_of mkX12_in (iX12_in hA)) (And.intro trivial (And.intro trivial (And.intro trivial (And.intro trivial (And.intro (co_of mkX12_in (iX12_in hA)) (ck_n rfl))))))))))))))))))) rfl (fun xs ys s => eX12_note_0 kb (xs.getD 0 0) (xs.getD 1 0) (xs.getD 2 0) (xs.getD 3 0) (xs.getD 4 0) s)
theorem iX12_note (hA : AOK) : Impl mdX12_note gX12_note := ent_B (kk := kX12_note) (rr := rX12_note) (f := fun kb => fun xs ys s => fX12_note_0 kb (xs.getD 0 0) (xs.getD 1 0) (xs.getD 2 0) (xs.getD 3 0) (xs.getD 4 0) s) (by decide +kernel) rfl (fun _ => rfl) (fun r kb => pX12_note hA r kb) (fun kb => ⟨_, rfl⟩) 0 id (fun xs s => rfl) (fun xs => wkl_rf _)
-- FloatparadeModel.penalty(III)I
theorem mkX12_penalty : MK mdX12_penalty true := MKb_ok (h1 := 1728) (h2 := 76) (h3 := 1726) (h4 := 1727) (by decide +kernel)
theorem qX12_penalty_0 : blkb mdX12_penalty 0 0 bX12_penalty_0 [[], [], [1508], [], [], [], [], [1497], [], [], [], [], [1497], [], [], []] = true := by decide +kernel
theorem qX12_penalty_31 : blkb mdX12_penalty 32 31 bX12_penalty_31 [[]] = true := by decide +kernel
theorem qX12_penalty_32 : blkb mdX12_penalty 0 32 bX12_penalty_32 [[], [], [], [], [], []] = true := by decide +kernel
theorem qX12_penalty_44 : blkb mdX12_penalty 0 44 bX12_penalty_44 [[], [], [], []] = true := by decide +kernel
theorem qX12_penalty_53 : blkb mdX12_penalty 72 53 bX12_penalty_53 [[], [], [1721], [], [], [1376], [], [], [], []] = true := by decide +kernel
theorem qX12_penalty_72 : blkb mdX12_penalty 0 72 bX12_penalty_72 [[], []] = true := by decide +kernel
theorem qX12_penalty_76 : blkb mdX12_penalty 77 76 bX12_penalty_76 [[]] = true := by decide +kernel
theorem qX12_penalty_77 : blkb mdX12_penalty 0 77 bX12_penalty_77 [[1500], [], [], []] = true := by decide +kernel
theorem qX12_penalty_85 : blkb mdX12_penalty 0 85 bX12_penalty_85 [[], [], [], [], [1705], [], [1376], [], [], []] = true := by decide +kernel
theorem pX12_penalty (hA : AOK) (r : Rt) (kb : Co) : RsB mdX12_penalty r kb (rX12_penalty kb) := by
  have h85 : RsB mdX12_penalty r kb (tX12_penalty_85 kb) := row_0
  have h77 : RsB mdX12_penalty r kb (tX12_penalty_77 kb) := row_B hA h85 qX12_penalty_85 (And.intro trivial (And.intro trivial (And.intro trivial (And.intro trivial (And.intro (co_of mkX12_penalizes (iX12_penalizes hA)) (ck_n rfl)))))) rfl (fun xs ys s => eX12_penalty_85 kb (xs.getD 0 0) (xs.getD 1 0) (xs.getD 2 0) (xs.getD 3 0) s)
  have h76 : RsB mdX12_penalty r kb (tX12_penalty_76 kb) := row_B hA h77 qX12_penalty_77 (And.intro (co_of mkX12_holds (iX12_holds hA)) (ck_n rfl)) rfl (fun xs ys s => eX12_penalty_77 kb (xs.getD 0 0) (xs.getD 1 0) (xs.getD 2 0) (xs.getD 3 0) (ys.getD 0 0) (ys.getD 1 0) s)
  have h72 : RsB mdX12_penalty r kb (tX12_penalty_72 kb) := row_B hA h76 qX12_penalty_76 (ck_n rfl) rfl (fun xs ys s => eX12_penalty_76 kb (xs.getD 0 0) (xs.getD 1 0) (xs.getD 2 0) (xs.getD 3 0) (ys.getD 0 0) s)
  have h53 : RsB mdX12_penalty r kb (tX12_penalty_53 kb) := row_B hA h72 qX12_penalty_72 (ck_n rfl) rfl (fun xs ys s => eX12_penalty_72 kb (xs.getD 0 0) (xs.getD 1 0) (xs.getD 2 0) (xs.getD 3 0) (ys.getD 0 0) s)
  have h44 : RsB mdX12_penalty r kb (tX12_penalty_44 kb) := row_B hA h53 qX12_penalty_53 (And.intro trivial (And.intro trivial (And.intro (co_of mkX12_hasMarched (iX12_hasMarched hA)) (ck_n rfl)))) rfl (fun xs ys s => eX12_penalty_53 kb (xs.getD 0 0) (xs.getD 1 0) (xs.getD 2 0) (xs.getD 3 0) (ys.getD 0 0) s)
  have h32 : RsB mdX12_penalty r kb (tX12_penalty_32 kb) := row_B hA h44 qX12_penalty_44 (ck_n rfl) rfl (fun xs ys s => eX12_penalty_44 kb (xs.getD 0 0) (xs.getD 1 0) (xs.getD 2 0) (xs.getD 3 0) (xs.getD 4 0) (ys.getD 0 0) s)
  have h31 : RsB mdX12_penalty r kb (tX12_penalty_31 kb) := row_B hA h32 qX12_penalty_32 (ck_n rfl) rfl (fun xs ys s => eX12_penalty_32 kb (xs.getD 0 0) (xs.getD 1 0) (xs.getD 2 0) (xs.getD 3 0) (xs.getD 4 0) (ys.getD 0 0) s)
  have h0 : RsB mdX12_penalty r kb (tX12_penalty_0 kb) := row_B hA h31 qX12_penalty_31 (ck_n rfl) rfl (fun xs ys s => eX12_penalty_31 kb (xs.getD 0 0) (xs.getD 1 0) (xs.getD 2 0) (xs.getD 3 0) (xs.getD 4 0) s)
  exact row_B hA h0 qX12_penalty_0 (And.intro trivial (And.intro trivial (And.intro (co_of mkX12_isSociety (iX12_isSociety hA)) (And.intro trivial (And.intro trivial (And.intro trivial (And.intro trivial (And.intro (co_of mkX12_in (iX12_in hA)) (And.intro trivial (And.intro trivial (And.intro trivial (And.intro trivial (And.intro (co_of mkX12_in (iX12_in hA)) (ck_n rfl)))))))))))))) rfl (fun xs ys s => eX12_penalty_0 kb (xs.getD 0 0) (xs.getD 1 0) (xs.getD 2 0) (xs.getD 3 0) s)
theorem iX12_penalty (hA : AOK) : Impl mdX12_penalty gX12_penalty := ent_B (kk := kX12_penalty) (rr := rX12_penalty) (f := fun kb => fun xs ys s => fX12_penalty_0 kb (xs.getD 0 0) (xs.getD 1 0) (xs.getD 2 0) (xs.getD 3 0) s) (by decide +kernel) rfl (fun _ => rfl) (fun r kb => pX12_penalty hA r kb) (fun kb => ⟨_, rfl⟩) 0 id (fun xs s => rfl) (fun xs => wkl_rf _)
-- FloatparadeModel.noteSum(II)I
theorem mkX12_noteSum : MK mdX12_noteSum true := MKb_ok (h1 := 1744) (h2 := 76) (h3 := 1743) (h4 := 62) (by decide +kernel)
theorem qX12_noteSum_0 : blkb mdX12_noteSum 16 0 bX12_noteSum_0 [[], [], [], [], [], [], [], [], [], []] = true := by decide +kernel
theorem qX12_noteSum_16 : blkb mdX12_noteSum 0 16 bX12_noteSum_16 [[], [], [], [], [1375], [], [], [], [], [], [], [], [], [], [], [], [], [], [], [], [], [], [], [], []] = true := by decide +kernel
theorem qX12_noteSum_56 : blkb mdX12_noteSum 57 56 bX12_noteSum_56 [[]] = true := by decide +kernel
theorem qX12_noteSum_57 : blkb mdX12_noteSum 0 57 bX12_noteSum_57 [[], [], [], [], [], [], [], [], []] = true := by decide +kernel
theorem qX12_noteSum_77 : blkb mdX12_noteSum 79 77 bX12_noteSum_77 [[]] = true := by decide +kernel
theorem qX12_noteSum_79 : blkb mdX12_noteSum 0 79 bX12_noteSum_79 [[], [], [], [], [], []] = true := by decide +kernel
theorem qX12_noteSum_93 : blkb mdX12_noteSum 95 93 bX12_noteSum_93 [[]] = true := by decide +kernel
theorem qX12_noteSum_95 : blkb mdX12_noteSum 0 95 bX12_noteSum_95 [[], [], []] = true := by decide +kernel
theorem qX12_noteSum_103 : blkb mdX12_noteSum 0 103 bX12_noteSum_103 [[], [], [], [], [], []] = true := by decide +kernel
theorem qX12_noteSum_115 : blkb mdX12_noteSum 116 115 bX12_noteSum_115 [[]] = true := by decide +kernel
theorem qX12_noteSum_116 : blkb mdX12_noteSum 0 116 bX12_noteSum_116 [[], [], [], [], [], []] = true := by decide +kernel
theorem qX12_noteSum_128 : blkb mdX12_noteSum 129 128 bX12_noteSum_128 [[]] = true := by decide +kernel
theorem qX12_noteSum_129 : blkb mdX12_noteSum 0 129 bX12_noteSum_129 [[], []] = true := by decide +kernel
theorem pX12_noteSum (hA : AOK) (r : Rt) (kb : Co) : RsB mdX12_noteSum r kb (rX12_noteSum kb) := by
  have h129 : RsB mdX12_noteSum r kb (tX12_noteSum_129 kb) := row_0
  have h128 : RsB mdX12_noteSum r kb (tX12_noteSum_128 kb) := row_B hA h129 qX12_noteSum_129 (ck_n rfl) rfl (fun xs ys s => eX12_noteSum_129 kb (ys.getD 0 0) (ys.getD 1 0) s)
  have h116 : RsB mdX12_noteSum r kb (tX12_noteSum_116 kb) := row_B hA h128 qX12_noteSum_128 (ck_n rfl) rfl (fun xs ys s => eX12_noteSum_128 kb (ys.getD 0 0) s)
  have h115 : RsB mdX12_noteSum r kb (tX12_noteSum_115 kb) := row_B hA h116 qX12_noteSum_116 (ck_n rfl) rfl (fun xs ys s => eX12_noteSum_116 kb (xs.getD 0 0) (xs.getD 1 0) (ys.getD 0 0) (ys.getD 1 0) s)
  have h103 : RsB mdX12_noteSum r kb (tX12_noteSum_103 kb) := row_B hA h115 qX12_noteSum_115 (ck_n rfl) rfl (fun xs ys s => eX12_noteSum_115 kb (xs.getD 0 0) (xs.getD 1 0) (ys.getD 0 0) s)
  have h95 : RsB mdX12_noteSum r kb (tX12_noteSum_95 kb) := row_B hA h103 qX12_noteSum_103 (ck_n rfl) rfl (fun xs ys s => eX12_noteSum_103 kb (xs.getD 0 0) (xs.getD 1 0) (xs.getD 2 0) (xs.getD 3 0) s)
  have h93 : RsB mdX12_noteSum r kb (tX12_noteSum_93 kb) := row_B hA h95 qX12_noteSum_95 (ck_n rfl) rfl (fun xs ys s => eX12_noteSum_95 kb (xs.getD 0 0) (xs.getD 1 0) (xs.getD 2 0) (xs.getD 3 0) (xs.getD 4 0) (xs.getD 5 0) (xs.getD 6 0) (ys.getD 0 0) s)
  have h79 : RsB mdX12_noteSum r kb (tX12_noteSum_79 kb) := row_B hA h93 qX12_noteSum_93 (ck_n rfl) rfl (fun xs ys s => eX12_noteSum_93 kb (xs.getD 0 0) (xs.getD 1 0) (xs.getD 2 0) (xs.getD 3 0) (xs.getD 4 0) (xs.getD 5 0) (xs.getD 6 0) (xs.getD 7 0) s)
  have h77 : RsB mdX12_noteSum r kb (tX12_noteSum_77 kb) := row_B hA h79 qX12_noteSum_79 (ck_n rfl) rfl (fun xs ys s => eX12_noteSum_79 kb (xs.getD 0 0) (xs.getD 1 0) (xs.getD 2 0) (xs.getD 3 0) (xs.getD 4 0) (xs.getD 5 0) (xs.getD 6 0) (xs.getD 7 0) (ys.getD 0 0) s)
  have h57 : RsB mdX12_noteSum r kb (tX12_noteSum_57 kb) := row_B hA h77 qX12_noteSum_77 (ck_n rfl) rfl (fun xs ys s => eX12_noteSum_77 kb (xs.getD 0 0) (xs.getD 1 0) (xs.getD 2 0) (xs.getD 3 0) (xs.getD 4 0) (xs.getD 5 0) (xs.getD 6 0) (xs.getD 7 0) (xs.getD 8 0) s)
  have h56 : RsB mdX12_noteSum r kb (tX12_noteSum_56 kb) := row_B hA h57 qX12_noteSum_57 (ck_n rfl) rfl (fun xs ys s => eX12_noteSum_57 kb (xs.getD 0 0) (xs.getD 1 0) (xs.getD 2 0) (xs.getD 3 0) (xs.getD 4 0) (xs.getD 5 0) (xs.getD 6 0) (xs.getD 7 0) (ys.getD 0 0) (ys.getD 1 0) s)
  have h16 : RsB mdX12_noteSum r kb (tX12_noteSum_16 kb) := row_B hA h56 qX12_noteSum_56 (ck_n rfl) rfl (fun xs ys s => eX12_noteSum_56 kb (xs.getD 0 0) (xs.getD 1 0) (xs.getD 2 0) (xs.getD 3 0) (xs.getD 4 0) (xs.getD 5 0) (xs.getD 6 0) (xs.getD 7 0) (ys.getD 0 0) s)
  have h0 : RsB mdX12_noteSum r kb (tX12_noteSum_0 kb) := row_B hA h16 qX12_noteSum_16 (ck_n rfl) rfl (fun xs ys s => eX12_noteSum_16 kb (xs.getD 0 0) (xs.getD 1 0) (xs.getD 2 0) (xs.getD 3 0) (xs.getD 4 0) (xs.getD 5 0) (xs.getD 6 0) (xs.getD 7 0) s)
  exact row_B hA h0 qX12_noteSum_0 (ck_n rfl) rfl (fun xs ys s => eX12_noteSum_0 kb (xs.getD 0 0) (xs.getD 1 0) (xs.getD 2 0) s)
theorem iX12_noteSum (hA : AOK) : Impl mdX12_noteSum gX12_noteSum := ent_B (kk := kX12_noteSum) (rr := rX12_noteSum) (f := fun kb => fun xs ys s => fX12_noteSum_0 kb (xs.getD 0 0) (xs.getD 1 0) (xs.getD 2 0) s) (by decide +kernel) rfl (fun _ => rfl) (fun r kb => pX12_noteSum hA r kb) (fun kb => ⟨_, rfl⟩) 9999 id (fun xs s => rfl) (fun xs => wkl_rf _)
-- FloatparadeModel.pointsOf(I)I
theorem mkX12_pointsOf : MK mdX12_pointsOf true := MKb_ok (h1 := 1740) (h2 := 76) (h3 := 1739) (h4 := 61) (by decide +kernel)
theorem qX12_pointsOf_0 : blkb mdX12_pointsOf 4 0 bX12_pointsOf_0 [[], [], [], []] = true := by decide +kernel
theorem qX12_pointsOf_4 : blkb mdX12_pointsOf 0 4 bX12_pointsOf_4 [[], [], [], [], [], [], [], [1741], [], [], [], []] = true := by decide +kernel
theorem qX12_pointsOf_24 : blkb mdX12_pointsOf 29 24 bX12_pointsOf_24 [[], [], [], []] = true := by decide +kernel
theorem qX12_pointsOf_29 : blkb mdX12_pointsOf 0 29 bX12_pointsOf_29 [[], [], [], [], [], [1376], [], [], [], [], [], [], [1379], [], [], [], [], []] = true := by decide +kernel
theorem qX12_pointsOf_58 : blkb mdX12_pointsOf 64 58 bX12_pointsOf_58 [[], [1378], [], []] = true := by decide +kernel
theorem qX12_pointsOf_64 : blkb mdX12_pointsOf 0 64 bX12_pointsOf_64 [[], [], [], []] = true := by decide +kernel
theorem qX12_pointsOf_72 : blkb mdX12_pointsOf 0 72 bX12_pointsOf_72 [[], []] = true := by decide +kernel
theorem pX12_pointsOf (hA : AOK) (r : Rt) (kb : Co) : RsB mdX12_pointsOf r kb (rX12_pointsOf kb) := by
  have h72 : RsB mdX12_pointsOf r kb (tX12_pointsOf_72 kb) := row_0
  have h64 : RsB mdX12_pointsOf r kb (tX12_pointsOf_64 kb) := row_B hA h72 qX12_pointsOf_72 (ck_n rfl) rfl (fun xs ys s => eX12_pointsOf_72 kb (xs.getD 0 0) s)
  have h58 : RsB mdX12_pointsOf r kb (tX12_pointsOf_58 kb) := row_B hA h64 qX12_pointsOf_64 (ck_n rfl) rfl (fun xs ys s => eX12_pointsOf_64 kb (xs.getD 0 0) (xs.getD 1 0) (xs.getD 2 0) (ys.getD 0 0) (ys.getD 1 0) s)
  have h29 : RsB mdX12_pointsOf r kb (tX12_pointsOf_29 kb) := row_B hA h58 qX12_pointsOf_58 (ck_n rfl) rfl (fun xs ys s => eX12_pointsOf_58 kb (xs.getD 0 0) (xs.getD 1 0) (xs.getD 2 0) (ys.getD 0 0) s)
  have h24 : RsB mdX12_pointsOf r kb (tX12_pointsOf_24 kb) := row_B hA h29 qX12_pointsOf_29 (ck_n rfl) rfl (fun xs ys s => eX12_pointsOf_29 kb (xs.getD 0 0) (xs.getD 1 0) (xs.getD 2 0) (xs.getD 3 0) s)
  have h4 : RsB mdX12_pointsOf r kb (tX12_pointsOf_4 kb) := row_B hA h24 qX12_pointsOf_24 (ck_n rfl) rfl (fun xs ys s => eX12_pointsOf_24 kb (xs.getD 0 0) (xs.getD 1 0) (xs.getD 2 0) s)
  have h0 : RsB mdX12_pointsOf r kb (tX12_pointsOf_0 kb) := row_B hA h4 qX12_pointsOf_4 (And.intro trivial (And.intro trivial (And.intro trivial (And.intro trivial (And.intro trivial (And.intro trivial (And.intro trivial (And.intro (co_of mkX12_noteSum (iX12_noteSum hA)) (ck_n rfl))))))))) rfl (fun xs ys s => eX12_pointsOf_4 kb (xs.getD 0 0) (xs.getD 1 0) (xs.getD 2 0) (xs.getD 3 0) s)
  exact row_B hA h0 qX12_pointsOf_0 (ck_n rfl) rfl (fun xs ys s => eX12_pointsOf_0 kb (xs.getD 0 0) (xs.getD 1 0) s)
theorem iX12_pointsOf (hA : AOK) : Impl mdX12_pointsOf gX12_pointsOf := ent_B (kk := kX12_pointsOf) (rr := rX12_pointsOf) (f := fun kb => fun xs ys s => fX12_pointsOf_0 kb (xs.getD 0 0) (xs.getD 1 0) s) (by decide +kernel) rfl (fun _ => rfl) (fun r kb => pX12_pointsOf hA r kb) (fun kb => ⟨_, rfl⟩) 9999 id (fun xs s => rfl) (fun xs => wkl_rf _)
-- FloatparadeModel.isPenalty(II)Z
theorem mkX12_isPenalty : MK mdX12_isPenalty true := MKb_ok (h1 := 1736) (h2 := 76) (h3 := 1735) (h4 := 60) (by decide +kernel)
theorem qX12_isPenalty_0 : blkb mdX12_isPenalty 0 0 bX12_isPenalty_0 [[], [], [1508], [], [], [], [], [1376], [], [], [], [], [1497], [], [], []] = true := by decide +kernel
theorem qX12_isPenalty_28 : blkb mdX12_isPenalty 29 28 bX12_isPenalty_28 [[]] = true := by decide +kernel
theorem qX12_isPenalty_29 : blkb mdX12_isPenalty 0 29 bX12_isPenalty_29 [[]] = true := by decide +kernel
theorem pX12_isPenalty (hA : AOK) (r : Rt) (kb : Co) : RsB mdX12_isPenalty r kb (rX12_isPenalty kb) := by
  have h29 : RsB mdX12_isPenalty r kb (tX12_isPenalty_29 kb) := row_0
  have h28 : RsB mdX12_isPenalty r kb (tX12_isPenalty_28 kb) := row_B hA h29 qX12_isPenalty_29 (ck_n rfl) rfl (fun xs ys s => eX12_isPenalty_29 kb (ys.getD 0 0) s)
  have h0 : RsB mdX12_isPenalty r kb (tX12_isPenalty_0 kb) := row_B hA h28 qX12_isPenalty_28 (ck_n rfl) rfl (fun xs ys s => eX12_isPenalty_28 kb s)
  exact row_B hA h0 qX12_isPenalty_0 (And.intro trivial (And.intro trivial (And.intro (co_of mkX12_isSociety (iX12_isSociety hA)) (And.intro trivial (And.intro trivial (And.intro trivial (And.intro trivial (And.intro trivial (And.intro trivial (And.intro trivial (And.intro trivial (And.intro trivial (And.intro (co_of mkX12_in (iX12_in hA)) (ck_n rfl)))))))))))))) rfl (fun xs ys s => eX12_isPenalty_0 kb (xs.getD 0 0) (xs.getD 1 0) (xs.getD 2 0) s)
theorem iX12_isPenalty (hA : AOK) : Impl mdX12_isPenalty gX12_isPenalty := ent_B (kk := kX12_isPenalty) (rr := rX12_isPenalty) (f := fun kb => fun xs ys s => fX12_isPenalty_0 kb (xs.getD 0 0) (xs.getD 1 0) (xs.getD 2 0) s) (by decide +kernel) rfl (fun _ => rfl) (fun r kb => pX12_isPenalty hA r kb) (fun kb => ⟨_, rfl⟩) 0 id (fun xs s => rfl) (fun xs => wkl_rf _)
-- FloatparadeModel.appeal(II)I
theorem mkX12_appeal : MK mdX12_appeal true := MKb_ok (h1 := 1732) (h2 := 76) (h3 := 1730) (h4 := 1731) (by decide +kernel)
theorem qX12_appeal_0 : blkb mdX12_appeal 0 0 bX12_appeal_0 [[], [], [], [1733], [], [], [], [], [], []] = true := by decide +kernel
theorem qX12_appeal_16 : blkb mdX12_appeal 0 16 bX12_appeal_16 [[], [1379], [], [], [], [], [], [], [], [], []] = true := by decide +kernel
theorem qX12_appeal_34 : blkb mdX12_appeal 35 34 bX12_appeal_34 [[]] = true := by decide +kernel
theorem qX12_appeal_35 : blkb mdX12_appeal 0 35 bX12_appeal_35 [[1500], [], [], []] = true := by decide +kernel
theorem qX12_appeal_43 : blkb mdX12_appeal 0 43 bX12_appeal_43 [[], [1379], [], [], [], [], [], [], [], [], [], [1737], []] = true := by decide +kernel
theorem pX12_appeal (hA : AOK) (r : Rt) (kb : Co) : RsB mdX12_appeal r kb (rX12_appeal kb) := by
  have h43 : RsB mdX12_appeal r kb (tX12_appeal_43 kb) := row_0
  have h35 : RsB mdX12_appeal r kb (tX12_appeal_35 kb) := row_B hA h43 qX12_appeal_43 (And.intro trivial (And.intro trivial (And.intro trivial (And.intro trivial (And.intro trivial (And.intro trivial (And.intro trivial (And.intro trivial (And.intro trivial (And.intro trivial (And.intro trivial (And.intro (co_of mkX12_pointsOf (iX12_pointsOf hA)) (ck_n rfl))))))))))))) rfl (fun xs ys s => eX12_appeal_43 kb (xs.getD 0 0) (xs.getD 1 0) (xs.getD 2 0) s)
  have h34 : RsB mdX12_appeal r kb (tX12_appeal_34 kb) := row_B hA h35 qX12_appeal_35 (And.intro (co_of mkX12_holds (iX12_holds hA)) (ck_n rfl)) rfl (fun xs ys s => eX12_appeal_35 kb (xs.getD 0 0) (xs.getD 1 0) (xs.getD 2 0) (ys.getD 0 0) (ys.getD 1 0) s)
  have h16 : RsB mdX12_appeal r kb (tX12_appeal_16 kb) := row_B hA h34 qX12_appeal_34 (ck_n rfl) rfl (fun xs ys s => eX12_appeal_34 kb (xs.getD 0 0) (xs.getD 1 0) (xs.getD 2 0) (ys.getD 0 0) s)
  have h0 : RsB mdX12_appeal r kb (tX12_appeal_0 kb) := row_B hA h16 qX12_appeal_16 (ck_n rfl) rfl (fun xs ys s => eX12_appeal_16 kb (xs.getD 0 0) (xs.getD 1 0) (xs.getD 2 0) (ys.getD 0 0) s)
  exact row_B hA h0 qX12_appeal_0 (And.intro trivial (And.intro trivial (And.intro trivial (And.intro (co_of mkX12_isPenalty (iX12_isPenalty hA)) (ck_n rfl))))) rfl (fun xs ys s => eX12_appeal_0 kb (xs.getD 0 0) (xs.getD 1 0) (xs.getD 2 0) s)
theorem iX12_appeal (hA : AOK) : Impl mdX12_appeal gX12_appeal := ent_B (kk := kX12_appeal) (rr := rX12_appeal) (f := fun kb => fun xs ys s => fX12_appeal_0 kb (xs.getD 0 0) (xs.getD 1 0) (xs.getD 2 0) s) (by decide +kernel) rfl (fun _ => rfl) (fun r kb => pX12_appeal hA r kb) (fun kb => ⟨_, rfl⟩) 0 id (fun xs s => rfl) (fun xs => wkl_rf _)
-- FloatparadeModel.draw(I)I
theorem mkX12_draw : MK mdX12_draw true := MKb_ok (h1 := 1748) (h2 := 76) (h3 := 1746) (h4 := 1747) (by decide +kernel)
theorem qX12_draw_0 : blkb mdX12_draw 0 0 bX12_draw_0 [[], [], [], [], [1497], [], [], []] = true := by decide +kernel
theorem qX12_draw_14 : blkb mdX12_draw 15 14 bX12_draw_14 [[]] = true := by decide +kernel
theorem qX12_draw_15 : blkb mdX12_draw 0 15 bX12_draw_15 [[1500], [], [], []] = true := by decide +kernel
theorem qX12_draw_23 : blkb mdX12_draw 0 23 bX12_draw_23 [[], [1380], [], [], [], [1380], [], []] = true := by decide +kernel
theorem pX12_draw (hA : AOK) (r : Rt) (kb : Co) : RsB mdX12_draw r kb (rX12_draw kb) := by
  have h23 : RsB mdX12_draw r kb (tX12_draw_23 kb) := row_0
  have h15 : RsB mdX12_draw r kb (tX12_draw_15 kb) := row_B hA h23 qX12_draw_23 (ck_n rfl) rfl (fun xs ys s => eX12_draw_23 kb (xs.getD 0 0) (xs.getD 1 0) s)
  have h14 : RsB mdX12_draw r kb (tX12_draw_14 kb) := row_B hA h15 qX12_draw_15 (And.intro (co_of mkX12_holds (iX12_holds hA)) (ck_n rfl)) rfl (fun xs ys s => eX12_draw_15 kb (xs.getD 0 0) (xs.getD 1 0) (ys.getD 0 0) (ys.getD 1 0) s)
  have h0 : RsB mdX12_draw r kb (tX12_draw_0 kb) := row_B hA h14 qX12_draw_14 (ck_n rfl) rfl (fun xs ys s => eX12_draw_14 kb (xs.getD 0 0) (xs.getD 1 0) (ys.getD 0 0) s)
  exact row_B hA h0 qX12_draw_0 (And.intro trivial (And.intro trivial (And.intro trivial (And.intro trivial (And.intro (co_of mkX12_in (iX12_in hA)) (ck_n rfl)))))) rfl (fun xs ys s => eX12_draw_0 kb (xs.getD 0 0) (xs.getD 1 0) s)
theorem iX12_draw (hA : AOK) : Impl mdX12_draw gX12_draw := ent_B (kk := kX12_draw) (rr := rX12_draw) (f := fun kb => fun xs ys s => fX12_draw_0 kb (xs.getD 0 0) (xs.getD 1 0) s) (by decide +kernel) rfl (fun _ => rfl) (fun r kb => pX12_draw hA r kb) (fun kb => ⟨_, rfl⟩) 0 id (fun xs s => rfl) (fun xs => wkl_rf _)
-- FloatparadeModel.isAhead(II)Z
theorem mkX12_isAhead : MK mdX12_isAhead true := MKb_ok (h1 := 1760) (h2 := 76) (h3 := 1759) (h4 := 64) (by decide +kernel)
theorem qX12_isAhead_0 : blkb mdX12_isAhead 0 0 bX12_isAhead_0 [[], [], [1737], [], [], [1737], [], [], [], [1737], [], [], [1737], [], [], []] = true := by decide +kernel
theorem qX12_isAhead_30 : blkb mdX12_isAhead 31 30 bX12_isAhead_30 [[]] = true := by decide +kernel
theorem qX12_isAhead_31 : blkb mdX12_isAhead 0 31 bX12_isAhead_31 [[]] = true := by decide +kernel
theorem qX12_isAhead_32 : blkb mdX12_isAhead 34 32 bX12_isAhead_32 [[], []] = true := by decide +kernel
theorem qX12_isAhead_34 : blkb mdX12_isAhead 0 34 bX12_isAhead_34 [[], [], [], [], [1380], [], [], [], [], [], [], [], [], [1741], [], [], [], [1741], [], [], [], [], [1741], [], [], [], [1741], [], [], []] = true := by decide +kernel
theorem qX12_isAhead_87 : blkb mdX12_isAhead 88 87 bX12_isAhead_87 [[]] = true := by decide +kernel
theorem qX12_isAhead_88 : blkb mdX12_isAhead 0 88 bX12_isAhead_88 [[]] = true := by decide +kernel
theorem qX12_isAhead_89 : blkb mdX12_isAhead 0 89 bX12_isAhead_89 [[], []] = true := by decide +kernel
theorem qX12_isAhead_95 : blkb mdX12_isAhead 0 95 bX12_isAhead_95 [[], [], [], [], []] = true := by decide +kernel
theorem qX12_isAhead_104 : blkb mdX12_isAhead 105 104 bX12_isAhead_104 [[]] = true := by decide +kernel
theorem qX12_isAhead_105 : blkb mdX12_isAhead 0 105 bX12_isAhead_105 [[]] = true := by decide +kernel
theorem pX12_isAhead (hA : AOK) (r : Rt) (kb : Co) : RsB mdX12_isAhead r kb (rX12_isAhead kb) := by
  have h105 : RsB mdX12_isAhead r kb (tX12_isAhead_105 kb) := row_0
  have h104 : RsB mdX12_isAhead r kb (tX12_isAhead_104 kb) := row_B hA h105 qX12_isAhead_105 (ck_n rfl) rfl (fun xs ys s => eX12_isAhead_105 kb (ys.getD 0 0) s)
  have h95 : RsB mdX12_isAhead r kb (tX12_isAhead_95 kb) := row_B hA h104 qX12_isAhead_104 (ck_n rfl) rfl (fun xs ys s => eX12_isAhead_104 kb s)
  have h89 : RsB mdX12_isAhead r kb (tX12_isAhead_89 kb) := row_B hA h95 qX12_isAhead_95 (ck_n rfl) rfl (fun xs ys s => eX12_isAhead_95 kb (xs.getD 0 0) (xs.getD 1 0) s)
  have h88 : RsB mdX12_isAhead r kb (tX12_isAhead_88 kb) := row_B hA h89 qX12_isAhead_89 (ck_n rfl) rfl (fun xs ys s => eX12_isAhead_89 kb (xs.getD 0 0) (xs.getD 1 0) (xs.getD 2 0) (xs.getD 3 0) s)
  have h87 : RsB mdX12_isAhead r kb (tX12_isAhead_87 kb) := row_B hA h88 qX12_isAhead_88 (ck_n rfl) rfl (fun xs ys s => eX12_isAhead_88 kb (ys.getD 0 0) s)
  have h34 : RsB mdX12_isAhead r kb (tX12_isAhead_34 kb) := row_B hA h87 qX12_isAhead_87 (ck_n rfl) rfl (fun xs ys s => eX12_isAhead_87 kb s)
  have h32 : RsB mdX12_isAhead r kb (tX12_isAhead_32 kb) := row_B hA h34 qX12_isAhead_34 (And.intro trivial (And.intro trivial (And.intro trivial (And.intro trivial (And.intro trivial (And.intro trivial (And.intro trivial (And.intro trivial (And.intro trivial (And.intro trivial (And.intro trivial (And.intro trivial (And.intro trivial (And.intro (co_of mkX12_noteSum (iX12_noteSum hA)) (And.intro trivial (And.intro trivial (And.intro trivial (And.intro (co_of mkX12_noteSum (iX12_noteSum hA)) (And.intro trivial (And.intro trivial (And.intro trivial (And.intro trivial (And.intro (co_of mkX12_noteSum (iX12_noteSum hA)) (And.intro trivial (And.intro trivial (And.intro trivial (And.intro (co_of mkX12_noteSum (iX12_noteSum hA)) (ck_n rfl)))))))))))))))))))))))))))) rfl (fun xs ys s => eX12_isAhead_34 kb (xs.getD 0 0) (xs.getD 1 0) (xs.getD 2 0) (xs.getD 3 0) s)
  have h31 : RsB mdX12_isAhead r kb (tX12_isAhead_31 kb) := row_B hA h32 qX12_isAhead_32 (ck_n rfl) rfl (fun xs ys s => eX12_isAhead_32 kb (xs.getD 0 0) (xs.getD 1 0) (xs.getD 2 0) s)
  have h30 : RsB mdX12_isAhead r kb (tX12_isAhead_30 kb) := row_B hA h31 qX12_isAhead_31 (ck_n rfl) rfl (fun xs ys s => eX12_isAhead_31 kb (ys.getD 0 0) s)
  have h0 : RsB mdX12_isAhead r kb (tX12_isAhead_0 kb) := row_B hA h30 qX12_isAhead_30 (ck_n rfl) rfl (fun xs ys s => eX12_isAhead_30 kb s)
  exact row_B hA h0 qX12_isAhead_0 (And.intro trivial (And.intro trivial (And.intro (co_of mkX12_pointsOf (iX12_pointsOf hA)) (And.intro trivial (And.intro trivial (And.intro (co_of mkX12_pointsOf (iX12_pointsOf hA)) (And.intro trivial (And.intro trivial (And.intro trivial (And.intro (co_of mkX12_pointsOf (iX12_pointsOf hA)) (And.intro trivial (And.intro trivial (And.intro (co_of mkX12_pointsOf (iX12_pointsOf hA)) (ck_n rfl)))))))))))))) rfl (fun xs ys s => eX12_isAhead_0 kb (xs.getD 0 0) (xs.getD 1 0) (xs.getD 2 0) s)
theorem iX12_isAhead (hA : AOK) : Impl mdX12_isAhead gX12_isAhead := ent_B (kk := kX12_isAhead) (rr := rX12_isAhead) (f := fun kb => fun xs ys s => fX12_isAhead_0 kb (xs.getD 0 0) (xs.getD 1 0) (xs.getD 2 0) s) (by decide +kernel) rfl (fun _ => rfl) (fun r kb => pX12_isAhead hA r kb) (fun kb => ⟨_, rfl⟩) 9999 id (fun xs s => rfl) (fun xs => wkl_rf _)
-- FloatparadeModel.tableAt(II)I
theorem mkX12_tableAt : MK mdX12_tableAt true := MKb_ok (h1 := 1756) (h2 := 76) (h3 := 1755) (h4 := 63) (by decide +kernel)
theorem qX12_tableAt_0 : blkb mdX12_tableAt 2 0 bX12_tableAt_0 [[], []] = true := by decide +kernel
theorem qX12_tableAt_2 : blkb mdX12_tableAt 16 2 bX12_tableAt_2 [[], [], [1330], [], [], [], [], []] = true := by decide +kernel
theorem qX12_tableAt_16 : blkb mdX12_tableAt 0 16 bX12_tableAt_16 [[], [], [1330], [], [], [], [1331], [], [], [], [], [], [1353], [], [], [], [], [], [], [], [], [], [1757], [], [], []] = true := by decide +kernel
theorem qX12_tableAt_68 : blkb mdX12_tableAt 69 68 bX12_tableAt_68 [[]] = true := by decide +kernel
theorem qX12_tableAt_69 : blkb mdX12_tableAt 0 69 bX12_tableAt_69 [[], [], [], []] = true := by decide +kernel
theorem qX12_tableAt_78 : blkb mdX12_tableAt 0 78 bX12_tableAt_78 [[], [1331], [], [], [], [], [], [1353], [], [], [], [], [1359], [], [], [], [], [], [], [], [], []] = true := by decide +kernel
theorem qX12_tableAt_115 : blkb mdX12_tableAt 0 115 bX12_tableAt_115 [[], []] = true := by decide +kernel
theorem qX12_tableAt_121 : blkb mdX12_tableAt 0 121 bX12_tableAt_121 [[], []] = true := by decide +kernel
theorem pX12_tableAt (hA : AOK) (r : Rt) (kb : Co) : RsB mdX12_tableAt r kb (rX12_tableAt kb) := by
  have h121 : RsB mdX12_tableAt r kb (tX12_tableAt_121 kb) := row_0
  have h115 : RsB mdX12_tableAt r kb (tX12_tableAt_115 kb) := row_B hA h121 qX12_tableAt_121 (ck_n rfl) rfl (fun xs ys s => eX12_tableAt_121 kb s)
  have h78 : RsB mdX12_tableAt r kb (tX12_tableAt_78 kb) := row_B hA h115 qX12_tableAt_115 (ck_n rfl) rfl (fun xs ys s => eX12_tableAt_115 kb (xs.getD 0 0) (xs.getD 1 0) (xs.getD 2 0) (xs.getD 3 0) s)
  have h69 : RsB mdX12_tableAt r kb (tX12_tableAt_69 kb) := row_B hA h78 qX12_tableAt_78 (ck_n rfl) rfl (fun xs ys s => eX12_tableAt_78 kb (xs.getD 0 0) (xs.getD 1 0) (xs.getD 2 0) (xs.getD 3 0) (xs.getD 4 0) s)
  have h68 : RsB mdX12_tableAt r kb (tX12_tableAt_68 kb) := row_B hA h69 qX12_tableAt_69 (ck_n rfl) rfl (fun xs ys s => eX12_tableAt_69 kb (xs.getD 0 0) (xs.getD 1 0) (xs.getD 2 0) (xs.getD 3 0) (xs.getD 4 0) (ys.getD 0 0) (ys.getD 1 0) s)
  have h16 : RsB mdX12_tableAt r kb (tX12_tableAt_16 kb) := row_B hA h68 qX12_tableAt_68 (ck_n rfl) rfl (fun xs ys s => eX12_tableAt_68 kb (xs.getD 0 0) (xs.getD 1 0) (xs.getD 2 0) (xs.getD 3 0) (xs.getD 4 0) (ys.getD 0 0) s)
  have h2 : RsB mdX12_tableAt r kb (tX12_tableAt_2 kb) := row_B hA h16 qX12_tableAt_16 (And.intro trivial (And.intro trivial (And.intro trivial (And.intro trivial (And.intro trivial (And.intro trivial (And.intro trivial (And.intro trivial (And.intro trivial (And.intro trivial (And.intro trivial (And.intro trivial (And.intro trivial (And.intro trivial (And.intro trivial (And.intro trivial (And.intro trivial (And.intro trivial (And.intro trivial (And.intro trivial (And.intro trivial (And.intro trivial (And.intro (co_of mkX12_isAhead (iX12_isAhead hA)) (ck_n rfl)))))))))))))))))))))))) rfl (fun xs ys s => eX12_tableAt_16 kb (xs.getD 0 0) (xs.getD 1 0) (xs.getD 2 0) (xs.getD 3 0) (xs.getD 4 0) (xs.getD 5 0) s)
  have h0 : RsB mdX12_tableAt r kb (tX12_tableAt_0 kb) := row_B hA h2 qX12_tableAt_2 (ck_n rfl) rfl (fun xs ys s => eX12_tableAt_2 kb (xs.getD 0 0) (xs.getD 1 0) (xs.getD 2 0) (xs.getD 3 0) s)
  exact row_B hA h0 qX12_tableAt_0 (ck_n rfl) rfl (fun xs ys s => eX12_tableAt_0 kb (xs.getD 0 0) (xs.getD 1 0) (xs.getD 2 0) s)
theorem iX12_tableAt (hA : AOK) : Impl mdX12_tableAt gX12_tableAt := ent_B (kk := kX12_tableAt) (rr := rX12_tableAt) (f := fun kb => fun xs ys s => fX12_tableAt_0 kb (xs.getD 0 0) (xs.getD 1 0) (xs.getD 2 0) s) (by decide +kernel) rfl (fun _ => rfl) (fun r kb => pX12_tableAt hA r kb) (fun kb => ⟨_, rfl⟩) 9999 id (fun xs s => rfl) (fun xs => wkl_rf _)
-- FloatparadeModel.forgets(I)V
theorem mkX12_forgets : MK mdX12_forgets true := MKb_ok (h1 := 1764) (h2 := 76) (h3 := 1763) (h4 := 65) (by decide +kernel)
theorem qX12_forgets_0 : blkb mdX12_forgets 82 0 bX12_forgets_0 [[], [1335], [], [], [], [], [1337], [], [], [], [], [1338], [], [], [], [], [1339], [], [], [], [], [1341], [], [], [], [], [1353], [], [], [], [], [1354], [], [], [], [], [1376], [], [], [], [], [1372], [], [], [], [], [1373], [], [], [], [], [1374], [], [], [], [], [], [], []] = true := by decide +kernel
theorem qX12_forgets_82 : blkb mdX12_forgets 0 82 bX12_forgets_82 [[], [], [], [], [], [], [], [], [1375], [], [], [], [], []] = true := by decide +kernel
theorem qX12_forgets_106 : blkb mdX12_forgets 0 106 bX12_forgets_106 [[]] = true := by decide +kernel
theorem pX12_forgets (hA : AOK) (r : Rt) (kb : Co) : RsB mdX12_forgets r kb (rX12_forgets kb) := by
  have h106 : RsB mdX12_forgets r kb (tX12_forgets_106 kb) := row_0
  have h82 : RsB mdX12_forgets r kb (tX12_forgets_82 kb) := row_B hA h106 qX12_forgets_106 (ck_n rfl) rfl (fun xs ys s => eX12_forgets_106 kb s)
  have h0 : RsB mdX12_forgets r kb (tX12_forgets_0 kb) := row_B hA h82 qX12_forgets_82 (ck_n rfl) rfl (fun xs ys s => eX12_forgets_82 kb (xs.getD 0 0) (xs.getD 1 0) (xs.getD 2 0) s)
  exact row_B hA h0 qX12_forgets_0 (ck_n rfl) rfl (fun xs ys s => eX12_forgets_0 kb (xs.getD 0 0) (xs.getD 1 0) s)
theorem iX12_forgets (hA : AOK) : Impl mdX12_forgets gX12_forgets := ent_B (kk := kX12_forgets) (rr := rX12_forgets) (f := fun kb => fun xs ys s => fX12_forgets_0 kb (xs.getD 0 0) (xs.getD 1 0) s) (by decide +kernel) rfl (fun _ => rfl) (fun r kb => pX12_forgets hA r kb) (fun kb => ⟨_, rfl⟩) 9999 id (fun xs s => rfl) (fun xs => wkl_rf _)
-- FloatparadeModel.endYear()I
theorem mkX12_endYear : MK mdX12_endYear true := MKb_ok (h1 := 1752) (h2 := 76) (h3 := 1750) (h4 := 1751) (by decide +kernel)
theorem qX12_endYear_0 : blkb mdX12_endYear 37 0 bX12_endYear_0 [[], [], [1359], [], [], [], [], [], [1359], [], [], [], [], [], [1359], [], [], [], [1359], [], [], [], []] = true := by decide +kernel
theorem qX12_endYear_37 : blkb mdX12_endYear 0 37 bX12_endYear_37 [[], []] = true := by decide +kernel
theorem qX12_endYear_41 : blkb mdX12_endYear 42 41 bX12_endYear_41 [[]] = true := by decide +kernel
theorem qX12_endYear_42 : blkb mdX12_endYear 0 42 bX12_endYear_42 [[1500], [], [], []] = true := by decide +kernel
theorem qX12_endYear_50 : blkb mdX12_endYear 0 50 bX12_endYear_50 [[], [1359], [], [], [], [], [], [1359], [], [], [], [], [], []] = true := by decide +kernel
theorem qX12_endYear_74 : blkb mdX12_endYear 75 74 bX12_endYear_74 [[]] = true := by decide +kernel
theorem qX12_endYear_75 : blkb mdX12_endYear 0 75 bX12_endYear_75 [[], [], [], [], [], [], [1355], [], [], [], [], [1753], []] = true := by decide +kernel
theorem qX12_endYear_96 : blkb mdX12_endYear 97 96 bX12_endYear_96 [[]] = true := by decide +kernel
theorem qX12_endYear_97 : blkb mdX12_endYear 0 97 bX12_endYear_97 [[], [], [], [], [], [], [], [1753], []] = true := by decide +kernel
theorem qX12_endYear_112 : blkb mdX12_endYear 113 112 bX12_endYear_112 [[]] = true := by decide +kernel
theorem qX12_endYear_113 : blkb mdX12_endYear 118 113 bX12_endYear_113 [[1357], [], []] = true := by decide +kernel
theorem qX12_endYear_118 : blkb mdX12_endYear 126 118 bX12_endYear_118 [[], [], [], [], []] = true := by decide +kernel
theorem qX12_endYear_126 : blkb mdX12_endYear 0 126 bX12_endYear_126 [[], [], [1355], [], [], [], [], [1359], [], [], [], [], [], [1333], [], [], [], [1753], [], [], [], [], [1355], [], [], [], [], [], [], [], [], []] = true := by decide +kernel
theorem qX12_endYear_180 : blkb mdX12_endYear 0 180 bX12_endYear_180 [[], [1358], [], [], [1359], [], [], [], [], [], [], [], [1753], []] = true := by decide +kernel
theorem qX12_endYear_204 : blkb mdX12_endYear 210 204 bX12_endYear_204 [[], [1358], [], []] = true := by decide +kernel
theorem qX12_endYear_210 : blkb mdX12_endYear 0 210 bX12_endYear_210 [[], [], []] = true := by decide +kernel
theorem qX12_endYear_217 : blkb mdX12_endYear 238 217 bX12_endYear_217 [[], [], [], [1331], [], [], [], [], [1331], [], [1357], [], []] = true := by decide +kernel
theorem qX12_endYear_238 : blkb mdX12_endYear 240 238 bX12_endYear_238 [[], []] = true := by decide +kernel
theorem qX12_endYear_240 : blkb mdX12_endYear 0 240 bX12_endYear_240 [[], [], [1330], [], [], [], [1761], [], []] = true := by decide +kernel
theorem qX12_endYear_259 : blkb mdX12_endYear 261 259 bX12_endYear_259 [[], []] = true := by decide +kernel
theorem qX12_endYear_261 : blkb mdX12_endYear 0 261 bX12_endYear_261 [[], [], [], [], [1359], [], [], [], [], [1355], [], [], [], [], [1363], [], [], [], [], []] = true := by decide +kernel
theorem qX12_endYear_293 : blkb mdX12_endYear 0 293 bX12_endYear_293 [[], [1357], []] = true := by decide +kernel
theorem pX12_endYear (hA : AOK) (r : Rt) (kb : Co) : RsB mdX12_endYear r kb (rX12_endYear kb) := by
  have h293 : RsB mdX12_endYear r kb (tX12_endYear_293 kb) := row_0
  have h261 : RsB mdX12_endYear r kb (tX12_endYear_261 kb) := row_B hA h293 qX12_endYear_293 (ck_n rfl) rfl (fun xs ys s => eX12_endYear_293 kb (xs.getD 0 0) s)
  have h259 : RsB mdX12_endYear r kb (tX12_endYear_259 kb) := row_B hA h261 qX12_endYear_261 (ck_n rfl) rfl (fun xs ys s => eX12_endYear_261 kb (xs.getD 0 0) (xs.getD 1 0) s)
  have h240 : RsB mdX12_endYear r kb (tX12_endYear_240 kb) := row_B hA h259 qX12_endYear_259 (ck_n rfl) rfl (fun xs ys s => eX12_endYear_259 kb (xs.getD 0 0) s)
  have h238 : RsB mdX12_endYear r kb (tX12_endYear_238 kb) := row_B hA h240 qX12_endYear_240 (And.intro trivial (And.intro trivial (And.intro trivial (And.intro trivial (And.intro trivial (And.intro trivial (And.intro (co_of mkX12_forgets (iX12_forgets hA)) (ck_n rfl)))))))) rfl (fun xs ys s => eX12_endYear_240 kb (xs.getD 0 0) (xs.getD 1 0) s)
  have h217 : RsB mdX12_endYear r kb (tX12_endYear_217 kb) := row_B hA h238 qX12_endYear_238 (ck_n rfl) rfl (fun xs ys s => eX12_endYear_238 kb (xs.getD 0 0) s)
  have h210 : RsB mdX12_endYear r kb (tX12_endYear_210 kb) := row_B hA h217 qX12_endYear_217 (ck_n rfl) rfl (fun xs ys s => eX12_endYear_217 kb (xs.getD 0 0) (xs.getD 1 0) (xs.getD 2 0) s)
  have h204 : RsB mdX12_endYear r kb (tX12_endYear_204 kb) := row_B hA h210 qX12_endYear_210 (ck_n rfl) rfl (fun xs ys s => eX12_endYear_210 kb (xs.getD 0 0) (xs.getD 1 0) (xs.getD 2 0) (xs.getD 3 0) (ys.getD 0 0) (ys.getD 1 0) (ys.getD 2 0) s)
  have h180 : RsB mdX12_endYear r kb (tX12_endYear_180 kb) := row_B hA h204 qX12_endYear_204 (ck_n rfl) rfl (fun xs ys s => eX12_endYear_204 kb (xs.getD 0 0) (xs.getD 1 0) (xs.getD 2 0) (xs.getD 3 0) (ys.getD 0 0) (ys.getD 1 0) s)
  have h126 : RsB mdX12_endYear r kb (tX12_endYear_126 kb) := row_B hA h180 qX12_endYear_180 (And.intro trivial (And.intro trivial (And.intro trivial (And.intro trivial (And.intro trivial (And.intro trivial (And.intro trivial (And.intro trivial (And.intro trivial (And.intro trivial (And.intro trivial (And.intro trivial (And.intro (co_of mkX12_tableAt (iX12_tableAt hA)) (ck_n rfl)))))))))))))) rfl (fun xs ys s => eX12_endYear_180 kb (xs.getD 0 0) (xs.getD 1 0) (xs.getD 2 0) (xs.getD 3 0) s)
  have h118 : RsB mdX12_endYear r kb (tX12_endYear_118 kb) := row_B hA h126 qX12_endYear_126 (And.intro trivial (And.intro trivial (And.intro trivial (And.intro trivial (And.intro trivial (And.intro trivial (And.intro trivial (And.intro trivial (And.intro trivial (And.intro trivial (And.intro trivial (And.intro trivial (And.intro trivial (And.intro trivial (And.intro trivial (And.intro trivial (And.intro trivial (And.intro (co_of mkX12_tableAt (iX12_tableAt hA)) (ck_n rfl))))))))))))))))))) rfl (fun xs ys s => eX12_endYear_126 kb (xs.getD 0 0) (xs.getD 1 0) (xs.getD 2 0) (xs.getD 3 0) (xs.getD 4 0) s)
  have h113 : RsB mdX12_endYear r kb (tX12_endYear_113 kb) := row_B hA h118 qX12_endYear_118 (ck_n rfl) rfl (fun xs ys s => eX12_endYear_118 kb (xs.getD 0 0) (xs.getD 1 0) (xs.getD 2 0) (xs.getD 3 0) s)
  have h112 : RsB mdX12_endYear r kb (tX12_endYear_112 kb) := row_B hA h113 qX12_endYear_113 (ck_n rfl) rfl (fun xs ys s => eX12_endYear_113 kb (xs.getD 0 0) (xs.getD 1 0) (xs.getD 2 0) (ys.getD 0 0) (ys.getD 1 0) s)
  have h97 : RsB mdX12_endYear r kb (tX12_endYear_97 kb) := row_B hA h112 qX12_endYear_112 (ck_n rfl) rfl (fun xs ys s => eX12_endYear_112 kb (xs.getD 0 0) (xs.getD 1 0) (xs.getD 2 0) (ys.getD 0 0) s)
  have h96 : RsB mdX12_endYear r kb (tX12_endYear_96 kb) := row_B hA h97 qX12_endYear_97 (And.intro trivial (And.intro trivial (And.intro trivial (And.intro trivial (And.intro trivial (And.intro trivial (And.intro trivial (And.intro (co_of mkX12_tableAt (iX12_tableAt hA)) (ck_n rfl))))))))) rfl (fun xs ys s => eX12_endYear_97 kb (xs.getD 0 0) (xs.getD 1 0) (ys.getD 0 0) s)
  have h75 : RsB mdX12_endYear r kb (tX12_endYear_75 kb) := row_B hA h96 qX12_endYear_96 (ck_n rfl) rfl (fun xs ys s => eX12_endYear_96 kb (xs.getD 0 0) (xs.getD 1 0) s)
  have h74 : RsB mdX12_endYear r kb (tX12_endYear_74 kb) := row_B hA h75 qX12_endYear_75 (And.intro trivial (And.intro trivial (And.intro trivial (And.intro trivial (And.intro trivial (And.intro trivial (And.intro trivial (And.intro trivial (And.intro trivial (And.intro trivial (And.intro trivial (And.intro (co_of mkX12_tableAt (iX12_tableAt hA)) (ck_n rfl))))))))))))) rfl (fun xs ys s => eX12_endYear_75 kb (xs.getD 0 0) (ys.getD 0 0) s)
  have h50 : RsB mdX12_endYear r kb (tX12_endYear_50 kb) := row_B hA h74 qX12_endYear_74 (ck_n rfl) rfl (fun xs ys s => eX12_endYear_74 kb (xs.getD 0 0) s)
  have h42 : RsB mdX12_endYear r kb (tX12_endYear_42 kb) := row_B hA h50 qX12_endYear_50 (ck_n rfl) rfl (fun xs ys s => eX12_endYear_50 kb (xs.getD 0 0) s)
  have h41 : RsB mdX12_endYear r kb (tX12_endYear_41 kb) := row_B hA h42 qX12_endYear_42 (And.intro (co_of mkX12_holds (iX12_holds hA)) (ck_n rfl)) rfl (fun xs ys s => eX12_endYear_42 kb (xs.getD 0 0) (ys.getD 0 0) (ys.getD 1 0) s)
  have h37 : RsB mdX12_endYear r kb (tX12_endYear_37 kb) := row_B hA h41 qX12_endYear_41 (ck_n rfl) rfl (fun xs ys s => eX12_endYear_41 kb (xs.getD 0 0) (ys.getD 0 0) s)
  have h0 : RsB mdX12_endYear r kb (tX12_endYear_0 kb) := row_B hA h37 qX12_endYear_37 (ck_n rfl) rfl (fun xs ys s => eX12_endYear_37 kb (xs.getD 0 0) (ys.getD 0 0) s)
  exact row_B hA h0 qX12_endYear_0 (ck_n rfl) rfl (fun xs ys s => eX12_endYear_0 kb (xs.getD 0 0) s)
theorem iX12_endYear (hA : AOK) : Impl mdX12_endYear gX12_endYear := ent_B (kk := kX12_endYear) (rr := rX12_endYear) (f := fun kb => fun xs ys s => fX12_endYear_0 kb (xs.getD 0 0) s) (by decide +kernel) rfl (fun _ => rfl) (fun r kb => pX12_endYear hA r kb) (fun kb => ⟨_, rfl⟩) 9999 id (fun xs s => rfl) (fun xs => wkl_rf _)
-- FloatparadeModel.about(II)I
theorem mkX12_about : MK mdX12_about true := MKb_ok (h1 := 1768) (h2 := 76) (h3 := 1766) (h4 := 1767) (by decide +kernel)
theorem qX12_about_0 : blkb mdX12_about 0 0 bX12_about_0 [[], [], [], [1508], [], [], []] = true := by decide +kernel
theorem qX12_about_13 : blkb mdX12_about 0 13 bX12_about_13 [[], [], [], [1497], [], [], []] = true := by decide +kernel
theorem qX12_about_27 : blkb mdX12_about 28 27 bX12_about_27 [[]] = true := by decide +kernel
theorem qX12_about_28 : blkb mdX12_about 0 28 bX12_about_28 [[1500], [], [], []] = true := by decide +kernel
theorem qX12_about_36 : blkb mdX12_about 0 36 bX12_about_36 [[], [], [], [], [], [], [1331], [], [], []] = true := by decide +kernel
theorem qX12_about_54 : blkb mdX12_about 0 54 bX12_about_54 [[], [], [], [], [1332], [], [], []] = true := by decide +kernel
theorem qX12_about_68 : blkb mdX12_about 0 68 bX12_about_68 [[], [], [], [], [1335], [], [], []] = true := by decide +kernel
theorem qX12_about_82 : blkb mdX12_about 87 82 bX12_about_82 [[], [], [1769]] = true := by decide +kernel
theorem qX12_about_87 : blkb mdX12_about 0 87 bX12_about_87 [[]] = true := by decide +kernel
theorem qX12_about_88 : blkb mdX12_about 0 88 bX12_about_88 [[], [], [], [], [], [], [], [1341], [], [], []] = true := by decide +kernel
theorem qX12_about_108 : blkb mdX12_about 0 108 bX12_about_108 [[], [], [], [], [], [1737], []] = true := by decide +kernel
theorem qX12_about_121 : blkb mdX12_about 127 121 bX12_about_121 [[], [1333], [], []] = true := by decide +kernel
theorem qX12_about_127 : blkb mdX12_about 0 127 bX12_about_127 [[]] = true := by decide +kernel
theorem qX12_about_128 : blkb mdX12_about 0 128 bX12_about_128 [[], [], [], [], [1353], [], [], [], [], []] = true := by decide +kernel
theorem qX12_about_147 : blkb mdX12_about 0 147 bX12_about_147 [[], []] = true := by decide +kernel
theorem qX12_about_151 : blkb mdX12_about 157 151 bX12_about_151 [[], [1376], [], []] = true := by decide +kernel
theorem qX12_about_157 : blkb mdX12_about 0 157 bX12_about_157 [[]] = true := by decide +kernel
theorem pX12_about (hA : AOK) (r : Rt) (kb : Co) : RsB mdX12_about r kb (rX12_about kb) := by
  have h157 : RsB mdX12_about r kb (tX12_about_157 kb) := row_0
  have h151 : RsB mdX12_about r kb (tX12_about_151 kb) := row_B hA h157 qX12_about_157 (ck_n rfl) rfl (fun xs ys s => eX12_about_157 kb (ys.getD 0 0) s)
  have h147 : RsB mdX12_about r kb (tX12_about_147 kb) := row_B hA h151 qX12_about_151 (ck_n rfl) rfl (fun xs ys s => eX12_about_151 kb (xs.getD 0 0) (xs.getD 1 0) s)
  have h128 : RsB mdX12_about r kb (tX12_about_128 kb) := row_B hA h147 qX12_about_147 (ck_n rfl) rfl (fun xs ys s => eX12_about_147 kb s)
  have h127 : RsB mdX12_about r kb (tX12_about_127 kb) := row_B hA h128 qX12_about_128 (ck_n rfl) rfl (fun xs ys s => eX12_about_128 kb (xs.getD 0 0) (xs.getD 1 0) (xs.getD 2 0) s)
  have h121 : RsB mdX12_about r kb (tX12_about_121 kb) := row_B hA h127 qX12_about_127 (ck_n rfl) rfl (fun xs ys s => eX12_about_127 kb (ys.getD 0 0) s)
  have h108 : RsB mdX12_about r kb (tX12_about_108 kb) := row_B hA h121 qX12_about_121 (ck_n rfl) rfl (fun xs ys s => eX12_about_121 kb (xs.getD 0 0) (xs.getD 1 0) s)
  have h88 : RsB mdX12_about r kb (tX12_about_88 kb) := row_B hA h108 qX12_about_108 (And.intro trivial (And.intro trivial (And.intro trivial (And.intro trivial (And.intro trivial (And.intro (co_of mkX12_pointsOf (iX12_pointsOf hA)) (ck_n rfl))))))) rfl (fun xs ys s => eX12_about_108 kb (xs.getD 0 0) (xs.getD 1 0) (xs.getD 2 0) s)
  have h87 : RsB mdX12_about r kb (tX12_about_87 kb) := row_B hA h88 qX12_about_88 (ck_n rfl) rfl (fun xs ys s => eX12_about_88 kb (xs.getD 0 0) (xs.getD 1 0) (xs.getD 2 0) s)
  have h82 : RsB mdX12_about r kb (tX12_about_82 kb) := row_B hA h87 qX12_about_87 (ck_n rfl) rfl (fun xs ys s => eX12_about_87 kb (ys.getD 0 0) s)
  have h68 : RsB mdX12_about r kb (tX12_about_68 kb) := row_B hA h82 qX12_about_82 (And.intro trivial (And.intro trivial (And.intro (co_of mkX12_chosenSong (iX12_chosenSong hA)) (ck_n rfl)))) rfl (fun xs ys s => eX12_about_82 kb (xs.getD 0 0) (xs.getD 1 0) s)
  have h54 : RsB mdX12_about r kb (tX12_about_54 kb) := row_B hA h68 qX12_about_68 (ck_n rfl) rfl (fun xs ys s => eX12_about_68 kb (xs.getD 0 0) (xs.getD 1 0) (xs.getD 2 0) s)
  have h36 : RsB mdX12_about r kb (tX12_about_36 kb) := row_B hA h54 qX12_about_54 (ck_n rfl) rfl (fun xs ys s => eX12_about_54 kb (xs.getD 0 0) (xs.getD 1 0) (xs.getD 2 0) s)
  have h28 : RsB mdX12_about r kb (tX12_about_28 kb) := row_B hA h36 qX12_about_36 (ck_n rfl) rfl (fun xs ys s => eX12_about_36 kb (xs.getD 0 0) (xs.getD 1 0) (xs.getD 2 0) s)
  have h27 : RsB mdX12_about r kb (tX12_about_27 kb) := row_B hA h28 qX12_about_28 (And.intro (co_of mkX12_holds (iX12_holds hA)) (ck_n rfl)) rfl (fun xs ys s => eX12_about_28 kb (xs.getD 0 0) (xs.getD 1 0) (xs.getD 2 0) (ys.getD 0 0) (ys.getD 1 0) s)
  have h13 : RsB mdX12_about r kb (tX12_about_13 kb) := row_B hA h27 qX12_about_27 (ck_n rfl) rfl (fun xs ys s => eX12_about_27 kb (xs.getD 0 0) (xs.getD 1 0) (xs.getD 2 0) (ys.getD 0 0) s)
  have h0 : RsB mdX12_about r kb (tX12_about_0 kb) := row_B hA h13 qX12_about_13 (And.intro trivial (And.intro trivial (And.intro trivial (And.intro (co_of mkX12_in (iX12_in hA)) (ck_n rfl))))) rfl (fun xs ys s => eX12_about_13 kb (xs.getD 0 0) (xs.getD 1 0) (xs.getD 2 0) (ys.getD 0 0) s)
  exact row_B hA h0 qX12_about_0 (And.intro trivial (And.intro trivial (And.intro trivial (And.intro (co_of mkX12_isSociety (iX12_isSociety hA)) (ck_n rfl))))) rfl (fun xs ys s => eX12_about_0 kb (xs.getD 0 0) (xs.getD 1 0) (xs.getD 2 0) s)
theorem iX12_about (hA : AOK) : Impl mdX12_about gX12_about := ent_B (kk := kX12_about) (rr := rX12_about) (f := fun kb => fun xs ys s => fX12_about_0 kb (xs.getD 0 0) (xs.getD 1 0) (xs.getD 2 0) s) (by decide +kernel) rfl (fun _ => rfl) (fun r kb => pX12_about hA r kb) (fun kb => ⟨_, rfl⟩) 0 id (fun xs s => rfl) (fun xs => wkl_rf _)
-- FloatparadeModel.notes(II)I
theorem mkX12_notes : MK mdX12_notes true := MKb_ok (h1 := 1776) (h2 := 76) (h3 := 1774) (h4 := 1775) (by decide +kernel)
theorem qX12_notes_0 : blkb mdX12_notes 0 0 bX12_notes_0 [[], [], [], [1508], [], [], []] = true := by decide +kernel
theorem qX12_notes_13 : blkb mdX12_notes 0 13 bX12_notes_13 [[], [], [], [1497], [], [], []] = true := by decide +kernel
theorem qX12_notes_26 : blkb mdX12_notes 27 26 bX12_notes_26 [[]] = true := by decide +kernel
theorem qX12_notes_27 : blkb mdX12_notes 0 27 bX12_notes_27 [[1500], [], [], [], [], [1741], []] = true := by decide +kernel
theorem qX12_notes_42 : blkb mdX12_notes 43 42 bX12_notes_42 [[]] = true := by decide +kernel
theorem qX12_notes_43 : blkb mdX12_notes 0 43 bX12_notes_43 [[]] = true := by decide +kernel
theorem pX12_notes (hA : AOK) (r : Rt) (kb : Co) : RsB mdX12_notes r kb (rX12_notes kb) := by
  have h43 : RsB mdX12_notes r kb (tX12_notes_43 kb) := row_0
  have h42 : RsB mdX12_notes r kb (tX12_notes_42 kb) := row_B hA h43 qX12_notes_43 (ck_n rfl) rfl (fun xs ys s => eX12_notes_43 kb (ys.getD 0 0) s)
  have h27 : RsB mdX12_notes r kb (tX12_notes_27 kb) := row_B hA h42 qX12_notes_42 (ck_n rfl) rfl (fun xs ys s => eX12_notes_42 kb s)
  have h26 : RsB mdX12_notes r kb (tX12_notes_26 kb) := row_B hA h27 qX12_notes_27 (And.intro (co_of mkX12_holds (iX12_holds hA)) (And.intro trivial (And.intro trivial (And.intro trivial (And.intro trivial (And.intro (co_of mkX12_noteSum (iX12_noteSum hA)) (ck_n rfl))))))) rfl (fun xs ys s => eX12_notes_27 kb (xs.getD 0 0) (xs.getD 1 0) (xs.getD 2 0) (ys.getD 0 0) (ys.getD 1 0) s)
  have h13 : RsB mdX12_notes r kb (tX12_notes_13 kb) := row_B hA h26 qX12_notes_26 (ck_n rfl) rfl (fun xs ys s => eX12_notes_26 kb (xs.getD 0 0) (xs.getD 1 0) (xs.getD 2 0) (ys.getD 0 0) s)
  have h0 : RsB mdX12_notes r kb (tX12_notes_0 kb) := row_B hA h13 qX12_notes_13 (And.intro trivial (And.intro trivial (And.intro trivial (And.intro (co_of mkX12_in (iX12_in hA)) (ck_n rfl))))) rfl (fun xs ys s => eX12_notes_13 kb (xs.getD 0 0) (xs.getD 1 0) (xs.getD 2 0) (ys.getD 0 0) s)
  exact row_B hA h0 qX12_notes_0 (And.intro trivial (And.intro trivial (And.intro trivial (And.intro (co_of mkX12_isSociety (iX12_isSociety hA)) (ck_n rfl))))) rfl (fun xs ys s => eX12_notes_0 kb (xs.getD 0 0) (xs.getD 1 0) (xs.getD 2 0) s)
theorem iX12_notes (hA : AOK) : Impl mdX12_notes gX12_notes := ent_B (kk := kX12_notes) (rr := rX12_notes) (f := fun kb => fun xs ys s => fX12_notes_0 kb (xs.getD 0 0) (xs.getD 1 0) (xs.getD 2 0) s) (by decide +kernel) rfl (fun _ => rfl) (fun r kb => pX12_notes hA r kb) (fun kb => ⟨_, rfl⟩) 0 id (fun xs s => rfl) (fun xs => wkl_rf _)
-- FloatparadeModel.penaltyAt(III)I
theorem mkX12_penaltyAt : MK mdX12_penaltyAt true := MKb_ok (h1 := 1780) (h2 := 76) (h3 := 1778) (h4 := 1779) (by decide +kernel)
theorem qX12_penaltyAt_0 : blkb mdX12_penaltyAt 0 0 bX12_penaltyAt_0 [[], [], [], [], [1733], [], [], []] = true := by decide +kernel
theorem qX12_penaltyAt_14 : blkb mdX12_penaltyAt 0 14 bX12_penaltyAt_14 [[], [], [], [1497], [], [], []] = true := by decide +kernel
theorem qX12_penaltyAt_27 : blkb mdX12_penaltyAt 28 27 bX12_penaltyAt_27 [[]] = true := by decide +kernel
theorem qX12_penaltyAt_28 : blkb mdX12_penaltyAt 0 28 bX12_penaltyAt_28 [[1500], [], [], []] = true := by decide +kernel
theorem qX12_penaltyAt_36 : blkb mdX12_penaltyAt 0 36 bX12_penaltyAt_36 [[], [], [], [], [], [], [], [], [], [1377], [], [], []] = true := by decide +kernel
theorem qX12_penaltyAt_58 : blkb mdX12_penaltyAt 0 58 bX12_penaltyAt_58 [[], [], [], [], [1378], [], [], []] = true := by decide +kernel
theorem qX12_penaltyAt_73 : blkb mdX12_penaltyAt 0 73 bX12_penaltyAt_73 [[], [1379], [], [], [], [], []] = true := by decide +kernel
theorem qX12_penaltyAt_87 : blkb mdX12_penaltyAt 88 87 bX12_penaltyAt_87 [[]] = true := by decide +kernel
theorem qX12_penaltyAt_88 : blkb mdX12_penaltyAt 0 88 bX12_penaltyAt_88 [[]] = true := by decide +kernel
theorem pX12_penaltyAt (hA : AOK) (r : Rt) (kb : Co) : RsB mdX12_penaltyAt r kb (rX12_penaltyAt kb) := by
  have h88 : RsB mdX12_penaltyAt r kb (tX12_penaltyAt_88 kb) := row_0
  have h87 : RsB mdX12_penaltyAt r kb (tX12_penaltyAt_87 kb) := row_B hA h88 qX12_penaltyAt_88 (ck_n rfl) rfl (fun xs ys s => eX12_penaltyAt_88 kb (ys.getD 0 0) s)
  have h73 : RsB mdX12_penaltyAt r kb (tX12_penaltyAt_73 kb) := row_B hA h87 qX12_penaltyAt_87 (ck_n rfl) rfl (fun xs ys s => eX12_penaltyAt_87 kb s)
  have h58 : RsB mdX12_penaltyAt r kb (tX12_penaltyAt_58 kb) := row_B hA h73 qX12_penaltyAt_73 (ck_n rfl) rfl (fun xs ys s => eX12_penaltyAt_73 kb (xs.getD 0 0) (xs.getD 1 0) s)
  have h36 : RsB mdX12_penaltyAt r kb (tX12_penaltyAt_36 kb) := row_B hA h58 qX12_penaltyAt_58 (ck_n rfl) rfl (fun xs ys s => eX12_penaltyAt_58 kb (xs.getD 0 0) (xs.getD 1 0) (xs.getD 2 0) s)
  have h28 : RsB mdX12_penaltyAt r kb (tX12_penaltyAt_28 kb) := row_B hA h36 qX12_penaltyAt_36 (ck_n rfl) rfl (fun xs ys s => eX12_penaltyAt_36 kb (xs.getD 0 0) (xs.getD 1 0) (xs.getD 2 0) (xs.getD 3 0) s)
  have h27 : RsB mdX12_penaltyAt r kb (tX12_penaltyAt_27 kb) := row_B hA h28 qX12_penaltyAt_28 (And.intro (co_of mkX12_holds (iX12_holds hA)) (ck_n rfl)) rfl (fun xs ys s => eX12_penaltyAt_28 kb (xs.getD 0 0) (xs.getD 1 0) (xs.getD 2 0) (xs.getD 3 0) (ys.getD 0 0) (ys.getD 1 0) s)
  have h14 : RsB mdX12_penaltyAt r kb (tX12_penaltyAt_14 kb) := row_B hA h27 qX12_penaltyAt_27 (ck_n rfl) rfl (fun xs ys s => eX12_penaltyAt_27 kb (xs.getD 0 0) (xs.getD 1 0) (xs.getD 2 0) (xs.getD 3 0) (ys.getD 0 0) s)
  have h0 : RsB mdX12_penaltyAt r kb (tX12_penaltyAt_0 kb) := row_B hA h14 qX12_penaltyAt_14 (And.intro trivial (And.intro trivial (And.intro trivial (And.intro (co_of mkX12_in (iX12_in hA)) (ck_n rfl))))) rfl (fun xs ys s => eX12_penaltyAt_14 kb (xs.getD 0 0) (xs.getD 1 0) (xs.getD 2 0) (xs.getD 3 0) (ys.getD 0 0) s)
  exact row_B hA h0 qX12_penaltyAt_0 (And.intro trivial (And.intro trivial (And.intro trivial (And.intro trivial (And.intro (co_of mkX12_isPenalty (iX12_isPenalty hA)) (ck_n rfl)))))) rfl (fun xs ys s => eX12_penaltyAt_0 kb (xs.getD 0 0) (xs.getD 1 0) (xs.getD 2 0) (xs.getD 3 0) s)
theorem iX12_penaltyAt (hA : AOK) : Impl mdX12_penaltyAt gX12_penaltyAt := ent_B (kk := kX12_penaltyAt) (rr := rX12_penaltyAt) (f := fun kb => fun xs ys s => fX12_penaltyAt_0 kb (xs.getD 0 0) (xs.getD 1 0) (xs.getD 2 0) (xs.getD 3 0) s) (by decide +kernel) rfl (fun _ => rfl) (fun r kb => pX12_penaltyAt hA r kb) (fun kb => ⟨_, rfl⟩) 0 id (fun xs s => rfl) (fun xs => wkl_rf _)
-- FloatparadeModel.isFar(III)Z
theorem mkX12_isFar : MK mdX12_isFar true := MKb_ok (h1 := 1792) (h2 := 76) (h3 := 1791) (h4 := 68) (by decide +kernel)
theorem qX12_isFar_0 : blkb mdX12_isFar 26 0 bX12_isFar_0 [[], [1375], [], [], [], [], [], [], [], [], [], [], [], [], [], [], [], [], []] = true := by decide +kernel
theorem qX12_isFar_26 : blkb mdX12_isFar 0 26 bX12_isFar_26 [[], [], [], [], [], [], [], []] = true := by decide +kernel
theorem qX12_isFar_42 : blkb mdX12_isFar 58 42 bX12_isFar_42 [[], [1375], [], [], [], [], [], [], [], [], [], []] = true := by decide +kernel
theorem qX12_isFar_58 : blkb mdX12_isFar 0 58 bX12_isFar_58 [[], [], [], [], [], [], [], [], [], []] = true := by decide +kernel
theorem qX12_isFar_78 : blkb mdX12_isFar 79 78 bX12_isFar_78 [[]] = true := by decide +kernel
theorem qX12_isFar_79 : blkb mdX12_isFar 0 79 bX12_isFar_79 [[], [], [], []] = true := by decide +kernel
theorem qX12_isFar_88 : blkb mdX12_isFar 0 88 bX12_isFar_88 [[], [], [], [], [], [], [], [], [], [], [], [], []] = true := by decide +kernel
theorem qX12_isFar_115 : blkb mdX12_isFar 116 115 bX12_isFar_115 [[]] = true := by decide +kernel
theorem qX12_isFar_116 : blkb mdX12_isFar 0 116 bX12_isFar_116 [[]] = true := by decide +kernel
theorem pX12_isFar (hA : AOK) (r : Rt) (kb : Co) : RsB mdX12_isFar r kb (rX12_isFar kb) := by
  have h116 : RsB mdX12_isFar r kb (tX12_isFar_116 kb) := row_0
  have h115 : RsB mdX12_isFar r kb (tX12_isFar_115 kb) := row_B hA h116 qX12_isFar_116 (ck_n rfl) rfl (fun xs ys s => eX12_isFar_116 kb (ys.getD 0 0) s)
  have h88 : RsB mdX12_isFar r kb (tX12_isFar_88 kb) := row_B hA h115 qX12_isFar_115 (ck_n rfl) rfl (fun xs ys s => eX12_isFar_115 kb s)
  have h79 : RsB mdX12_isFar r kb (tX12_isFar_79 kb) := row_B hA h88 qX12_isFar_88 (ck_n rfl) rfl (fun xs ys s => eX12_isFar_88 kb (xs.getD 0 0) (xs.getD 1 0) (xs.getD 2 0) s)
  have h78 : RsB mdX12_isFar r kb (tX12_isFar_78 kb) := row_B hA h79 qX12_isFar_79 (ck_n rfl) rfl (fun xs ys s => eX12_isFar_79 kb (xs.getD 0 0) (xs.getD 1 0) (xs.getD 2 0) (xs.getD 3 0) (xs.getD 4 0) (xs.getD 5 0) (xs.getD 6 0) (ys.getD 0 0) (ys.getD 1 0) s)
  have h58 : RsB mdX12_isFar r kb (tX12_isFar_58 kb) := row_B hA h78 qX12_isFar_78 (ck_n rfl) rfl (fun xs ys s => eX12_isFar_78 kb (xs.getD 0 0) (xs.getD 1 0) (xs.getD 2 0) (xs.getD 3 0) (xs.getD 4 0) (xs.getD 5 0) (xs.getD 6 0) (ys.getD 0 0) s)
  have h42 : RsB mdX12_isFar r kb (tX12_isFar_42 kb) := row_B hA h58 qX12_isFar_58 (ck_n rfl) rfl (fun xs ys s => eX12_isFar_58 kb (xs.getD 0 0) (xs.getD 1 0) (xs.getD 2 0) (xs.getD 3 0) (xs.getD 4 0) (xs.getD 5 0) (xs.getD 6 0) (xs.getD 7 0) (ys.getD 0 0) s)
  have h26 : RsB mdX12_isFar r kb (tX12_isFar_26 kb) := row_B hA h42 qX12_isFar_42 (ck_n rfl) rfl (fun xs ys s => eX12_isFar_42 kb (xs.getD 0 0) (xs.getD 1 0) (xs.getD 2 0) (xs.getD 3 0) (xs.getD 4 0) (xs.getD 5 0) (xs.getD 6 0) (xs.getD 7 0) s)
  have h0 : RsB mdX12_isFar r kb (tX12_isFar_0 kb) := row_B hA h26 qX12_isFar_26 (ck_n rfl) rfl (fun xs ys s => eX12_isFar_26 kb (xs.getD 0 0) (xs.getD 1 0) (xs.getD 2 0) (xs.getD 3 0) (xs.getD 4 0) (xs.getD 5 0) (xs.getD 6 0) (xs.getD 7 0) s)
  exact row_B hA h0 qX12_isFar_0 (ck_n rfl) rfl (fun xs ys s => eX12_isFar_0 kb (xs.getD 0 0) (xs.getD 1 0) (xs.getD 2 0) (xs.getD 3 0) s)
theorem iX12_isFar (hA : AOK) : Impl mdX12_isFar gX12_isFar := ent_B (kk := kX12_isFar) (rr := rX12_isFar) (f := fun kb => fun xs ys s => fX12_isFar_0 kb (xs.getD 0 0) (xs.getD 1 0) (xs.getD 2 0) (xs.getD 3 0) s) (by decide +kernel) rfl (fun _ => rfl) (fun r kb => pX12_isFar hA r kb) (fun kb => ⟨_, rfl⟩) 9999 id (fun xs s => rfl) (fun xs => wkl_rf _)
-- FloatparadeModel.doubts(II)Z
theorem mkX12_doubts : MK mdX12_doubts true := MKb_ok (h1 := 1788) (h2 := 76) (h3 := 1787) (h4 := 67) (by decide +kernel)
theorem qX12_doubts_0 : blkb mdX12_doubts 5 0 bX12_doubts_0 [[], [], [], []] = true := by decide +kernel
theorem qX12_doubts_5 : blkb mdX12_doubts 0 5 bX12_doubts_5 [[], [], [], [], [], [], [], [], [1789], [], [], []] = true := by decide +kernel
theorem qX12_doubts_27 : blkb mdX12_doubts 28 27 bX12_doubts_27 [[]] = true := by decide +kernel
theorem qX12_doubts_28 : blkb mdX12_doubts 0 28 bX12_doubts_28 [[], [], [], []] = true := by decide +kernel
theorem qX12_doubts_36 : blkb mdX12_doubts 0 36 bX12_doubts_36 [[], [], [], [], []] = true := by decide +kernel
theorem qX12_doubts_45 : blkb mdX12_doubts 46 45 bX12_doubts_45 [[]] = true := by decide +kernel
theorem qX12_doubts_46 : blkb mdX12_doubts 0 46 bX12_doubts_46 [[]] = true := by decide +kernel
theorem pX12_doubts (hA : AOK) (r : Rt) (kb : Co) : RsB mdX12_doubts r kb (rX12_doubts kb) := by
  have h46 : RsB mdX12_doubts r kb (tX12_doubts_46 kb) := row_0
  have h45 : RsB mdX12_doubts r kb (tX12_doubts_45 kb) := row_B hA h46 qX12_doubts_46 (ck_n rfl) rfl (fun xs ys s => eX12_doubts_46 kb (ys.getD 0 0) s)
  have h36 : RsB mdX12_doubts r kb (tX12_doubts_36 kb) := row_B hA h45 qX12_doubts_45 (ck_n rfl) rfl (fun xs ys s => eX12_doubts_45 kb s)
  have h28 : RsB mdX12_doubts r kb (tX12_doubts_28 kb) := row_B hA h36 qX12_doubts_36 (ck_n rfl) rfl (fun xs ys s => eX12_doubts_36 kb (xs.getD 0 0) s)
  have h27 : RsB mdX12_doubts r kb (tX12_doubts_27 kb) := row_B hA h28 qX12_doubts_28 (ck_n rfl) rfl (fun xs ys s => eX12_doubts_28 kb (xs.getD 0 0) (xs.getD 1 0) (xs.getD 2 0) (xs.getD 3 0) (ys.getD 0 0) (ys.getD 1 0) s)
  have h5 : RsB mdX12_doubts r kb (tX12_doubts_5 kb) := row_B hA h27 qX12_doubts_27 (ck_n rfl) rfl (fun xs ys s => eX12_doubts_27 kb (xs.getD 0 0) (xs.getD 1 0) (xs.getD 2 0) (xs.getD 3 0) (ys.getD 0 0) s)
  have h0 : RsB mdX12_doubts r kb (tX12_doubts_0 kb) := row_B hA h5 qX12_doubts_5 (And.intro trivial (And.intro trivial (And.intro trivial (And.intro trivial (And.intro trivial (And.intro trivial (And.intro trivial (And.intro trivial (And.intro (co_of mkX12_isFar (iX12_isFar hA)) (ck_n rfl)))))))))) rfl (fun xs ys s => eX12_doubts_5 kb (xs.getD 0 0) (xs.getD 1 0) (xs.getD 2 0) (xs.getD 3 0) (xs.getD 4 0) s)
  exact row_B hA h0 qX12_doubts_0 (ck_n rfl) rfl (fun xs ys s => eX12_doubts_0 kb (xs.getD 0 0) (xs.getD 1 0) (xs.getD 2 0) s)
theorem iX12_doubts (hA : AOK) : Impl mdX12_doubts gX12_doubts := ent_B (kk := kX12_doubts) (rr := rX12_doubts) (f := fun kb => fun xs ys s => fX12_doubts_0 kb (xs.getD 0 0) (xs.getD 1 0) (xs.getD 2 0) s) (by decide +kernel) rfl (fun _ => rfl) (fun r kb => pX12_doubts hA r kb) (fun kb => ⟨_, rfl⟩) 9999 id (fun xs s => rfl) (fun xs => wkl_rf _)
-- FloatparadeModel.isDoubted(II)Z
theorem mkX12_isDoubted : MK mdX12_isDoubted true := MKb_ok (h1 := 1784) (h2 := 76) (h3 := 1782) (h4 := 1783) (by decide +kernel)
theorem qX12_isDoubted_0 : blkb mdX12_isDoubted 0 0 bX12_isDoubted_0 [[], [], [], [1508], [], [], []] = true := by decide +kernel
theorem qX12_isDoubted_13 : blkb mdX12_isDoubted 0 13 bX12_isDoubted_13 [[], [], [], [1497], [], [], []] = true := by decide +kernel
theorem qX12_isDoubted_26 : blkb mdX12_isDoubted 27 26 bX12_isDoubted_26 [[]] = true := by decide +kernel
theorem qX12_isDoubted_27 : blkb mdX12_isDoubted 0 27 bX12_isDoubted_27 [[1500], [], [], [], [], [1785], [], [], []] = true := by decide +kernel
theorem qX12_isDoubted_46 : blkb mdX12_isDoubted 47 46 bX12_isDoubted_46 [[]] = true := by decide +kernel
theorem qX12_isDoubted_47 : blkb mdX12_isDoubted 0 47 bX12_isDoubted_47 [[]] = true := by decide +kernel
theorem pX12_isDoubted (hA : AOK) (r : Rt) (kb : Co) : RsB mdX12_isDoubted r kb (rX12_isDoubted kb) := by
  have h47 : RsB mdX12_isDoubted r kb (tX12_isDoubted_47 kb) := row_0
  have h46 : RsB mdX12_isDoubted r kb (tX12_isDoubted_46 kb) := row_B hA h47 qX12_isDoubted_47 (ck_n rfl) rfl (fun xs ys s => eX12_isDoubted_47 kb (ys.getD 0 0) s)
  have h27 : RsB mdX12_isDoubted r kb (tX12_isDoubted_27 kb) := row_B hA h46 qX12_isDoubted_46 (ck_n rfl) rfl (fun xs ys s => eX12_isDoubted_46 kb s)
  have h26 : RsB mdX12_isDoubted r kb (tX12_isDoubted_26 kb) := row_B hA h27 qX12_isDoubted_27 (And.intro (co_of mkX12_holds (iX12_holds hA)) (And.intro trivial (And.intro trivial (And.intro trivial (And.intro trivial (And.intro (co_of mkX12_doubts (iX12_doubts hA)) (ck_n rfl))))))) rfl (fun xs ys s => eX12_isDoubted_27 kb (xs.getD 0 0) (xs.getD 1 0) (xs.getD 2 0) (ys.getD 0 0) (ys.getD 1 0) s)
  have h13 : RsB mdX12_isDoubted r kb (tX12_isDoubted_13 kb) := row_B hA h26 qX12_isDoubted_26 (ck_n rfl) rfl (fun xs ys s => eX12_isDoubted_26 kb (xs.getD 0 0) (xs.getD 1 0) (xs.getD 2 0) (ys.getD 0 0) s)
  have h0 : RsB mdX12_isDoubted r kb (tX12_isDoubted_0 kb) := row_B hA h13 qX12_isDoubted_13 (And.intro trivial (And.intro trivial (And.intro trivial (And.intro (co_of mkX12_in (iX12_in hA)) (ck_n rfl))))) rfl (fun xs ys s => eX12_isDoubted_13 kb (xs.getD 0 0) (xs.getD 1 0) (xs.getD 2 0) (ys.getD 0 0) s)
  exact row_B hA h0 qX12_isDoubted_0 (And.intro trivial (And.intro trivial (And.intro trivial (And.intro (co_of mkX12_isSociety (iX12_isSociety hA)) (ck_n rfl))))) rfl (fun xs ys s => eX12_isDoubted_0 kb (xs.getD 0 0) (xs.getD 1 0) (xs.getD 2 0) s)
theorem iX12_isDoubted (hA : AOK) : Impl mdX12_isDoubted gX12_isDoubted := ent_B (kk := kX12_isDoubted) (rr := rX12_isDoubted) (f := fun kb => fun xs ys s => fX12_isDoubted_0 kb (xs.getD 0 0) (xs.getD 1 0) (xs.getD 2 0) s) (by decide +kernel) rfl (fun _ => rfl) (fun r kb => pX12_isDoubted hA r kb) (fun kb => ⟨_, rfl⟩) 0 id (fun xs s => rfl) (fun xs => wkl_rf _)
-- FloatparadeModel.table(II)I
theorem mkX12_table : MK mdX12_table true := MKb_ok (h1 := 1796) (h2 := 76) (h3 := 1794) (h4 := 1795) (by decide +kernel)
theorem qX12_table_0 : blkb mdX12_table 0 0 bX12_table_0 [[], [], [], [], []] = true := by decide +kernel
theorem qX12_table_9 : blkb mdX12_table 0 9 bX12_table_9 [[], [1494], [], [], []] = true := by decide +kernel
theorem qX12_table_20 : blkb mdX12_table 21 20 bX12_table_20 [[]] = true := by decide +kernel
theorem qX12_table_21 : blkb mdX12_table 0 21 bX12_table_21 [[1500], [], [], []] = true := by decide +kernel
theorem qX12_table_29 : blkb mdX12_table 0 29 bX12_table_29 [[], [], [], [1753], []] = true := by decide +kernel
theorem pX12_table (hA : AOK) (r : Rt) (kb : Co) : RsB mdX12_table r kb (rX12_table kb) := by
  have h29 : RsB mdX12_table r kb (tX12_table_29 kb) := row_0
  have h21 : RsB mdX12_table r kb (tX12_table_21 kb) := row_B hA h29 qX12_table_29 (And.intro trivial (And.intro trivial (And.intro trivial (And.intro (co_of mkX12_tableAt (iX12_tableAt hA)) (ck_n rfl))))) rfl (fun xs ys s => eX12_table_29 kb (xs.getD 0 0) (xs.getD 1 0) (xs.getD 2 0) s)
  have h20 : RsB mdX12_table r kb (tX12_table_20 kb) := row_B hA h21 qX12_table_21 (And.intro (co_of mkX12_holds (iX12_holds hA)) (ck_n rfl)) rfl (fun xs ys s => eX12_table_21 kb (xs.getD 0 0) (xs.getD 1 0) (xs.getD 2 0) (ys.getD 0 0) (ys.getD 1 0) s)
  have h9 : RsB mdX12_table r kb (tX12_table_9 kb) := row_B hA h20 qX12_table_20 (ck_n rfl) rfl (fun xs ys s => eX12_table_20 kb (xs.getD 0 0) (xs.getD 1 0) (xs.getD 2 0) (ys.getD 0 0) s)
  have h0 : RsB mdX12_table r kb (tX12_table_0 kb) := row_B hA h9 qX12_table_9 (And.intro trivial (And.intro (co_of mkX12_isLeague (iX12_isLeague hA)) (ck_n rfl))) rfl (fun xs ys s => eX12_table_9 kb (xs.getD 0 0) (xs.getD 1 0) (xs.getD 2 0) (ys.getD 0 0) s)
  exact row_B hA h0 qX12_table_0 (ck_n rfl) rfl (fun xs ys s => eX12_table_0 kb (xs.getD 0 0) (xs.getD 1 0) (xs.getD 2 0) s)
theorem iX12_table (hA : AOK) : Impl mdX12_table gX12_table := ent_B (kk := kX12_table) (rr := rX12_table) (f := fun kb => fun xs ys s => fX12_table_0 kb (xs.getD 0 0) (xs.getD 1 0) (xs.getD 2 0) s) (by decide +kernel) rfl (fun _ => rfl) (fun r kb => pX12_table hA r kb) (fun kb => ⟨_, rfl⟩) 0 id (fun xs s => rfl) (fun xs => wkl_rf _)
