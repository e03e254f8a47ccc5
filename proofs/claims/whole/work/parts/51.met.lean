-- Floatparade$Society.time()I
theorem mkX6_time : MK mdX6_time true := MKb_ok (h1 := 1099) (h2 := 82) (h3 := 1097) (h4 := 1098) (by decide +kernel)
theorem qX6_time_0 : blkb mdX6_time 0 0 bX6_time_0 [[], [433], [], [], [], []] = true := by decide +kernel
theorem qX6_time_12 : blkb mdX6_time 23 12 bX6_time_12 [[], [433], [], [430], [], [], []] = true := by decide +kernel
theorem qX6_time_23 : blkb mdX6_time 0 23 bX6_time_23 [[]] = true := by decide +kernel
theorem pX6_time (hA : AOK) (r : Rt) (kb : Co) : RsB mdX6_time r kb (rX6_time kb) := by
  have h23 : RsB mdX6_time r kb (tX6_time_23 kb) := row_0
  have h12 : RsB mdX6_time r kb (tX6_time_12 kb) := row_B hA h23 qX6_time_23 (ck_n rfl) rfl (fun xs ys s => eX6_time_23 kb (ys.getD 0 0) s)
  have h0 : RsB mdX6_time r kb (tX6_time_0 kb) := row_B hA h12 qX6_time_12 (ck_n rfl) rfl (fun xs ys s => eX6_time_12 kb (xs.getD 0 0) s)
  exact row_B hA h0 qX6_time_0 (ck_n rfl) rfl (fun xs ys s => eX6_time_0 kb (xs.getD 0 0) s)
theorem iX6_time (hA : AOK) : Impl mdX6_time gX6_time := ent_B (kk := kX6_time) (rr := rX6_time) (f := fun kb => fun xs ys s => fX6_time_0 kb (xs.getD 0 0) s) (by decide +kernel) rfl (fun _ => rfl) (fun r kb => pX6_time hA r kb) (fun kb => ⟨_, rfl⟩) 0 id (fun xs s => rfl) (fun xs => wkl_rf _)
-- Floatparade$Score.punish(II)V
theorem mkX5_punish : MK mdX5_punish true := MKb_ok (h1 := 1107) (h2 := 84) (h3 := 1105) (h4 := 1106) (by decide +kernel)
theorem qX5_punish_0 : blkb mdX5_punish 0 0 bX5_punish_0 [[], [386], [], [], [], [], [1108], [], []] = true := by decide +kernel
theorem qX5_punish_16 : blkb mdX5_punish 0 16 bX5_punish_16 [[], [383], [], [], [], [], [384], [], [], [], [], [385], [], [], [], [], [], [], [], [386], []] = true := by decide +kernel
theorem pX5_punish (hA : AOK) (r : Rt) (kb : Co) : RsB mdX5_punish r kb (rX5_punish kb) := by
  have h16 : RsB mdX5_punish r kb (tX5_punish_16 kb) := row_0
  have h0 : RsB mdX5_punish r kb (tX5_punish_0 kb) := row_B hA h16 qX5_punish_16 (ck_n rfl) rfl (fun xs ys s => eX5_punish_16 kb (xs.getD 0 0) (xs.getD 1 0) (xs.getD 2 0) (xs.getD 3 0) s)
  exact row_B hA h0 qX5_punish_0 (And.intro trivial (And.intro trivial (And.intro trivial (And.intro trivial (And.intro trivial (And.intro trivial (And.intro (co_of mkX11_isWithin (iX11_isWithin hA)) (ck_n rfl)))))))) rfl (fun xs ys s => eX5_punish_0 kb (xs.getD 0 0) (xs.getD 1 0) (xs.getD 2 0) s)
theorem iX5_punish (hA : AOK) : Impl mdX5_punish gX5_punish := ent_B (kk := kX5_punish) (rr := rX5_punish) (f := fun kb => fun xs ys s => fX5_punish_0 kb (xs.getD 0 0) (xs.getD 1 0) (xs.getD 2 0) s) (by decide +kernel) rfl (fun _ => rfl) (fun r kb => pX5_punish hA r kb) (fun kb => ⟨_, rfl⟩) 0 id (fun xs s => rfl) (fun xs => wkl_rf _)
-- Floatparade$Society.punishIfAny(II)V
theorem mkX6_punishIfAny : MK mdX6_punishIfAny true := MKb_ok (h1 := 1103) (h2 := 82) (h3 := 1102) (h4 := 23) (by decide +kernel)
theorem qX6_punishIfAny_0 : blkb mdX6_punishIfAny 13 0 bX6_punishIfAny_0 [[], [], [], [410], [], [], [1104]] = true := by decide +kernel
theorem qX6_punishIfAny_13 : blkb mdX6_punishIfAny 0 13 bX6_punishIfAny_13 [[]] = true := by decide +kernel
theorem pX6_punishIfAny (hA : AOK) (r : Rt) (kb : Co) : RsB mdX6_punishIfAny r kb (rX6_punishIfAny kb) := by
  have h13 : RsB mdX6_punishIfAny r kb (tX6_punishIfAny_13 kb) := row_0
  have h0 : RsB mdX6_punishIfAny r kb (tX6_punishIfAny_0 kb) := row_B hA h13 qX6_punishIfAny_13 (ck_n rfl) rfl (fun xs ys s => eX6_punishIfAny_13 kb s)
  exact row_B hA h0 qX6_punishIfAny_0 (And.intro trivial (And.intro trivial (And.intro trivial (And.intro trivial (And.intro trivial (And.intro trivial (And.intro (co_of mkX5_punish (iX5_punish hA)) (ck_n rfl)))))))) rfl (fun xs ys s => eX6_punishIfAny_0 kb (xs.getD 0 0) (xs.getD 1 0) (xs.getD 2 0) s)
theorem iX6_punishIfAny (hA : AOK) : Impl mdX6_punishIfAny gX6_punishIfAny := ent_B (kk := kX6_punishIfAny) (rr := rX6_punishIfAny) (f := fun kb => fun xs ys s => fX6_punishIfAny_0 kb (xs.getD 0 0) (xs.getD 1 0) (xs.getD 2 0) s) (by decide +kernel) rfl (fun _ => rfl) (fun r kb => pX6_punishIfAny hA r kb) (fun kb => ⟨_, rfl⟩) 0 id (fun xs s => rfl) (fun xs => wkl_rf _)
-- Floatparade$Society.punishForMarch(II)V
theorem mkX6_punishForMarch : MK mdX6_punishForMarch true := MKb_ok (h1 := 1095) (h2 := 82) (h3 := 1093) (h4 := 1094) (by decide +kernel)
theorem qX6_punishForMarch_0 : blkb mdX6_punishForMarch 0 0 bX6_punishForMarch_0 [[], [1096], [], [], [], [], [], [], [], [], [1100], [], [], [], [], [], [], [], [1100], [], [], [], [436], [1100], []] = true := by decide +kernel
theorem pX6_punishForMarch (hA : AOK) (r : Rt) (kb : Co) : RsB mdX6_punishForMarch r kb (rX6_punishForMarch kb) := by
  have h0 : RsB mdX6_punishForMarch r kb (tX6_punishForMarch_0 kb) := row_0
  exact row_B hA h0 qX6_punishForMarch_0 (And.intro trivial (And.intro (co_of mkX6_time (iX6_time hA)) (And.intro trivial (And.intro trivial (And.intro trivial (And.intro trivial (And.intro trivial (And.intro trivial (And.intro trivial (And.intro trivial (And.intro (co_of mkX6_punishIfAny (iX6_punishIfAny hA)) (And.intro trivial (And.intro trivial (And.intro trivial (And.intro trivial (And.intro trivial (And.intro trivial (And.intro trivial (And.intro (co_of mkX6_punishIfAny (iX6_punishIfAny hA)) (And.intro trivial (And.intro trivial (And.intro trivial (And.intro trivial (And.intro (co_of mkX6_punishIfAny (iX6_punishIfAny hA)) (ck_n rfl))))))))))))))))))))))))) rfl (fun xs ys s => eX6_punishForMarch_0 kb (xs.getD 0 0) (xs.getD 1 0) (xs.getD 2 0) s)
theorem iX6_punishForMarch (hA : AOK) : Impl mdX6_punishForMarch gX6_punishForMarch := ent_B (kk := kX6_punishForMarch) (rr := rX6_punishForMarch) (f := fun kb => fun xs ys s => fX6_punishForMarch_0 kb (xs.getD 0 0) (xs.getD 1 0) (xs.getD 2 0) s) (by decide +kernel) rfl (fun _ => rfl) (fun r kb => pX6_punishForMarch hA r kb) (fun kb => ⟨_, rfl⟩) 0 id (fun xs s => rfl) (fun xs => wkl_rf _)
-- Floatparade$Line.end()V
theorem mkX1_end : MK mdX1_end true := MKb_ok (h1 := 1091) (h2 := 75) (h3 := 1090) (h4 := 22) (by decide +kernel)
theorem qX1_end_0 : blkb mdX1_end 7 0 bX1_end_0 [[], [], [184], [], []] = true := by decide +kernel
theorem qX1_end_7 : blkb mdX1_end 61 7 bX1_end_7 [[], [], [176], [], [], [], [1026], [], [], [], [], [942], [], [], [], [], [], [], [942], [1080], [], [], [942], [], [179], [], [180], [1092]] = true := by decide +kernel
theorem qX1_end_61 : blkb mdX1_end 0 61 bX1_end_61 [[], []] = true := by decide +kernel
theorem qX1_end_67 : blkb mdX1_end 0 67 bX1_end_67 [[]] = true := by decide +kernel
theorem pX1_end (hA : AOK) (r : Rt) (kb : Co) : RsB mdX1_end r kb (rX1_end kb) := by
  have h67 : RsB mdX1_end r kb (tX1_end_67 kb) := row_0
  have h61 : RsB mdX1_end r kb (tX1_end_61 kb) := row_B hA h67 qX1_end_67 (ck_n rfl) rfl (fun xs ys s => eX1_end_67 kb s)
  have h7 : RsB mdX1_end r kb (tX1_end_7 kb) := row_B hA h61 qX1_end_61 (ck_n rfl) rfl (fun xs ys s => eX1_end_61 kb (xs.getD 0 0) (xs.getD 1 0) s)
  have h0 : RsB mdX1_end r kb (tX1_end_0 kb) := row_B hA h7 qX1_end_7 (And.intro trivial (And.intro trivial (And.intro trivial (And.intro trivial (And.intro trivial (And.intro trivial (And.intro (co_of mkX1_partAt (iX1_partAt hA)) (And.intro trivial (And.intro trivial (And.intro trivial (And.intro trivial (And.intro trivial (And.intro trivial (And.intro trivial (And.intro trivial (And.intro trivial (And.intro trivial (And.intro trivial (And.intro trivial (And.intro (co_of mkX1_isOwner (iX1_isOwner hA)) (And.intro trivial (And.intro trivial (And.intro trivial (And.intro trivial (And.intro trivial (And.intro trivial (And.intro trivial (And.intro (co_of mkX6_punishForMarch (iX6_punishForMarch hA)) (ck_n rfl))))))))))))))))))))))))))))) rfl (fun xs ys s => eX1_end_7 kb (xs.getD 0 0) (xs.getD 1 0) s)
  exact row_B hA h0 qX1_end_0 (ck_n rfl) rfl (fun xs ys s => eX1_end_0 kb (xs.getD 0 0) s)
theorem iX1_end (hA : AOK) : Impl mdX1_end gX1_end := ent_B (kk := kX1_end) (rr := rX1_end) (f := fun kb => fun xs ys s => fX1_end_0 kb (xs.getD 0 0) s) (by decide +kernel) rfl (fun _ => rfl) (fun r kb => pX1_end hA r kb) (fun kb => ⟨_, rfl⟩) 9999 id (fun xs s => rfl) (fun xs => wkl_rf _)
-- Floatparade$Line.passMinute(LFloatparade$Route;LFloatparade$Town;Z)V
theorem mkX1_passMinute : MK mdX1_passMinute true := MKb_ok (h1 := 1038) (h2 := 75) (h3 := 1036) (h4 := 1037) (by decide +kernel)
theorem qX1_passMinute_0 : blkb mdX1_passMinute 19 0 bX1_passMinute_0 [[], [], [177], [], [], [177], [], [1039], [], [], []] = true := by decide +kernel
theorem qX1_passMinute_19 : blkb mdX1_passMinute 0 19 bX1_passMinute_19 [[], [], [176], [], [], [], [], [], [], [1040], [], []] = true := by decide +kernel
theorem qX1_passMinute_43 : blkb mdX1_passMinute 46 43 bX1_passMinute_43 [[], []] = true := by decide +kernel
theorem qX1_passMinute_46 : blkb mdX1_passMinute 0 46 bX1_passMinute_46 [[], [], [176], [], [], [], [], [1072], [], [], [], [1076], [], []] = true := by decide +kernel
theorem qX1_passMinute_77 : blkb mdX1_passMinute 108 77 bX1_passMinute_77 [[], [1084], [], [], [176], [], [], [1026], [], [], [], [], [], [1044], []] = true := by decide +kernel
theorem qX1_passMinute_108 : blkb mdX1_passMinute 112 108 bX1_passMinute_108 [[], [1088]] = true := by decide +kernel
theorem qX1_passMinute_112 : blkb mdX1_passMinute 0 112 bX1_passMinute_112 [[]] = true := by decide +kernel
theorem pX1_passMinute (hA : AOK) (r : Rt) (kb : Co) : RsB mdX1_passMinute r kb (rX1_passMinute kb) := by
  have h112 : RsB mdX1_passMinute r kb (tX1_passMinute_112 kb) := row_0
  have h108 : RsB mdX1_passMinute r kb (tX1_passMinute_108 kb) := row_B hA h112 qX1_passMinute_112 (ck_n rfl) rfl (fun xs ys s => eX1_passMinute_112 kb s)
  have h77 : RsB mdX1_passMinute r kb (tX1_passMinute_77 kb) := row_B hA h108 qX1_passMinute_108 (And.intro trivial (And.intro (co_of mkX1_end (iX1_end hA)) (ck_n rfl))) rfl (fun xs ys s => eX1_passMinute_108 kb (xs.getD 0 0) s)
  have h46 : RsB mdX1_passMinute r kb (tX1_passMinute_46 kb) := row_B hA h77 qX1_passMinute_77 (And.intro trivial (And.intro (co_of mkX1_passHolds (iX1_passHolds hA)) (And.intro trivial (And.intro trivial (And.intro trivial (And.intro trivial (And.intro trivial (And.intro (co_of mkX1_partAt (iX1_partAt hA)) (And.intro trivial (And.intro trivial (And.intro trivial (And.intro trivial (And.intro trivial (And.intro (co_of mkX2_isOut (iX2_isOut hA)) (ck_n rfl))))))))))))))) rfl (fun xs ys s => eX1_passMinute_77 kb (xs.getD 0 0) (xs.getD 1 0) s)
  have h43 : RsB mdX1_passMinute r kb (tX1_passMinute_43 kb) := row_B hA h46 qX1_passMinute_46 (And.intro trivial (And.intro trivial (And.intro trivial (And.intro trivial (And.intro trivial (And.intro trivial (And.intro trivial (And.intro (co_of mkX1_countGap (iX1_countGap hA)) (And.intro trivial (And.intro trivial (And.intro trivial (And.intro (co_of mkX1_readClock (iX1_readClock hA)) (ck_n rfl))))))))))))) rfl (fun xs ys s => eX1_passMinute_46 kb (xs.getD 0 0) (xs.getD 1 0) (xs.getD 2 0) s)
  have h19 : RsB mdX1_passMinute r kb (tX1_passMinute_19 kb) := row_B hA h43 qX1_passMinute_43 (ck_n rfl) rfl (fun xs ys s => eX1_passMinute_43 kb (xs.getD 0 0) (xs.getD 1 0) s)
  have h0 : RsB mdX1_passMinute r kb (tX1_passMinute_0 kb) := row_B hA h19 qX1_passMinute_19 (And.intro trivial (And.intro trivial (And.intro trivial (And.intro trivial (And.intro trivial (And.intro trivial (And.intro trivial (And.intro trivial (And.intro trivial (And.intro (co_of mkX1_advance (iX1_advance hA)) (ck_n rfl))))))))))) rfl (fun xs ys s => eX1_passMinute_19 kb (xs.getD 0 0) (xs.getD 1 0) (xs.getD 2 0) (xs.getD 3 0) (xs.getD 4 0) (xs.getD 5 0) s)
  exact row_B hA h0 qX1_passMinute_0 (And.intro trivial (And.intro trivial (And.intro trivial (And.intro trivial (And.intro trivial (And.intro trivial (And.intro trivial (And.intro (co_of mkX3_cells (iX3_cells hA)) (ck_n rfl))))))))) rfl (fun xs ys s => eX1_passMinute_0 kb (xs.getD 0 0) (xs.getD 1 0) (xs.getD 2 0) (xs.getD 3 0) s)
theorem iX1_passMinute (hA : AOK) : Impl mdX1_passMinute gX1_passMinute := ent_B (kk := kX1_passMinute) (rr := rX1_passMinute) (f := fun kb => fun xs ys s => fX1_passMinute_0 kb (xs.getD 0 0) (xs.getD 1 0) (xs.getD 2 0) (xs.getD 3 0) s) (by decide +kernel) rfl (fun _ => rfl) (fun r kb => pX1_passMinute hA r kb) (fun kb => ⟨_, rfl⟩) 9999 id (fun xs s => rfl) (fun xs => wkl_rf _)
-- Floatparade$Part.tell(II)I
theorem mkX2_tell : MK mdX2_tell true := MKb_ok (h1 := 1122) (h2 := 90) (h3 := 1120) (h4 := 1121) (by decide +kernel)
theorem qX2_tell_0 : blkb mdX2_tell 0 0 bX2_tell_0 [[], []] = true := by decide +kernel
theorem qX2_tell_32 : blkb mdX2_tell 0 32 bX2_tell_32 [[], [941], [], [], []] = true := by decide +kernel
theorem qX2_tell_43 : blkb mdX2_tell 50 43 bX2_tell_43 [[], [941], [405]] = true := by decide +kernel
theorem qX2_tell_50 : blkb mdX2_tell 0 50 bX2_tell_50 [[]] = true := by decide +kernel
theorem qX2_tell_51 : blkb mdX2_tell 0 51 bX2_tell_51 [[], [943], []] = true := by decide +kernel
theorem qX2_tell_56 : blkb mdX2_tell 0 56 bX2_tell_56 [[], [944], []] = true := by decide +kernel
theorem qX2_tell_61 : blkb mdX2_tell 0 61 bX2_tell_61 [[], [946], []] = true := by decide +kernel
theorem qX2_tell_66 : blkb mdX2_tell 0 66 bX2_tell_66 [[], [], [1123], [], [], []] = true := by decide +kernel
theorem qX2_tell_78 : blkb mdX2_tell 79 78 bX2_tell_78 [[]] = true := by decide +kernel
theorem qX2_tell_79 : blkb mdX2_tell 0 79 bX2_tell_79 [[]] = true := by decide +kernel
theorem pX2_tell (hA : AOK) (r : Rt) (kb : Co) : RsB mdX2_tell r kb (rX2_tell kb) := by
  have h79 : RsB mdX2_tell r kb (tX2_tell_79 kb) := row_0
  have h78 : RsB mdX2_tell r kb (tX2_tell_78 kb) := row_B hA h79 qX2_tell_79 (ck_n rfl) rfl (fun xs ys s => eX2_tell_79 kb (ys.getD 0 0) s)
  have h66 : RsB mdX2_tell r kb (tX2_tell_66 kb) := row_B hA h78 qX2_tell_78 (ck_n rfl) rfl (fun xs ys s => eX2_tell_78 kb s)
  have h61 : RsB mdX2_tell r kb (tX2_tell_61 kb) := row_B hA h66 qX2_tell_66 (And.intro trivial (And.intro trivial (And.intro (co_of mkX2_isOut (iX2_isOut hA)) (ck_n rfl)))) rfl (fun xs ys s => eX2_tell_66 kb (xs.getD 0 0) (xs.getD 1 0) s)
  have h56 : RsB mdX2_tell r kb (tX2_tell_56 kb) := row_B hA h61 qX2_tell_61 (ck_n rfl) rfl (fun xs ys s => eX2_tell_61 kb (xs.getD 0 0) s)
  have h51 : RsB mdX2_tell r kb (tX2_tell_51 kb) := row_B hA h56 qX2_tell_56 (ck_n rfl) rfl (fun xs ys s => eX2_tell_56 kb (xs.getD 0 0) s)
  have h50 : RsB mdX2_tell r kb (tX2_tell_50 kb) := row_B hA h51 qX2_tell_51 (ck_n rfl) rfl (fun xs ys s => eX2_tell_51 kb (xs.getD 0 0) s)
  have h43 : RsB mdX2_tell r kb (tX2_tell_43 kb) := row_B hA h50 qX2_tell_50 (ck_n rfl) rfl (fun xs ys s => eX2_tell_50 kb (ys.getD 0 0) s)
  have h32 : RsB mdX2_tell r kb (tX2_tell_32 kb) := row_B hA h43 qX2_tell_43 (ck_n rfl) rfl (fun xs ys s => eX2_tell_43 kb (xs.getD 0 0) s)
  have h0 : RsB mdX2_tell r kb (tX2_tell_0 kb) := row_B hA h32 qX2_tell_32 (ck_n rfl) rfl (fun xs ys s => eX2_tell_32 kb (xs.getD 0 0) s)
  exact row_B hA h0 qX2_tell_0 (ck_n rfl) rfl (fun xs ys s => eX2_tell_0 kb (xs.getD 0 0) (xs.getD 1 0) (xs.getD 2 0) s)
theorem iX2_tell (hA : AOK) : Impl mdX2_tell gX2_tell := ent_B (kk := kX2_tell) (rr := rX2_tell) (f := fun kb => fun xs ys s => fX2_tell_0 kb (xs.getD 0 0) (xs.getD 1 0) (xs.getD 2 0) s) (by decide +kernel) rfl (fun _ => rfl) (fun r kb => pX2_tell hA r kb) (fun kb => ⟨_, rfl⟩) 0 id (fun xs s => rfl) (fun xs => wkl_rf _)
-- Floatparade$Route.startAt(I)V
theorem mkX3_startAt : MK mdX3_startAt true := MKb_ok (h1 := 677) (h2 := 73) (h3 := 675) (h4 := 676) (by decide +kernel)
theorem qX3_startAt_0 : blkb mdX3_startAt 0 0 bX3_startAt_0 [[], [134], [], [], [], [], [], [137], []] = true := by decide +kernel
theorem pX3_startAt (hA : AOK) (r : Rt) (kb : Co) : RsB mdX3_startAt r kb (rX3_startAt kb) := by
  have h0 : RsB mdX3_startAt r kb (tX3_startAt_0 kb) := row_0
  exact row_B hA h0 qX3_startAt_0 (ck_n rfl) rfl (fun xs ys s => eX3_startAt_0 kb (xs.getD 0 0) (xs.getD 1 0) s)
theorem iX3_startAt (hA : AOK) : Impl mdX3_startAt gX3_startAt := ent_B (kk := kX3_startAt) (rr := rX3_startAt) (f := fun kb => fun xs ys s => fX3_startAt_0 kb (xs.getD 0 0) (xs.getD 1 0) s) (by decide +kernel) rfl (fun _ => rfl) (fun r kb => pX3_startAt hA r kb) (fun kb => ⟨_, rfl⟩) 0 id (fun xs s => rfl) (fun xs => wkl_rf _)
-- Floatparade$Route.streetTo(I)LFloatparade$Street;
theorem mkX3_streetTo : MK mdX3_streetTo true := MKb_ok (h1 := 807) (h2 := 73) (h3 := 805) (h4 := 806) (by decide +kernel)
theorem qX3_streetTo_0 : blkb mdX3_streetTo 0 0 bX3_streetTo_0 [[], [], [], [137], [], [], [693], [], [], [], [136], [], [], [], [136], [], [], []] = true := by decide +kernel
theorem qX3_streetTo_32 : blkb mdX3_streetTo 33 32 bX3_streetTo_32 [[]] = true := by decide +kernel
theorem qX3_streetTo_33 : blkb mdX3_streetTo 0 33 bX3_streetTo_33 [[]] = true := by decide +kernel
theorem pX3_streetTo (hA : AOK) (r : Rt) (kb : Co) : RsB mdX3_streetTo r kb (rX3_streetTo kb) := by
  have h33 : RsB mdX3_streetTo r kb (tX3_streetTo_33 kb) := row_0
  have h32 : RsB mdX3_streetTo r kb (tX3_streetTo_32 kb) := row_B hA h33 qX3_streetTo_33 (ck_n rfl) rfl (fun xs ys s => eX3_streetTo_33 kb (ys.getD 0 0) s)
  have h0 : RsB mdX3_streetTo r kb (tX3_streetTo_0 kb) := row_B hA h32 qX3_streetTo_32 (ck_n rfl) rfl (fun xs ys s => eX3_streetTo_32 kb s)
  exact row_B hA h0 qX3_streetTo_0 (And.intro trivial (And.intro trivial (And.intro trivial (And.intro trivial (And.intro trivial (And.intro trivial (And.intro (co_of mkX11_isWithin (iX11_isWithin hA)) (ck_n rfl)))))))) rfl (fun xs ys s => eX3_streetTo_0 kb (xs.getD 0 0) (xs.getD 1 0) s)
theorem iX3_streetTo (hA : AOK) : Impl mdX3_streetTo gX3_streetTo := ent_B (kk := kX3_streetTo) (rr := rX3_streetTo) (f := fun kb => fun xs ys s => fX3_streetTo_0 kb (xs.getD 0 0) (xs.getD 1 0) s) (by decide +kernel) rfl (fun _ => rfl) (fun r kb => pX3_streetTo hA r kb) (fun kb => ⟨_, rfl⟩) 0 id (fun xs s => rfl) (fun xs => wkl_rf _)
-- Floatparade$Route.lastCorner()I
theorem mkX3_lastCorner : MK mdX3_lastCorner true := MKb_ok (h1 := 688) (h2 := 73) (h3 := 686) (h4 := 687) (by decide +kernel)
theorem qX3_lastCorner_0 : blkb mdX3_lastCorner 0 0 bX3_lastCorner_0 [[], [], [137], [], [], [689], []] = true := by decide +kernel
theorem pX3_lastCorner (hA : AOK) (r : Rt) (kb : Co) : RsB mdX3_lastCorner r kb (rX3_lastCorner kb) := by
  have h0 : RsB mdX3_lastCorner r kb (tX3_lastCorner_0 kb) := row_0
  exact row_B hA h0 qX3_lastCorner_0 (And.intro trivial (And.intro trivial (And.intro trivial (And.intro trivial (And.intro trivial (And.intro (co_of mkX3_cornerAt (iX3_cornerAt hA)) (ck_n rfl))))))) rfl (fun xs ys s => eX3_lastCorner_0 kb (xs.getD 0 0) s)
theorem iX3_lastCorner (hA : AOK) : Impl mdX3_lastCorner gX3_lastCorner := ent_B (kk := kX3_lastCorner) (rr := rX3_lastCorner) (f := fun kb => fun xs ys s => fX3_lastCorner_0 kb (xs.getD 0 0) s) (by decide +kernel) rfl (fun _ => rfl) (fun r kb => pX3_lastCorner hA r kb) (fun kb => ⟨_, rfl⟩) 0 id (fun xs s => rfl) (fun xs => wkl_rf _)
-- Floatparade$Route.placeOf(I)I
theorem mkX3_placeOf : MK mdX3_placeOf true := MKb_ok (h1 := 701) (h2 := 73) (h3 := 700) (h4 := 5) (by decide +kernel)
theorem qX3_placeOf_0 : blkb mdX3_placeOf 2 0 bX3_placeOf_0 [[], []] = true := by decide +kernel
theorem qX3_placeOf_2 : blkb mdX3_placeOf 0 2 bX3_placeOf_2 [[], [], [137], [], [], [], [689], [], [], [], []] = true := by decide +kernel
theorem qX3_placeOf_21 : blkb mdX3_placeOf 0 21 bX3_placeOf_21 [[], []] = true := by decide +kernel
theorem qX3_placeOf_27 : blkb mdX3_placeOf 0 27 bX3_placeOf_27 [[], []] = true := by decide +kernel
theorem pX3_placeOf (hA : AOK) (r : Rt) (kb : Co) : RsB mdX3_placeOf r kb (rX3_placeOf kb) := by
  have h27 : RsB mdX3_placeOf r kb (tX3_placeOf_27 kb) := row_0
  have h21 : RsB mdX3_placeOf r kb (tX3_placeOf_21 kb) := row_B hA h27 qX3_placeOf_27 (ck_n rfl) rfl (fun xs ys s => eX3_placeOf_27 kb s)
  have h2 : RsB mdX3_placeOf r kb (tX3_placeOf_2 kb) := row_B hA h21 qX3_placeOf_21 (ck_n rfl) rfl (fun xs ys s => eX3_placeOf_21 kb (xs.getD 0 0) (xs.getD 1 0) (xs.getD 2 0) s)
  have h0 : RsB mdX3_placeOf r kb (tX3_placeOf_0 kb) := row_B hA h2 qX3_placeOf_2 (And.intro trivial (And.intro trivial (And.intro trivial (And.intro trivial (And.intro trivial (And.intro trivial (And.intro (co_of mkX3_cornerAt (iX3_cornerAt hA)) (ck_n rfl)))))))) rfl (fun xs ys s => eX3_placeOf_2 kb (xs.getD 0 0) (xs.getD 1 0) (xs.getD 2 0) s)
  exact row_B hA h0 qX3_placeOf_0 (ck_n rfl) rfl (fun xs ys s => eX3_placeOf_0 kb (xs.getD 0 0) (xs.getD 1 0) s)
theorem iX3_placeOf (hA : AOK) : Impl mdX3_placeOf gX3_placeOf := ent_B (kk := kX3_placeOf) (rr := rX3_placeOf) (f := fun kb => fun xs ys s => fX3_placeOf_0 kb (xs.getD 0 0) (xs.getD 1 0) s) (by decide +kernel) rfl (fun _ => rfl) (fun r kb => pX3_placeOf hA r kb) (fun kb => ⟨_, rfl⟩) 9999 id (fun xs s => rfl) (fun xs => wkl_rf _)
-- Floatparade$Route.mayTake(I)Z
theorem mkX3_mayTake : MK mdX3_mayTake true := MKb_ok (h1 := 697) (h2 := 73) (h3 := 695) (h4 := 696) (by decide +kernel)
theorem qX3_mayTake_0 : blkb mdX3_mayTake 0 0 bX3_mayTake_0 [[], [137], [], [], [137], [], [], [], [], [698], [], [], [], []] = true := by decide +kernel
theorem qX3_mayTake_29 : blkb mdX3_mayTake 30 29 bX3_mayTake_29 [[]] = true := by decide +kernel
theorem qX3_mayTake_30 : blkb mdX3_mayTake 0 30 bX3_mayTake_30 [[]] = true := by decide +kernel
theorem pX3_mayTake (hA : AOK) (r : Rt) (kb : Co) : RsB mdX3_mayTake r kb (rX3_mayTake kb) := by
  have h30 : RsB mdX3_mayTake r kb (tX3_mayTake_30 kb) := row_0
  have h29 : RsB mdX3_mayTake r kb (tX3_mayTake_29 kb) := row_B hA h30 qX3_mayTake_30 (ck_n rfl) rfl (fun xs ys s => eX3_mayTake_30 kb (ys.getD 0 0) s)
  have h0 : RsB mdX3_mayTake r kb (tX3_mayTake_0 kb) := row_B hA h29 qX3_mayTake_29 (ck_n rfl) rfl (fun xs ys s => eX3_mayTake_29 kb s)
  exact row_B hA h0 qX3_mayTake_0 (And.intro trivial (And.intro trivial (And.intro trivial (And.intro trivial (And.intro trivial (And.intro trivial (And.intro trivial (And.intro trivial (And.intro trivial (And.intro (co_of mkX3_placeOf (iX3_placeOf hA)) (ck_n rfl))))))))))) rfl (fun xs ys s => eX3_mayTake_0 kb (xs.getD 0 0) (xs.getD 1 0) s)
theorem iX3_mayTake (hA : AOK) : Impl mdX3_mayTake gX3_mayTake := ent_B (kk := kX3_mayTake) (rr := rX3_mayTake) (f := fun kb => fun xs ys s => fX3_mayTake_0 kb (xs.getD 0 0) (xs.getD 1 0) s) (by decide +kernel) rfl (fun _ => rfl) (fun r kb => pX3_mayTake hA r kb) (fun kb => ⟨_, rfl⟩) 0 id (fun xs s => rfl) (fun xs => wkl_rf _)
-- Floatparade$Route.lead(ILFloatparade$Street;)I
theorem mkX3_lead : MK mdX3_lead true := MKb_ok (h1 := 706) (h2 := 73) (h3 := 704) (h4 := 705) (by decide +kernel)
theorem qX3_lead_0 : blkb mdX3_lead 55 0 bX3_lead_0 [[], [137], [], [], [], [], [693], [], [], [134], [], [], [], [], [136], [], [], [], [], [135], [], [], [135], [], [], [], [], [], [634], [], [], [], [], [], [], [137]] = true := by decide +kernel
theorem qX3_lead_55 : blkb mdX3_lead 0 55 bX3_lead_55 [[], [707], []] = true := by decide +kernel
theorem pX3_lead (hA : AOK) (r : Rt) (kb : Co) : RsB mdX3_lead r kb (rX3_lead kb) := by
  have h55 : RsB mdX3_lead r kb (tX3_lead_55 kb) := row_0
  have h0 : RsB mdX3_lead r kb (tX3_lead_0 kb) := row_B hA h55 qX3_lead_55 (And.intro trivial (And.intro (co_of mkX3_cells (iX3_cells hA)) (ck_n rfl))) rfl (fun xs ys s => eX3_lead_55 kb (xs.getD 0 0) s)
  exact row_B hA h0 qX3_lead_0 (And.intro trivial (And.intro trivial (And.intro trivial (And.intro trivial (And.intro trivial (And.intro trivial (And.intro (co_of mkX11_isWithin (iX11_isWithin hA)) (ck_n rfl)))))))) rfl (fun xs ys s => eX3_lead_0 kb (xs.getD 0 0) (xs.getD 1 0) (xs.getD 2 0) s)
theorem iX3_lead (hA : AOK) : Impl mdX3_lead gX3_lead := ent_B (kk := kX3_lead) (rr := rX3_lead) (f := fun kb => fun xs ys s => fX3_lead_0 kb (xs.getD 0 0) (xs.getD 1 0) (xs.getD 2 0) s) (by decide +kernel) rfl (fun _ => rfl) (fun r kb => pX3_lead hA r kb) (fun kb => ⟨_, rfl⟩) 0 id (fun xs s => rfl) (fun xs => wkl_rf _)
-- Floatparade$Route.cellOf(I)I
theorem mkX3_cellOf : MK mdX3_cellOf true := MKb_ok (h1 := 1017) (h2 := 73) (h3 := 1015) (h4 := 1016) (by decide +kernel)
theorem qX3_cellOf_0 : blkb mdX3_cellOf 0 0 bX3_cellOf_0 [[], [], [698], [], [], [], [], [], []] = true := by decide +kernel
theorem qX3_cellOf_15 : blkb mdX3_cellOf 20 15 bX3_cellOf_15 [[], [], [1018]] = true := by decide +kernel
theorem qX3_cellOf_20 : blkb mdX3_cellOf 0 20 bX3_cellOf_20 [[]] = true := by decide +kernel
theorem pX3_cellOf (hA : AOK) (r : Rt) (kb : Co) : RsB mdX3_cellOf r kb (rX3_cellOf kb) := by
  have h20 : RsB mdX3_cellOf r kb (tX3_cellOf_20 kb) := row_0
  have h15 : RsB mdX3_cellOf r kb (tX3_cellOf_15 kb) := row_B hA h20 qX3_cellOf_20 (ck_n rfl) rfl (fun xs ys s => eX3_cellOf_20 kb (ys.getD 0 0) s)
  have h0 : RsB mdX3_cellOf r kb (tX3_cellOf_0 kb) := row_B hA h15 qX3_cellOf_15 (And.intro trivial (And.intro trivial (And.intro (co_of mkX3_cellAt (iX3_cellAt hA)) (ck_n rfl)))) rfl (fun xs ys s => eX3_cellOf_15 kb (xs.getD 0 0) (xs.getD 1 0) s)
  exact row_B hA h0 qX3_cellOf_0 (And.intro trivial (And.intro trivial (And.intro (co_of mkX3_placeOf (iX3_placeOf hA)) (ck_n rfl)))) rfl (fun xs ys s => eX3_cellOf_0 kb (xs.getD 0 0) (xs.getD 1 0) s)
theorem iX3_cellOf (hA : AOK) : Impl mdX3_cellOf gX3_cellOf := ent_B (kk := kX3_cellOf) (rr := rX3_cellOf) (f := fun kb => fun xs ys s => fX3_cellOf_0 kb (xs.getD 0 0) (xs.getD 1 0) s) (by decide +kernel) rfl (fun _ => rfl) (fun r kb => pX3_cellOf hA r kb) (fun kb => ⟨_, rfl⟩) 0 id (fun xs s => rfl) (fun xs => wkl_rf _)
-- Floatparade$Street.lets(LFloatparade$Wagon;)Z
theorem mkX8_lets : MK mdX8_lets true := MKb_ok (h1 := 811) (h2 := 87) (h3 := 809) (h4 := 810) (by decide +kernel)
theorem qX8_lets_0 : blkb mdX8_lets 0 0 bX8_lets_0 [[], [746], [], [635], [], [], [], [], [749], [], [637], [], [], [], [], [752], [], [638], [], [], []] = true := by decide +kernel
theorem qX8_lets_41 : blkb mdX8_lets 42 41 bX8_lets_41 [[]] = true := by decide +kernel
theorem qX8_lets_42 : blkb mdX8_lets 0 42 bX8_lets_42 [[]] = true := by decide +kernel
theorem pX8_lets (hA : AOK) (r : Rt) (kb : Co) : RsB mdX8_lets r kb (rX8_lets kb) := by
  have h42 : RsB mdX8_lets r kb (tX8_lets_42 kb) := row_0
  have h41 : RsB mdX8_lets r kb (tX8_lets_41 kb) := row_B hA h42 qX8_lets_42 (ck_n rfl) rfl (fun xs ys s => eX8_lets_42 kb (ys.getD 0 0) s)
  have h0 : RsB mdX8_lets r kb (tX8_lets_0 kb) := row_B hA h41 qX8_lets_41 (ck_n rfl) rfl (fun xs ys s => eX8_lets_41 kb s)
  exact row_B hA h0 qX8_lets_0 (ck_n rfl) rfl (fun xs ys s => eX8_lets_0 kb (xs.getD 0 0) (xs.getD 1 0) s)
theorem iX8_lets (hA : AOK) : Impl mdX8_lets gX8_lets := ent_B (kk := kX8_lets) (rr := rX8_lets) (f := fun kb => fun xs ys s => fX8_lets_0 kb (xs.getD 0 0) (xs.getD 1 0) s) (by decide +kernel) rfl (fun _ => rfl) (fun r kb => pX8_lets hA r kb) (fun kb => ⟨_, rfl⟩) 0 id (fun xs s => rfl) (fun xs => wkl_rf _)
-- Floatparade$Route.lets(LFloatparade$Wagon;)Z
theorem mkX3_lets : MK mdX3_lets true := MKb_ok (h1 := 803) (h2 := 73) (h3 := 801) (h4 := 802) (by decide +kernel)
theorem qX3_lets_0 : blkb mdX3_lets 2 0 bX3_lets_0 [[], []] = true := by decide +kernel
theorem qX3_lets_2 : blkb mdX3_lets 59 2 bX3_lets_2 [[], [], [137], [], [], [], [804], [], [], [], [], [], [804], [], [], [], [], [], [808], [], [], [], [], [756], [], [636], [], [636], [], []] = true := by decide +kernel
theorem qX3_lets_59 : blkb mdX3_lets 0 59 bX3_lets_59 [[], []] = true := by decide +kernel
theorem qX3_lets_61 : blkb mdX3_lets 0 61 bX3_lets_61 [[], []] = true := by decide +kernel
theorem qX3_lets_67 : blkb mdX3_lets 0 67 bX3_lets_67 [[], [137], [], [], [], []] = true := by decide +kernel
theorem qX3_lets_79 : blkb mdX3_lets 80 79 bX3_lets_79 [[]] = true := by decide +kernel
theorem qX3_lets_80 : blkb mdX3_lets 0 80 bX3_lets_80 [[]] = true := by decide +kernel
theorem pX3_lets (hA : AOK) (r : Rt) (kb : Co) : RsB mdX3_lets r kb (rX3_lets kb) := by
  have h80 : RsB mdX3_lets r kb (tX3_lets_80 kb) := row_0
  have h79 : RsB mdX3_lets r kb (tX3_lets_79 kb) := row_B hA h80 qX3_lets_80 (ck_n rfl) rfl (fun xs ys s => eX3_lets_80 kb (ys.getD 0 0) s)
  have h67 : RsB mdX3_lets r kb (tX3_lets_67 kb) := row_B hA h79 qX3_lets_79 (ck_n rfl) rfl (fun xs ys s => eX3_lets_79 kb s)
  have h61 : RsB mdX3_lets r kb (tX3_lets_61 kb) := row_B hA h67 qX3_lets_67 (ck_n rfl) rfl (fun xs ys s => eX3_lets_67 kb (xs.getD 0 0) s)
  have h59 : RsB mdX3_lets r kb (tX3_lets_59 kb) := row_B hA h61 qX3_lets_61 (ck_n rfl) rfl (fun xs ys s => eX3_lets_61 kb (xs.getD 0 0) (xs.getD 1 0) (xs.getD 2 0) s)
  have h2 : RsB mdX3_lets r kb (tX3_lets_2 kb) := row_B hA h59 qX3_lets_59 (ck_n rfl) rfl (fun xs ys s => eX3_lets_59 kb s)
  have h0 : RsB mdX3_lets r kb (tX3_lets_0 kb) := row_B hA h2 qX3_lets_2 (And.intro trivial (And.intro trivial (And.intro trivial (And.intro trivial (And.intro trivial (And.intro trivial (And.intro (co_of mkX3_streetTo (iX3_streetTo hA)) (And.intro trivial (And.intro trivial (And.intro trivial (And.intro trivial (And.intro trivial (And.intro (co_of mkX3_streetTo (iX3_streetTo hA)) (And.intro trivial (And.intro trivial (And.intro trivial (And.intro trivial (And.intro trivial (And.intro (co_of mkX8_lets (iX8_lets hA)) (ck_n rfl)))))))))))))))))))) rfl (fun xs ys s => eX3_lets_2 kb (xs.getD 0 0) (xs.getD 1 0) (xs.getD 2 0) s)
  exact row_B hA h0 qX3_lets_0 (ck_n rfl) rfl (fun xs ys s => eX3_lets_0 kb (xs.getD 0 0) (xs.getD 1 0) s)
theorem iX3_lets (hA : AOK) : Impl mdX3_lets gX3_lets := ent_B (kk := kX3_lets) (rr := rX3_lets) (f := fun kb => fun xs ys s => fX3_lets_0 kb (xs.getD 0 0) (xs.getD 1 0) s) (by decide +kernel) rfl (fun _ => rfl) (fun r kb => pX3_lets hA r kb) (fun kb => ⟨_, rfl⟩) 9999 id (fun xs s => rfl) (fun xs => wkl_rf _)
-- Floatparade$Route.letsAll(LFloatparade$Society;)Z
theorem mkX3_letsAll : MK mdX3_letsAll true := MKb_ok (h1 := 823) (h2 := 73) (h3 := 821) (h4 := 822) (by decide +kernel)
theorem qX3_letsAll_0 : blkb mdX3_letsAll 2 0 bX3_letsAll_0 [[], []] = true := by decide +kernel
theorem qX3_letsAll_2 : blkb mdX3_letsAll 0 2 bX3_letsAll_2 [[], [], [426], [], [], [], [824], [], [], [], [], [], [825], [], [], []] = true := by decide +kernel
theorem qX3_letsAll_30 : blkb mdX3_letsAll 0 30 bX3_letsAll_30 [[], []] = true := by decide +kernel
theorem qX3_letsAll_36 : blkb mdX3_letsAll 0 36 bX3_letsAll_36 [[], [137], [], [], [], []] = true := by decide +kernel
theorem qX3_letsAll_48 : blkb mdX3_letsAll 49 48 bX3_letsAll_48 [[]] = true := by decide +kernel
theorem qX3_letsAll_49 : blkb mdX3_letsAll 0 49 bX3_letsAll_49 [[]] = true := by decide +kernel
theorem pX3_letsAll (hA : AOK) (r : Rt) (kb : Co) : RsB mdX3_letsAll r kb (rX3_letsAll kb) := by
  have h49 : RsB mdX3_letsAll r kb (tX3_letsAll_49 kb) := row_0
  have h48 : RsB mdX3_letsAll r kb (tX3_letsAll_48 kb) := row_B hA h49 qX3_letsAll_49 (ck_n rfl) rfl (fun xs ys s => eX3_letsAll_49 kb (ys.getD 0 0) s)
  have h36 : RsB mdX3_letsAll r kb (tX3_letsAll_36 kb) := row_B hA h48 qX3_letsAll_48 (ck_n rfl) rfl (fun xs ys s => eX3_letsAll_48 kb s)
  have h30 : RsB mdX3_letsAll r kb (tX3_letsAll_30 kb) := row_B hA h36 qX3_letsAll_36 (ck_n rfl) rfl (fun xs ys s => eX3_letsAll_36 kb (xs.getD 0 0) s)
  have h2 : RsB mdX3_letsAll r kb (tX3_letsAll_2 kb) := row_B hA h30 qX3_letsAll_30 (ck_n rfl) rfl (fun xs ys s => eX3_letsAll_30 kb (xs.getD 0 0) (xs.getD 1 0) (xs.getD 2 0) s)
  have h0 : RsB mdX3_letsAll r kb (tX3_letsAll_0 kb) := row_B hA h2 qX3_letsAll_2 (And.intro trivial (And.intro trivial (And.intro trivial (And.intro trivial (And.intro trivial (And.intro trivial (And.intro (co_of mkX6_wagonAt (iX6_wagonAt hA)) (And.intro trivial (And.intro trivial (And.intro trivial (And.intro trivial (And.intro trivial (And.intro (co_of mkX3_lets (iX3_lets hA)) (ck_n rfl)))))))))))))) rfl (fun xs ys s => eX3_letsAll_2 kb (xs.getD 0 0) (xs.getD 1 0) (xs.getD 2 0) s)
  exact row_B hA h0 qX3_letsAll_0 (ck_n rfl) rfl (fun xs ys s => eX3_letsAll_0 kb (xs.getD 0 0) (xs.getD 1 0) s)
theorem iX3_letsAll (hA : AOK) : Impl mdX3_letsAll gX3_letsAll := ent_B (kk := kX3_letsAll) (rr := rX3_letsAll) (f := fun kb => fun xs ys s => fX3_letsAll_0 kb (xs.getD 0 0) (xs.getD 1 0) s) (by decide +kernel) rfl (fun _ => rfl) (fun r kb => pX3_letsAll hA r kb) (fun kb => ⟨_, rfl⟩) 9999 id (fun xs s => rfl) (fun xs => wkl_rf _)
-- Floatparade$Row.placeOf(LFloatparade$Society;)I
theorem mkX4_placeOf : MK mdX4_placeOf true := MKb_ok (h1 := 889) (h2 := 74) (h3 := 887) (h4 := 888) (by decide +kernel)
theorem qX4_placeOf_0 : blkb mdX4_placeOf 2 0 bX4_placeOf_0 [[], []] = true := by decide +kernel
theorem qX4_placeOf_2 : blkb mdX4_placeOf 0 2 bX4_placeOf_2 [[], [], [157], [], [], [], [868], [], [], [], []] = true := by decide +kernel
theorem qX4_placeOf_21 : blkb mdX4_placeOf 0 21 bX4_placeOf_21 [[], []] = true := by decide +kernel
theorem qX4_placeOf_27 : blkb mdX4_placeOf 0 27 bX4_placeOf_27 [[], []] = true := by decide +kernel
theorem pX4_placeOf (hA : AOK) (r : Rt) (kb : Co) : RsB mdX4_placeOf r kb (rX4_placeOf kb) := by
  have h27 : RsB mdX4_placeOf r kb (tX4_placeOf_27 kb) := row_0
  have h21 : RsB mdX4_placeOf r kb (tX4_placeOf_21 kb) := row_B hA h27 qX4_placeOf_27 (ck_n rfl) rfl (fun xs ys s => eX4_placeOf_27 kb s)
  have h2 : RsB mdX4_placeOf r kb (tX4_placeOf_2 kb) := row_B hA h21 qX4_placeOf_21 (ck_n rfl) rfl (fun xs ys s => eX4_placeOf_21 kb (xs.getD 0 0) (xs.getD 1 0) (xs.getD 2 0) s)
  have h0 : RsB mdX4_placeOf r kb (tX4_placeOf_0 kb) := row_B hA h2 qX4_placeOf_2 (And.intro trivial (And.intro trivial (And.intro trivial (And.intro trivial (And.intro trivial (And.intro trivial (And.intro (co_of mkX4_at (iX4_at hA)) (ck_n rfl)))))))) rfl (fun xs ys s => eX4_placeOf_2 kb (xs.getD 0 0) (xs.getD 1 0) (xs.getD 2 0) s)
  exact row_B hA h0 qX4_placeOf_0 (ck_n rfl) rfl (fun xs ys s => eX4_placeOf_0 kb (xs.getD 0 0) (xs.getD 1 0) s)
theorem iX4_placeOf (hA : AOK) : Impl mdX4_placeOf gX4_placeOf := ent_B (kk := kX4_placeOf) (rr := rX4_placeOf) (f := fun kb => fun xs ys s => fX4_placeOf_0 kb (xs.getD 0 0) (xs.getD 1 0) s) (by decide +kernel) rfl (fun _ => rfl) (fun r kb => pX4_placeOf hA r kb) (fun kb => ⟨_, rfl⟩) 9999 id (fun xs s => rfl) (fun xs => wkl_rf _)
-- Floatparade$Row.placeBefore(III)I
theorem mkX4_placeBefore : MK mdX4_placeBefore false := MKb_ok (h1 := 892) (h2 := 74) (h3 := 891) (h4 := 0) (by decide +kernel)
theorem qX4_placeBefore_0 : blkb mdX4_placeBefore 0 0 bX4_placeBefore_0 [[], [], [], [], []] = true := by decide +kernel
theorem qX4_placeBefore_7 : blkb mdX4_placeBefore 0 7 bX4_placeBefore_7 [[], [], [], [], []] = true := by decide +kernel
theorem qX4_placeBefore_16 : blkb mdX4_placeBefore 17 16 bX4_placeBefore_16 [[]] = true := by decide +kernel
theorem qX4_placeBefore_17 : blkb mdX4_placeBefore 0 17 bX4_placeBefore_17 [[]] = true := by decide +kernel
theorem pX4_placeBefore (hA : AOK) (r : Rt) (kb : Co) : RsB mdX4_placeBefore r kb (rX4_placeBefore kb) := by
  have h17 : RsB mdX4_placeBefore r kb (tX4_placeBefore_17 kb) := row_0
  have h16 : RsB mdX4_placeBefore r kb (tX4_placeBefore_16 kb) := row_B hA h17 qX4_placeBefore_17 (ck_n rfl) rfl (fun xs ys s => eX4_placeBefore_17 kb (ys.getD 0 0) s)
  have h7 : RsB mdX4_placeBefore r kb (tX4_placeBefore_7 kb) := row_B hA h16 qX4_placeBefore_16 (ck_n rfl) rfl (fun xs ys s => eX4_placeBefore_16 kb (xs.getD 0 0) s)
  have h0 : RsB mdX4_placeBefore r kb (tX4_placeBefore_0 kb) := row_B hA h7 qX4_placeBefore_7 (ck_n rfl) rfl (fun xs ys s => eX4_placeBefore_7 kb (xs.getD 0 0) (xs.getD 1 0) (xs.getD 2 0) s)
  exact row_B hA h0 qX4_placeBefore_0 (ck_n rfl) rfl (fun xs ys s => eX4_placeBefore_0 kb (xs.getD 0 0) (xs.getD 1 0) (xs.getD 2 0) s)
theorem iX4_placeBefore (hA : AOK) : Impl mdX4_placeBefore gX4_placeBefore := ent_B (kk := kX4_placeBefore) (rr := rX4_placeBefore) (f := fun kb => fun xs ys s => fX4_placeBefore_0 kb (xs.getD 0 0) (xs.getD 1 0) (xs.getD 2 0) s) (by decide +kernel) rfl (fun _ => rfl) (fun r kb => pX4_placeBefore hA r kb) (fun kb => ⟨_, rfl⟩) 0 id (fun xs s => rfl) (fun xs => wkl_rf _)
-- Floatparade$Row.changePlaces(LFloatparade$Society;LFloatparade$Society;)Z
theorem mkX4_changePlaces : MK mdX4_changePlaces true := MKb_ok (h1 := 885) (h2 := 74) (h3 := 883) (h4 := 884) (by decide +kernel)
theorem qX4_changePlaces_0 : blkb mdX4_changePlaces 23 0 bX4_changePlaces_0 [[], [], [886], [], [], [], [886], [], [], [], [], [870], [], []] = true := by decide +kernel
theorem qX4_changePlaces_23 : blkb mdX4_changePlaces 0 23 bX4_changePlaces_23 [[], [], [], [], [157], [], [], [], [], [890], [], [], [], [], [], [], [890], [], [], [], [864], [], [], [], [], [893], [], [], [], [], [], [870], [], []] = true := by decide +kernel
theorem qX4_changePlaces_86 : blkb mdX4_changePlaces 0 86 bX4_changePlaces_86 [[], []] = true := by decide +kernel
theorem qX4_changePlaces_92 : blkb mdX4_changePlaces 0 92 bX4_changePlaces_92 [[], []] = true := by decide +kernel
theorem pX4_changePlaces (hA : AOK) (r : Rt) (kb : Co) : RsB mdX4_changePlaces r kb (rX4_changePlaces kb) := by
  have h92 : RsB mdX4_changePlaces r kb (tX4_changePlaces_92 kb) := row_0
  have h86 : RsB mdX4_changePlaces r kb (tX4_changePlaces_86 kb) := row_B hA h92 qX4_changePlaces_92 (ck_n rfl) rfl (fun xs ys s => eX4_changePlaces_92 kb s)
  have h23 : RsB mdX4_changePlaces r kb (tX4_changePlaces_23 kb) := row_B hA h86 qX4_changePlaces_86 (ck_n rfl) rfl (fun xs ys s => eX4_changePlaces_86 kb (xs.getD 0 0) (xs.getD 1 0) (xs.getD 2 0) (xs.getD 3 0) s)
  have h0 : RsB mdX4_changePlaces r kb (tX4_changePlaces_0 kb) := row_B hA h23 qX4_changePlaces_23 (And.intro trivial (And.intro trivial (And.intro trivial (And.intro trivial (And.intro trivial (And.intro trivial (And.intro trivial (And.intro trivial (And.intro trivial (And.intro (co_of mkX4_placeBefore (iX4_placeBefore hA)) (And.intro trivial (And.intro trivial (And.intro trivial (And.intro trivial (And.intro trivial (And.intro trivial (And.intro (co_of mkX4_placeBefore (iX4_placeBefore hA)) (And.intro trivial (And.intro trivial (And.intro trivial (And.intro (co_of mkX4_isFeudAt (iX4_isFeudAt hA)) (And.intro trivial (And.intro trivial (And.intro trivial (And.intro trivial (And.intro coJ9_abs_0f7a4 (And.intro trivial (And.intro trivial (And.intro trivial (And.intro trivial (And.intro trivial (And.intro (co_of mkX4_swap (iX4_swap hA)) (ck_n rfl))))))))))))))))))))))))))))))))) rfl (fun xs ys s => eX4_changePlaces_23 kb (xs.getD 0 0) (xs.getD 1 0) (xs.getD 2 0) (xs.getD 3 0) s)
  exact row_B hA h0 qX4_changePlaces_0 (And.intro trivial (And.intro trivial (And.intro (co_of mkX4_placeOf (iX4_placeOf hA)) (And.intro trivial (And.intro trivial (And.intro trivial (And.intro (co_of mkX4_placeOf (iX4_placeOf hA)) (And.intro trivial (And.intro trivial (And.intro trivial (And.intro trivial (And.intro (co_of mkX4_swap (iX4_swap hA)) (ck_n rfl))))))))))))) rfl (fun xs ys s => eX4_changePlaces_0 kb (xs.getD 0 0) (xs.getD 1 0) (xs.getD 2 0) s)
theorem iX4_changePlaces (hA : AOK) : Impl mdX4_changePlaces gX4_changePlaces := ent_B (kk := kX4_changePlaces) (rr := rX4_changePlaces) (f := fun kb => fun xs ys s => fX4_changePlaces_0 kb (xs.getD 0 0) (xs.getD 1 0) (xs.getD 2 0) s) (by decide +kernel) rfl (fun _ => rfl) (fun r kb => pX4_changePlaces hA r kb) (fun kb => ⟨_, rfl⟩) 9999 id (fun xs s => rfl) (fun xs => wkl_rf _)
-- Floatparade$Score.setNote(III)V
theorem mkX5_setNote : MK mdX5_setNote true := MKb_ok (h1 := 1159) (h2 := 84) (h3 := 1157) (h4 := 1158) (by decide +kernel)
theorem qX5_setNote_0 : blkb mdX5_setNote 30 0 bX5_setNote_0 [[], [], [], [], [], [], [], [], [], [], [382], [], [], [], [382], [], [], []] = true := by decide +kernel
theorem qX5_setNote_30 : blkb mdX5_setNote 0 30 bX5_setNote_30 [[]] = true := by decide +kernel
theorem pX5_setNote (hA : AOK) (r : Rt) (kb : Co) : RsB mdX5_setNote r kb (rX5_setNote kb) := by
  have h30 : RsB mdX5_setNote r kb (tX5_setNote_30 kb) := row_0
  have h0 : RsB mdX5_setNote r kb (tX5_setNote_0 kb) := row_B hA h30 qX5_setNote_30 (ck_n rfl) rfl (fun xs ys s => eX5_setNote_30 kb s)
  exact row_B hA h0 qX5_setNote_0 (ck_n rfl) rfl (fun xs ys s => eX5_setNote_0 kb (xs.getD 0 0) (xs.getD 1 0) (xs.getD 2 0) (xs.getD 3 0) s)
theorem iX5_setNote (hA : AOK) : Impl mdX5_setNote gX5_setNote := ent_B (kk := kX5_setNote) (rr := rX5_setNote) (f := fun kb => fun xs ys s => fX5_setNote_0 kb (xs.getD 0 0) (xs.getD 1 0) (xs.getD 2 0) (xs.getD 3 0) s) (by decide +kernel) rfl (fun _ => rfl) (fun r kb => pX5_setNote hA r kb) (fun kb => ⟨_, rfl⟩) 0 id (fun xs s => rfl) (fun xs => wkl_rf _)
-- Floatparade$Score.isDoubtful(II)Z
theorem mkX5_isDoubtful : MK mdX5_isDoubtful true := MKb_ok (h1 := 1315) (h2 := 84) (h3 := 1314) (h4 := 28) (by decide +kernel)
theorem qX5_isDoubtful_0 : blkb mdX5_isDoubtful 8 0 bX5_isDoubtful_0 [[], [], [], [], [], []] = true := by decide +kernel
theorem qX5_isDoubtful_8 : blkb mdX5_isDoubtful 42 8 bX5_isDoubtful_8 [[], [], [], [], [], [], [1204], [], [], [], [], [], [], [], [], [], [], []] = true := by decide +kernel
theorem qX5_isDoubtful_42 : blkb mdX5_isDoubtful 0 42 bX5_isDoubtful_42 [[], []] = true := by decide +kernel
theorem qX5_isDoubtful_48 : blkb mdX5_isDoubtful 0 48 bX5_isDoubtful_48 [[], [], [], [], [], [1204], [], [], [], [], [], [], [], []] = true := by decide +kernel
theorem qX5_isDoubtful_73 : blkb mdX5_isDoubtful 74 73 bX5_isDoubtful_73 [[]] = true := by decide +kernel
theorem qX5_isDoubtful_74 : blkb mdX5_isDoubtful 0 74 bX5_isDoubtful_74 [[]] = true := by decide +kernel
theorem pX5_isDoubtful (hA : AOK) (r : Rt) (kb : Co) : RsB mdX5_isDoubtful r kb (rX5_isDoubtful kb) := by
  have h74 : RsB mdX5_isDoubtful r kb (tX5_isDoubtful_74 kb) := row_0
  have h73 : RsB mdX5_isDoubtful r kb (tX5_isDoubtful_73 kb) := row_B hA h74 qX5_isDoubtful_74 (ck_n rfl) rfl (fun xs ys s => eX5_isDoubtful_74 kb (ys.getD 0 0) s)
  have h48 : RsB mdX5_isDoubtful r kb (tX5_isDoubtful_48 kb) := row_B hA h73 qX5_isDoubtful_73 (ck_n rfl) rfl (fun xs ys s => eX5_isDoubtful_73 kb s)
  have h42 : RsB mdX5_isDoubtful r kb (tX5_isDoubtful_42 kb) := row_B hA h48 qX5_isDoubtful_48 (And.intro trivial (And.intro trivial (And.intro trivial (And.intro trivial (And.intro trivial (And.intro (co_of mkX5_noteBy (iX5_noteBy hA)) (ck_n rfl))))))) rfl (fun xs ys s => eX5_isDoubtful_48 kb (xs.getD 0 0) (xs.getD 1 0) (xs.getD 2 0) (xs.getD 3 0) (xs.getD 4 0) s)
  have h8 : RsB mdX5_isDoubtful r kb (tX5_isDoubtful_8 kb) := row_B hA h42 qX5_isDoubtful_42 (ck_n rfl) rfl (fun xs ys s => eX5_isDoubtful_42 kb (xs.getD 0 0) (xs.getD 1 0) (xs.getD 2 0) (xs.getD 3 0) (xs.getD 4 0) (xs.getD 5 0) s)
  have h0 : RsB mdX5_isDoubtful r kb (tX5_isDoubtful_0 kb) := row_B hA h8 qX5_isDoubtful_8 (And.intro trivial (And.intro trivial (And.intro trivial (And.intro trivial (And.intro trivial (And.intro trivial (And.intro (co_of mkX5_noteBy (iX5_noteBy hA)) (ck_n rfl)))))))) rfl (fun xs ys s => eX5_isDoubtful_8 kb (xs.getD 0 0) (xs.getD 1 0) (xs.getD 2 0) (xs.getD 3 0) (xs.getD 4 0) (xs.getD 5 0) s)
  exact row_B hA h0 qX5_isDoubtful_0 (ck_n rfl) rfl (fun xs ys s => eX5_isDoubtful_0 kb (xs.getD 0 0) (xs.getD 1 0) (xs.getD 2 0) s)
theorem iX5_isDoubtful (hA : AOK) : Impl mdX5_isDoubtful gX5_isDoubtful := ent_B (kk := kX5_isDoubtful) (rr := rX5_isDoubtful) (f := fun kb => fun xs ys s => fX5_isDoubtful_0 kb (xs.getD 0 0) (xs.getD 1 0) (xs.getD 2 0) s) (by decide +kernel) rfl (fun _ => rfl) (fun r kb => pX5_isDoubtful hA r kb) (fun kb => ⟨_, rfl⟩) 9999 id (fun xs s => rfl) (fun xs => wkl_rf _)
-- Floatparade$Score.castsDoubtOn(I)Z
theorem mkX5_castsDoubtOn : MK mdX5_castsDoubtOn true := MKb_ok (h1 := 1311) (h2 := 84) (h3 := 1309) (h4 := 1310) (by decide +kernel)
theorem qX5_castsDoubtOn_0 : blkb mdX5_castsDoubtOn 4 0 bX5_castsDoubtOn_0 [[], [], [], []] = true := by decide +kernel
theorem qX5_castsDoubtOn_4 : blkb mdX5_castsDoubtOn 0 4 bX5_castsDoubtOn_4 [[], [], [], [], [], [], [], [1312], [], [], []] = true := by decide +kernel
theorem qX5_castsDoubtOn_23 : blkb mdX5_castsDoubtOn 24 23 bX5_castsDoubtOn_23 [[]] = true := by decide +kernel
theorem qX5_castsDoubtOn_24 : blkb mdX5_castsDoubtOn 0 24 bX5_castsDoubtOn_24 [[], [], [], []] = true := by decide +kernel
theorem qX5_castsDoubtOn_32 : blkb mdX5_castsDoubtOn 0 32 bX5_castsDoubtOn_32 [[], [], [], [], []] = true := by decide +kernel
theorem qX5_castsDoubtOn_41 : blkb mdX5_castsDoubtOn 42 41 bX5_castsDoubtOn_41 [[]] = true := by decide +kernel
theorem qX5_castsDoubtOn_42 : blkb mdX5_castsDoubtOn 0 42 bX5_castsDoubtOn_42 [[]] = true := by decide +kernel
theorem pX5_castsDoubtOn (hA : AOK) (r : Rt) (kb : Co) : RsB mdX5_castsDoubtOn r kb (rX5_castsDoubtOn kb) := by
  have h42 : RsB mdX5_castsDoubtOn r kb (tX5_castsDoubtOn_42 kb) := row_0
  have h41 : RsB mdX5_castsDoubtOn r kb (tX5_castsDoubtOn_41 kb) := row_B hA h42 qX5_castsDoubtOn_42 (ck_n rfl) rfl (fun xs ys s => eX5_castsDoubtOn_42 kb (ys.getD 0 0) s)
  have h32 : RsB mdX5_castsDoubtOn r kb (tX5_castsDoubtOn_32 kb) := row_B hA h41 qX5_castsDoubtOn_41 (ck_n rfl) rfl (fun xs ys s => eX5_castsDoubtOn_41 kb s)
  have h24 : RsB mdX5_castsDoubtOn r kb (tX5_castsDoubtOn_24 kb) := row_B hA h32 qX5_castsDoubtOn_32 (ck_n rfl) rfl (fun xs ys s => eX5_castsDoubtOn_32 kb (xs.getD 0 0) s)
  have h23 : RsB mdX5_castsDoubtOn r kb (tX5_castsDoubtOn_23 kb) := row_B hA h24 qX5_castsDoubtOn_24 (ck_n rfl) rfl (fun xs ys s => eX5_castsDoubtOn_24 kb (xs.getD 0 0) (xs.getD 1 0) (xs.getD 2 0) (ys.getD 0 0) (ys.getD 1 0) s)
  have h4 : RsB mdX5_castsDoubtOn r kb (tX5_castsDoubtOn_4 kb) := row_B hA h23 qX5_castsDoubtOn_23 (ck_n rfl) rfl (fun xs ys s => eX5_castsDoubtOn_23 kb (xs.getD 0 0) (xs.getD 1 0) (xs.getD 2 0) (ys.getD 0 0) s)
  have h0 : RsB mdX5_castsDoubtOn r kb (tX5_castsDoubtOn_0 kb) := row_B hA h4 qX5_castsDoubtOn_4 (And.intro trivial (And.intro trivial (And.intro trivial (And.intro trivial (And.intro trivial (And.intro trivial (And.intro trivial (And.intro (co_of mkX5_isDoubtful (iX5_isDoubtful hA)) (ck_n rfl))))))))) rfl (fun xs ys s => eX5_castsDoubtOn_4 kb (xs.getD 0 0) (xs.getD 1 0) (xs.getD 2 0) (xs.getD 3 0) s)
  exact row_B hA h0 qX5_castsDoubtOn_0 (ck_n rfl) rfl (fun xs ys s => eX5_castsDoubtOn_0 kb (xs.getD 0 0) (xs.getD 1 0) s)
theorem iX5_castsDoubtOn (hA : AOK) : Impl mdX5_castsDoubtOn gX5_castsDoubtOn := ent_B (kk := kX5_castsDoubtOn) (rr := rX5_castsDoubtOn) (f := fun kb => fun xs ys s => fX5_castsDoubtOn_0 kb (xs.getD 0 0) (xs.getD 1 0) s) (by decide +kernel) rfl (fun _ => rfl) (fun r kb => pX5_castsDoubtOn hA r kb) (fun kb => ⟨_, rfl⟩) 9999 id (fun xs s => rfl) (fun xs => wkl_rf _)
-- Floatparade$Score.isFull()Z
theorem mkX5_isFull : MK mdX5_isFull true := MKb_ok (h1 := 1171) (h2 := 84) (h3 := 1169) (h4 := 1170) (by decide +kernel)
theorem qX5_isFull_0 : blkb mdX5_isFull 0 0 bX5_isFull_0 [[], [386], [], [], [], []] = true := by decide +kernel
theorem qX5_isFull_13 : blkb mdX5_isFull 14 13 bX5_isFull_13 [[]] = true := by decide +kernel
theorem qX5_isFull_14 : blkb mdX5_isFull 0 14 bX5_isFull_14 [[]] = true := by decide +kernel
theorem pX5_isFull (hA : AOK) (r : Rt) (kb : Co) : RsB mdX5_isFull r kb (rX5_isFull kb) := by
  have h14 : RsB mdX5_isFull r kb (tX5_isFull_14 kb) := row_0
  have h13 : RsB mdX5_isFull r kb (tX5_isFull_13 kb) := row_B hA h14 qX5_isFull_14 (ck_n rfl) rfl (fun xs ys s => eX5_isFull_14 kb (ys.getD 0 0) s)
  have h0 : RsB mdX5_isFull r kb (tX5_isFull_0 kb) := row_B hA h13 qX5_isFull_13 (ck_n rfl) rfl (fun xs ys s => eX5_isFull_13 kb s)
  exact row_B hA h0 qX5_isFull_0 (ck_n rfl) rfl (fun xs ys s => eX5_isFull_0 kb (xs.getD 0 0) s)
theorem iX5_isFull (hA : AOK) : Impl mdX5_isFull gX5_isFull := ent_B (kk := kX5_isFull) (rr := rX5_isFull) (f := fun kb => fun xs ys s => fX5_isFull_0 kb (xs.getD 0 0) s) (by decide +kernel) rfl (fun _ => rfl) (fun r kb => pX5_isFull hA r kb) (fun kb => ⟨_, rfl⟩) 0 id (fun xs s => rfl) (fun xs => wkl_rf _)
-- Floatparade$Score.isAppealed(I)Z
theorem mkX5_isAppealed : MK mdX5_isAppealed true := MKb_ok (h1 := 1189) (h2 := 84) (h3 := 1187) (h4 := 1188) (by decide +kernel)
theorem qX5_isAppealed_0 : blkb mdX5_isAppealed 0 0 bX5_isAppealed_0 [[], [], [1190], [], [], [385], [], [], [], [], []] = true := by decide +kernel
theorem qX5_isAppealed_21 : blkb mdX5_isAppealed 22 21 bX5_isAppealed_21 [[]] = true := by decide +kernel
theorem qX5_isAppealed_22 : blkb mdX5_isAppealed 0 22 bX5_isAppealed_22 [[]] = true := by decide +kernel
theorem pX5_isAppealed (hA : AOK) (r : Rt) (kb : Co) : RsB mdX5_isAppealed r kb (rX5_isAppealed kb) := by
  have h22 : RsB mdX5_isAppealed r kb (tX5_isAppealed_22 kb) := row_0
  have h21 : RsB mdX5_isAppealed r kb (tX5_isAppealed_21 kb) := row_B hA h22 qX5_isAppealed_22 (ck_n rfl) rfl (fun xs ys s => eX5_isAppealed_22 kb (ys.getD 0 0) s)
  have h0 : RsB mdX5_isAppealed r kb (tX5_isAppealed_0 kb) := row_B hA h21 qX5_isAppealed_21 (ck_n rfl) rfl (fun xs ys s => eX5_isAppealed_21 kb s)
  exact row_B hA h0 qX5_isAppealed_0 (And.intro trivial (And.intro trivial (And.intro (co_of mkX5_hasPenalty (iX5_hasPenalty hA)) (ck_n rfl)))) rfl (fun xs ys s => eX5_isAppealed_0 kb (xs.getD 0 0) (xs.getD 1 0) s)
theorem iX5_isAppealed (hA : AOK) : Impl mdX5_isAppealed gX5_isAppealed := ent_B (kk := kX5_isAppealed) (rr := rX5_isAppealed) (f := fun kb => fun xs ys s => fX5_isAppealed_0 kb (xs.getD 0 0) (xs.getD 1 0) s) (by decide +kernel) rfl (fun _ => rfl) (fun r kb => pX5_isAppealed hA r kb) (fun kb => ⟨_, rfl⟩) 0 id (fun xs s => rfl) (fun xs => wkl_rf _)
-- Floatparade$Score.appealAway(I)V
theorem mkX5_appealAway : MK mdX5_appealAway true := MKb_ok (h1 := 1195) (h2 := 84) (h3 := 1193) (h4 := 1194) (by decide +kernel)
theorem qX5_appealAway_0 : blkb mdX5_appealAway 15 0 bX5_appealAway_0 [[], [], [1190], [], [], [385], [], [], []] = true := by decide +kernel
theorem qX5_appealAway_15 : blkb mdX5_appealAway 0 15 bX5_appealAway_15 [[]] = true := by decide +kernel
theorem pX5_appealAway (hA : AOK) (r : Rt) (kb : Co) : RsB mdX5_appealAway r kb (rX5_appealAway kb) := by
  have h15 : RsB mdX5_appealAway r kb (tX5_appealAway_15 kb) := row_0
  have h0 : RsB mdX5_appealAway r kb (tX5_appealAway_0 kb) := row_B hA h15 qX5_appealAway_15 (ck_n rfl) rfl (fun xs ys s => eX5_appealAway_15 kb s)
  exact row_B hA h0 qX5_appealAway_0 (And.intro trivial (And.intro trivial (And.intro (co_of mkX5_hasPenalty (iX5_hasPenalty hA)) (ck_n rfl)))) rfl (fun xs ys s => eX5_appealAway_0 kb (xs.getD 0 0) (xs.getD 1 0) s)
theorem iX5_appealAway (hA : AOK) : Impl mdX5_appealAway gX5_appealAway := ent_B (kk := kX5_appealAway) (rr := rX5_appealAway) (f := fun kb => fun xs ys s => fX5_appealAway_0 kb (xs.getD 0 0) (xs.getD 1 0) s) (by decide +kernel) rfl (fun _ => rfl) (fun r kb => pX5_appealAway hA r kb) (fun kb => ⟨_, rfl⟩) 0 id (fun xs s => rfl) (fun xs => wkl_rf _)
-- Floatparade$Score.tellPenalty(II)I
theorem mkX5_tellPenalty : MK mdX5_tellPenalty true := MKb_ok (h1 := 1299) (h2 := 84) (h3 := 1297) (h4 := 1298) (by decide +kernel)
theorem qX5_tellPenalty_0 : blkb mdX5_tellPenalty 0 0 bX5_tellPenalty_0 [[], [], [1190], [], [], []] = true := by decide +kernel
theorem qX5_tellPenalty_10 : blkb mdX5_tellPenalty 0 10 bX5_tellPenalty_10 [[], []] = true := by decide +kernel
theorem qX5_tellPenalty_36 : blkb mdX5_tellPenalty 0 36 bX5_tellPenalty_36 [[], [383], [], [], []] = true := by decide +kernel
theorem qX5_tellPenalty_43 : blkb mdX5_tellPenalty 0 43 bX5_tellPenalty_43 [[], [384], [], [], []] = true := by decide +kernel
theorem qX5_tellPenalty_50 : blkb mdX5_tellPenalty 0 50 bX5_tellPenalty_50 [[], [385], [], [], [], [], []] = true := by decide +kernel
theorem qX5_tellPenalty_63 : blkb mdX5_tellPenalty 64 63 bX5_tellPenalty_63 [[]] = true := by decide +kernel
theorem qX5_tellPenalty_64 : blkb mdX5_tellPenalty 0 64 bX5_tellPenalty_64 [[]] = true := by decide +kernel
theorem pX5_tellPenalty (hA : AOK) (r : Rt) (kb : Co) : RsB mdX5_tellPenalty r kb (rX5_tellPenalty kb) := by
  have h64 : RsB mdX5_tellPenalty r kb (tX5_tellPenalty_64 kb) := row_0
  have h63 : RsB mdX5_tellPenalty r kb (tX5_tellPenalty_63 kb) := row_B hA h64 qX5_tellPenalty_64 (ck_n rfl) rfl (fun xs ys s => eX5_tellPenalty_64 kb (ys.getD 0 0) s)
  have h50 : RsB mdX5_tellPenalty r kb (tX5_tellPenalty_50 kb) := row_B hA h63 qX5_tellPenalty_63 (ck_n rfl) rfl (fun xs ys s => eX5_tellPenalty_63 kb s)
  have h43 : RsB mdX5_tellPenalty r kb (tX5_tellPenalty_43 kb) := row_B hA h50 qX5_tellPenalty_50 (ck_n rfl) rfl (fun xs ys s => eX5_tellPenalty_50 kb (xs.getD 0 0) (xs.getD 1 0) s)
  have h36 : RsB mdX5_tellPenalty r kb (tX5_tellPenalty_36 kb) := row_B hA h43 qX5_tellPenalty_43 (ck_n rfl) rfl (fun xs ys s => eX5_tellPenalty_43 kb (xs.getD 0 0) (xs.getD 1 0) s)
  have h10 : RsB mdX5_tellPenalty r kb (tX5_tellPenalty_10 kb) := row_B hA h36 qX5_tellPenalty_36 (ck_n rfl) rfl (fun xs ys s => eX5_tellPenalty_36 kb (xs.getD 0 0) (xs.getD 1 0) s)
  have h0 : RsB mdX5_tellPenalty r kb (tX5_tellPenalty_0 kb) := row_B hA h10 qX5_tellPenalty_10 (ck_n rfl) rfl (fun xs ys s => eX5_tellPenalty_10 kb (xs.getD 0 0) (xs.getD 1 0) (xs.getD 2 0) s)
  exact row_B hA h0 qX5_tellPenalty_0 (And.intro trivial (And.intro trivial (And.intro (co_of mkX5_hasPenalty (iX5_hasPenalty hA)) (ck_n rfl)))) rfl (fun xs ys s => eX5_tellPenalty_0 kb (xs.getD 0 0) (xs.getD 1 0) (xs.getD 2 0) s)
theorem iX5_tellPenalty (hA : AOK) : Impl mdX5_tellPenalty gX5_tellPenalty := ent_B (kk := kX5_tellPenalty) (rr := rX5_tellPenalty) (f := fun kb => fun xs ys s => fX5_tellPenalty_0 kb (xs.getD 0 0) (xs.getD 1 0) (xs.getD 2 0) s) (by decide +kernel) rfl (fun _ => rfl) (fun r kb => pX5_tellPenalty hA r kb) (fun kb => ⟨_, rfl⟩) 0 id (fun xs s => rfl) (fun xs => wkl_rf _)
-- Floatparade$Score.clear()V
theorem mkX5_clear : MK mdX5_clear true := MKb_ok (h1 := 1265) (h2 := 84) (h3 := 1263) (h4 := 1264) (by decide +kernel)
theorem qX5_clear_0 : blkb mdX5_clear 2 0 bX5_clear_0 [[], []] = true := by decide +kernel
theorem qX5_clear_2 : blkb mdX5_clear 0 2 bX5_clear_2 [[], [], [382], [], [], [], [382], [], [], [], [], []] = true := by decide +kernel
theorem qX5_clear_24 : blkb mdX5_clear 0 24 bX5_clear_24 [[], [], [386], []] = true := by decide +kernel
theorem pX5_clear (hA : AOK) (r : Rt) (kb : Co) : RsB mdX5_clear r kb (rX5_clear kb) := by
  have h24 : RsB mdX5_clear r kb (tX5_clear_24 kb) := row_0
  have h2 : RsB mdX5_clear r kb (tX5_clear_2 kb) := row_B hA h24 qX5_clear_24 (ck_n rfl) rfl (fun xs ys s => eX5_clear_24 kb (xs.getD 0 0) s)
  have h0 : RsB mdX5_clear r kb (tX5_clear_0 kb) := row_B hA h2 qX5_clear_2 (ck_n rfl) rfl (fun xs ys s => eX5_clear_2 kb (xs.getD 0 0) (xs.getD 1 0) s)
  exact row_B hA h0 qX5_clear_0 (ck_n rfl) rfl (fun xs ys s => eX5_clear_0 kb (xs.getD 0 0) s)
theorem iX5_clear (hA : AOK) : Impl mdX5_clear gX5_clear := ent_B (kk := kX5_clear) (rr := rX5_clear) (f := fun kb => fun xs ys s => fX5_clear_0 kb (xs.getD 0 0) s) (by decide +kernel) rfl (fun _ => rfl) (fun r kb => pX5_clear hA r kb) (fun kb => ⟨_, rfl⟩) 9999 id (fun xs s => rfl) (fun xs => wkl_rf _)
-- Floatparade$Society.setFeud(LFloatparade$Society;Z)V
theorem mkX6_setFeud : MK mdX6_setFeud true := MKb_ok (h1 := 511) (h2 := 82) (h3 := 509) (h4 := 510) (by decide +kernel)
theorem qX6_setFeud_0 : blkb mdX6_setFeud 0 0 bX6_setFeud_0 [[], [], [402], [], [], [], [], [], [], [418], [], [], []] = true := by decide +kernel
theorem qX6_setFeud_21 : blkb mdX6_setFeud 29 21 bX6_setFeud_21 [[], [418], [], [], [], []] = true := by decide +kernel
theorem qX6_setFeud_29 : blkb mdX6_setFeud 0 29 bX6_setFeud_29 [[418], []] = true := by decide +kernel
theorem pX6_setFeud (hA : AOK) (r : Rt) (kb : Co) : RsB mdX6_setFeud r kb (rX6_setFeud kb) := by
  have h29 : RsB mdX6_setFeud r kb (tX6_setFeud_29 kb) := row_0
  have h21 : RsB mdX6_setFeud r kb (tX6_setFeud_21 kb) := row_B hA h29 qX6_setFeud_29 (ck_n rfl) rfl (fun xs ys s => eX6_setFeud_29 kb (ys.getD 0 0) (ys.getD 1 0) s)
  have h0 : RsB mdX6_setFeud r kb (tX6_setFeud_0 kb) := row_B hA h21 qX6_setFeud_21 (ck_n rfl) rfl (fun xs ys s => eX6_setFeud_21 kb (xs.getD 0 0) (xs.getD 1 0) (ys.getD 0 0) s)
  exact row_B hA h0 qX6_setFeud_0 (ck_n rfl) rfl (fun xs ys s => eX6_setFeud_0 kb (xs.getD 0 0) (xs.getD 1 0) (xs.getD 2 0) s)
theorem iX6_setFeud (hA : AOK) : Impl mdX6_setFeud gX6_setFeud := ent_B (kk := kX6_setFeud) (rr := rX6_setFeud) (f := fun kb => fun xs ys s => fX6_setFeud_0 kb (xs.getD 0 0) (xs.getD 1 0) (xs.getD 2 0) s) (by decide +kernel) rfl (fun _ => rfl) (fun r kb => pX6_setFeud hA r kb) (fun kb => ⟨_, rfl⟩) 0 id (fun xs s => rfl) (fun xs => wkl_rf _)
-- java/lang/Integer.bitCount(I)I
theorem mkJ6_bitCount_0f7a4 : MK mdJ6_bitCount_0f7a4 false := MKb_ok (h1 := 530) (h2 := 86) (h3 := 529) (h4 := 0) (by decide +kernel)
theorem qJ6_bitCount_0f7a4_0 : blkb mdJ6_bitCount_0f7a4 0 0 bJ6_bitCount_0f7a4_0 [[], [], [], [], [531], [], [], [], [], [532], [], [], [], [], [532], [], [], [], [], [], [], [], [], [533], [], [], [], [], [], [], [], [], [], [], [], [], [], [], [], [], [], []] = true := by decide +kernel
theorem pJ6_bitCount_0f7a4 (hA : AOK) (r : Rt) (kb : Co) : RsB mdJ6_bitCount_0f7a4 r kb (rJ6_bitCount_0f7a4 kb) := by
  have h0 : RsB mdJ6_bitCount_0f7a4 r kb (tJ6_bitCount_0f7a4_0 kb) := row_0
  exact row_B hA h0 qJ6_bitCount_0f7a4_0 (ck_n rfl) rfl (fun xs ys s => eJ6_bitCount_0f7a4_0 kb (xs.getD 0 0) s)
theorem iJ6_bitCount_0f7a4 (hA : AOK) : Impl mdJ6_bitCount_0f7a4 gJ6_bitCount_0f7a4 := ent_B (kk := kJ6_bitCount_0f7a4) (rr := rJ6_bitCount_0f7a4) (f := fun kb => fun xs ys s => fJ6_bitCount_0f7a4_0 kb (xs.getD 0 0) s) (by decide +kernel) rfl (fun _ => rfl) (fun r kb => pJ6_bitCount_0f7a4 hA r kb) (fun kb => ⟨_, rfl⟩) 0 id (fun xs s => rfl) (fun xs => wkl_rf _)
-- Floatparade$Society.isThemeLike(I)Z
theorem mkX6_isThemeLike : MK mdX6_isThemeLike true := MKb_ok (h1 := 527) (h2 := 82) (h3 := 525) (h4 := 526) (by decide +kernel)
theorem qX6_isThemeLike_0 : blkb mdX6_isThemeLike 0 0 bX6_isThemeLike_0 [[], [419], [], [], [528], [], [], [], []] = true := by decide +kernel
theorem qX6_isThemeLike_17 : blkb mdX6_isThemeLike 18 17 bX6_isThemeLike_17 [[]] = true := by decide +kernel
theorem qX6_isThemeLike_18 : blkb mdX6_isThemeLike 0 18 bX6_isThemeLike_18 [[]] = true := by decide +kernel
theorem pX6_isThemeLike (hA : AOK) (r : Rt) (kb : Co) : RsB mdX6_isThemeLike r kb (rX6_isThemeLike kb) := by
  have h18 : RsB mdX6_isThemeLike r kb (tX6_isThemeLike_18 kb) := row_0
  have h17 : RsB mdX6_isThemeLike r kb (tX6_isThemeLike_17 kb) := row_B hA h18 qX6_isThemeLike_18 (ck_n rfl) rfl (fun xs ys s => eX6_isThemeLike_18 kb (ys.getD 0 0) s)
  have h0 : RsB mdX6_isThemeLike r kb (tX6_isThemeLike_0 kb) := row_B hA h17 qX6_isThemeLike_17 (ck_n rfl) rfl (fun xs ys s => eX6_isThemeLike_17 kb s)
  exact row_B hA h0 qX6_isThemeLike_0 (And.intro trivial (And.intro trivial (And.intro trivial (And.intro trivial (And.intro (co_of mkJ6_bitCount_0f7a4 (iJ6_bitCount_0f7a4 hA)) (ck_n rfl)))))) rfl (fun xs ys s => eX6_isThemeLike_0 kb (xs.getD 0 0) (xs.getD 1 0) s)
theorem iX6_isThemeLike (hA : AOK) : Impl mdX6_isThemeLike gX6_isThemeLike := ent_B (kk := kX6_isThemeLike) (rr := rX6_isThemeLike) (f := fun kb => fun xs ys s => fX6_isThemeLike_0 kb (xs.getD 0 0) (xs.getD 1 0) s) (by decide +kernel) rfl (fun _ => rfl) (fun r kb => pX6_isThemeLike hA r kb) (fun kb => ⟨_, rfl⟩) 0 id (fun xs s => rfl) (fun xs => wkl_rf _)
-- Floatparade$Society.addWagon(LFloatparade$Wagon;)I
theorem mkX6_addWagon : MK mdX6_addWagon true := MKb_ok (h1 := 770) (h2 := 82) (h3 := 768) (h4 := 769) (by decide +kernel)
theorem qX6_addWagon_0 : blkb mdX6_addWagon 0 0 bX6_addWagon_0 [[], [423], [], [], [], [], [412], [], [], [], [771], [], [], []] = true := by decide +kernel
theorem qX6_addWagon_22 : blkb mdX6_addWagon 0 22 bX6_addWagon_22 [[], [412], [], [], [], [], [], [], [], [423], [], []] = true := by decide +kernel
theorem pX6_addWagon (hA : AOK) (r : Rt) (kb : Co) : RsB mdX6_addWagon r kb (rX6_addWagon kb) := by
  have h22 : RsB mdX6_addWagon r kb (tX6_addWagon_22 kb) := row_0
  have h0 : RsB mdX6_addWagon r kb (tX6_addWagon_0 kb) := row_B hA h22 qX6_addWagon_22 (ck_n rfl) rfl (fun xs ys s => eX6_addWagon_22 kb (xs.getD 0 0) (xs.getD 1 0) (xs.getD 2 0) s)
  exact row_B hA h0 qX6_addWagon_0 (And.intro trivial (And.intro trivial (And.intro trivial (And.intro trivial (And.intro trivial (And.intro trivial (And.intro trivial (And.intro trivial (And.intro trivial (And.intro trivial (And.intro (co_of mkX11_isWithin (iX11_isWithin hA)) (ck_n rfl)))))))))))) rfl (fun xs ys s => eX6_addWagon_0 kb (xs.getD 0 0) (xs.getD 1 0) s)
theorem iX6_addWagon (hA : AOK) : Impl mdX6_addWagon gX6_addWagon := ent_B (kk := kX6_addWagon) (rr := rX6_addWagon) (f := fun kb => fun xs ys s => fX6_addWagon_0 kb (xs.getD 0 0) (xs.getD 1 0) s) (by decide +kernel) rfl (fun _ => rfl) (fun r kb => pX6_addWagon hA r kb) (fun kb => ⟨_, rfl⟩) 0 id (fun xs s => rfl) (fun xs => wkl_rf _)
-- Floatparade$Songs.has(I)Z
theorem mkX7_has : MK mdX7_has true := MKb_ok (h1 := 557) (h2 := 83) (h3 := 555) (h4 := 556) (by decide +kernel)
theorem qX7_has_0 : blkb mdX7_has 0 0 bX7_has_0 [[], [], [], [365], [], [], [558], [], [], [], [363], [], [], [], [], [364], [], [], [], []] = true := by decide +kernel
theorem qX7_has_36 : blkb mdX7_has 37 36 bX7_has_36 [[]] = true := by decide +kernel
theorem qX7_has_37 : blkb mdX7_has 0 37 bX7_has_37 [[]] = true := by decide +kernel
theorem pX7_has (hA : AOK) (r : Rt) (kb : Co) : RsB mdX7_has r kb (rX7_has kb) := by
  have h37 : RsB mdX7_has r kb (tX7_has_37 kb) := row_0
  have h36 : RsB mdX7_has r kb (tX7_has_36 kb) := row_B hA h37 qX7_has_37 (ck_n rfl) rfl (fun xs ys s => eX7_has_37 kb (ys.getD 0 0) s)
  have h0 : RsB mdX7_has r kb (tX7_has_0 kb) := row_B hA h36 qX7_has_36 (ck_n rfl) rfl (fun xs ys s => eX7_has_36 kb s)
  exact row_B hA h0 qX7_has_0 (And.intro trivial (And.intro trivial (And.intro trivial (And.intro trivial (And.intro trivial (And.intro trivial (And.intro (co_of mkX11_isWithin (iX11_isWithin hA)) (ck_n rfl)))))))) rfl (fun xs ys s => eX7_has_0 kb (xs.getD 0 0) (xs.getD 1 0) s)
theorem iX7_has (hA : AOK) : Impl mdX7_has gX7_has := ent_B (kk := kX7_has) (rr := rX7_has) (f := fun kb => fun xs ys s => fX7_has_0 kb (xs.getD 0 0) (xs.getD 1 0) s) (by decide +kernel) rfl (fun _ => rfl) (fun r kb => pX7_has hA r kb) (fun kb => ⟨_, rfl⟩) 0 id (fun xs s => rfl) (fun xs => wkl_rf _)
-- Floatparade$Songs.isStruck(I)Z
theorem mkX7_isStruck : MK mdX7_isStruck true := MKb_ok (h1 := 572) (h2 := 83) (h3 := 570) (h4 := 571) (by decide +kernel)
theorem qX7_isStruck_0 : blkb mdX7_isStruck 0 0 bX7_isStruck_0 [[], [], [554], [], [], [364], [], [], [], [], []] = true := by decide +kernel
theorem qX7_isStruck_21 : blkb mdX7_isStruck 22 21 bX7_isStruck_21 [[]] = true := by decide +kernel
theorem qX7_isStruck_22 : blkb mdX7_isStruck 0 22 bX7_isStruck_22 [[]] = true := by decide +kernel
theorem pX7_isStruck (hA : AOK) (r : Rt) (kb : Co) : RsB mdX7_isStruck r kb (rX7_isStruck kb) := by
  have h22 : RsB mdX7_isStruck r kb (tX7_isStruck_22 kb) := row_0
  have h21 : RsB mdX7_isStruck r kb (tX7_isStruck_21 kb) := row_B hA h22 qX7_isStruck_22 (ck_n rfl) rfl (fun xs ys s => eX7_isStruck_22 kb (ys.getD 0 0) s)
  have h0 : RsB mdX7_isStruck r kb (tX7_isStruck_0 kb) := row_B hA h21 qX7_isStruck_21 (ck_n rfl) rfl (fun xs ys s => eX7_isStruck_21 kb s)
  exact row_B hA h0 qX7_isStruck_0 (And.intro trivial (And.intro trivial (And.intro (co_of mkX7_has (iX7_has hA)) (ck_n rfl)))) rfl (fun xs ys s => eX7_isStruck_0 kb (xs.getD 0 0) (xs.getD 1 0) s)
theorem iX7_isStruck (hA : AOK) : Impl mdX7_isStruck gX7_isStruck := ent_B (kk := kX7_isStruck) (rr := rX7_isStruck) (f := fun kb => fun xs ys s => fX7_isStruck_0 kb (xs.getD 0 0) (xs.getD 1 0) s) (by decide +kernel) rfl (fun _ => rfl) (fun r kb => pX7_isStruck hA r kb) (fun kb => ⟨_, rfl⟩) 0 id (fun xs s => rfl) (fun xs => wkl_rf _)
-- Floatparade$Songs.left()I
theorem mkX7_left : MK mdX7_left true := MKb_ok (h1 := 580) (h2 := 83) (h3 := 578) (h4 := 579) (by decide +kernel)
theorem qX7_left_0 : blkb mdX7_left 4 0 bX7_left_0 [[], [], [], []] = true := by decide +kernel
theorem qX7_left_4 : blkb mdX7_left 0 4 bX7_left_4 [[], [], [365], [], [], [], [], [581], [], [], []] = true := by decide +kernel
theorem qX7_left_25 : blkb mdX7_left 26 25 bX7_left_25 [[]] = true := by decide +kernel
theorem qX7_left_26 : blkb mdX7_left 0 26 bX7_left_26 [[], [], [], []] = true := by decide +kernel
theorem qX7_left_34 : blkb mdX7_left 0 34 bX7_left_34 [[], []] = true := by decide +kernel
theorem pX7_left (hA : AOK) (r : Rt) (kb : Co) : RsB mdX7_left r kb (rX7_left kb) := by
  have h34 : RsB mdX7_left r kb (tX7_left_34 kb) := row_0
  have h26 : RsB mdX7_left r kb (tX7_left_26 kb) := row_B hA h34 qX7_left_34 (ck_n rfl) rfl (fun xs ys s => eX7_left_34 kb (xs.getD 0 0) s)
  have h25 : RsB mdX7_left r kb (tX7_left_25 kb) := row_B hA h26 qX7_left_26 (ck_n rfl) rfl (fun xs ys s => eX7_left_26 kb (xs.getD 0 0) (xs.getD 1 0) (ys.getD 0 0) (ys.getD 1 0) s)
  have h4 : RsB mdX7_left r kb (tX7_left_4 kb) := row_B hA h25 qX7_left_25 (ck_n rfl) rfl (fun xs ys s => eX7_left_25 kb (xs.getD 0 0) (xs.getD 1 0) (ys.getD 0 0) s)
  have h0 : RsB mdX7_left r kb (tX7_left_0 kb) := row_B hA h4 qX7_left_4 (And.intro trivial (And.intro trivial (And.intro trivial (And.intro trivial (And.intro trivial (And.intro trivial (And.intro trivial (And.intro (co_of mkX7_isStruck (iX7_isStruck hA)) (ck_n rfl))))))))) rfl (fun xs ys s => eX7_left_4 kb (xs.getD 0 0) (xs.getD 1 0) (xs.getD 2 0) s)
  exact row_B hA h0 qX7_left_0 (ck_n rfl) rfl (fun xs ys s => eX7_left_0 kb (xs.getD 0 0) s)
theorem iX7_left (hA : AOK) : Impl mdX7_left gX7_left := ent_B (kk := kX7_left) (rr := rX7_left) (f := fun kb => fun xs ys s => fX7_left_0 kb (xs.getD 0 0) s) (by decide +kernel) rfl (fun _ => rfl) (fun r kb => pX7_left hA r kb) (fun kb => ⟨_, rfl⟩) 9999 id (fun xs s => rfl) (fun xs => wkl_rf _)
-- Floatparade$Songs.chosen()I
theorem mkX7_chosen : MK mdX7_chosen true := MKb_ok (h1 := 576) (h2 := 83) (h3 := 574) (h4 := 575) (by decide +kernel)
theorem qX7_chosen_0 : blkb mdX7_chosen 0 0 bX7_chosen_0 [[], [577], [], [], [], []] = true := by decide +kernel
theorem qX7_chosen_10 : blkb mdX7_chosen 14 10 bX7_chosen_10 [[], [], [], []] = true := by decide +kernel
theorem qX7_chosen_14 : blkb mdX7_chosen 0 14 bX7_chosen_14 [[], [], [365], [], [], [], [581], [], [], []] = true := by decide +kernel
theorem qX7_chosen_34 : blkb mdX7_chosen 35 34 bX7_chosen_34 [[]] = true := by decide +kernel
theorem qX7_chosen_35 : blkb mdX7_chosen 0 35 bX7_chosen_35 [[], [], []] = true := by decide +kernel
theorem qX7_chosen_42 : blkb mdX7_chosen 0 42 bX7_chosen_42 [[], []] = true := by decide +kernel
theorem pX7_chosen (hA : AOK) (r : Rt) (kb : Co) : RsB mdX7_chosen r kb (rX7_chosen kb) := by
  have h42 : RsB mdX7_chosen r kb (tX7_chosen_42 kb) := row_0
  have h35 : RsB mdX7_chosen r kb (tX7_chosen_35 kb) := row_B hA h42 qX7_chosen_42 (ck_n rfl) rfl (fun xs ys s => eX7_chosen_42 kb (xs.getD 0 0) s)
  have h34 : RsB mdX7_chosen r kb (tX7_chosen_34 kb) := row_B hA h35 qX7_chosen_35 (ck_n rfl) rfl (fun xs ys s => eX7_chosen_35 kb (xs.getD 0 0) (xs.getD 1 0) (ys.getD 0 0) s)
  have h14 : RsB mdX7_chosen r kb (tX7_chosen_14 kb) := row_B hA h34 qX7_chosen_34 (ck_n rfl) rfl (fun xs ys s => eX7_chosen_34 kb (xs.getD 0 0) (xs.getD 1 0) s)
  have h10 : RsB mdX7_chosen r kb (tX7_chosen_10 kb) := row_B hA h14 qX7_chosen_14 (And.intro trivial (And.intro trivial (And.intro trivial (And.intro trivial (And.intro trivial (And.intro trivial (And.intro (co_of mkX7_isStruck (iX7_isStruck hA)) (ck_n rfl)))))))) rfl (fun xs ys s => eX7_chosen_14 kb (xs.getD 0 0) (xs.getD 1 0) (xs.getD 2 0) s)
  have h0 : RsB mdX7_chosen r kb (tX7_chosen_0 kb) := row_B hA h10 qX7_chosen_10 (ck_n rfl) rfl (fun xs ys s => eX7_chosen_10 kb (xs.getD 0 0) s)
  exact row_B hA h0 qX7_chosen_0 (And.intro trivial (And.intro (co_of mkX7_left (iX7_left hA)) (ck_n rfl))) rfl (fun xs ys s => eX7_chosen_0 kb (xs.getD 0 0) s)
theorem iX7_chosen (hA : AOK) : Impl mdX7_chosen gX7_chosen := ent_B (kk := kX7_chosen) (rr := rX7_chosen) (f := fun kb => fun xs ys s => fX7_chosen_0 kb (xs.getD 0 0) s) (by decide +kernel) rfl (fun _ => rfl) (fun r kb => pX7_chosen hA r kb) (fun kb => ⟨_, rfl⟩) 9999 id (fun xs s => rfl) (fun xs => wkl_rf _)
-- Floatparade$Society.tell(I)I
theorem mkX6_tell : MK mdX6_tell true := MKb_ok (h1 := 1278) (h2 := 82) (h3 := 1276) (h4 := 1277) (by decide +kernel)
theorem qX6_tell_0 : blkb mdX6_tell 0 0 bX6_tell_0 [[], []] = true := by decide +kernel
theorem qX6_tell_48 : blkb mdX6_tell 0 48 bX6_tell_48 [[], [413], []] = true := by decide +kernel
theorem qX6_tell_53 : blkb mdX6_tell 0 53 bX6_tell_53 [[], [407], []] = true := by decide +kernel
theorem qX6_tell_58 : blkb mdX6_tell 0 58 bX6_tell_58 [[], [419], []] = true := by decide +kernel
theorem qX6_tell_63 : blkb mdX6_tell 0 63 bX6_tell_63 [[], [408], [1279], []] = true := by decide +kernel
theorem qX6_tell_71 : blkb mdX6_tell 0 71 bX6_tell_71 [[], [423], []] = true := by decide +kernel
theorem qX6_tell_76 : blkb mdX6_tell 0 76 bX6_tell_76 [[], [410], [1239], []] = true := by decide +kernel
theorem qX6_tell_84 : blkb mdX6_tell 0 84 bX6_tell_84 [[], [417], []] = true := by decide +kernel
theorem qX6_tell_89 : blkb mdX6_tell 0 89 bX6_tell_89 [[], [440], [], [], []] = true := by decide +kernel
theorem qX6_tell_100 : blkb mdX6_tell 101 100 bX6_tell_100 [[]] = true := by decide +kernel
theorem qX6_tell_101 : blkb mdX6_tell 0 101 bX6_tell_101 [[]] = true := by decide +kernel
theorem qX6_tell_102 : blkb mdX6_tell 0 102 bX6_tell_102 [[], [410], [387], []] = true := by decide +kernel
theorem pX6_tell (hA : AOK) (r : Rt) (kb : Co) : RsB mdX6_tell r kb (rX6_tell kb) := by
  have h102 : RsB mdX6_tell r kb (tX6_tell_102 kb) := row_0
  have h101 : RsB mdX6_tell r kb (tX6_tell_101 kb) := row_B hA h102 qX6_tell_102 (ck_n rfl) rfl (fun xs ys s => eX6_tell_102 kb (xs.getD 0 0) s)
  have h100 : RsB mdX6_tell r kb (tX6_tell_100 kb) := row_B hA h101 qX6_tell_101 (ck_n rfl) rfl (fun xs ys s => eX6_tell_101 kb (ys.getD 0 0) s)
  have h89 : RsB mdX6_tell r kb (tX6_tell_89 kb) := row_B hA h100 qX6_tell_100 (ck_n rfl) rfl (fun xs ys s => eX6_tell_100 kb s)
  have h84 : RsB mdX6_tell r kb (tX6_tell_84 kb) := row_B hA h89 qX6_tell_89 (ck_n rfl) rfl (fun xs ys s => eX6_tell_89 kb (xs.getD 0 0) s)
  have h76 : RsB mdX6_tell r kb (tX6_tell_76 kb) := row_B hA h84 qX6_tell_84 (ck_n rfl) rfl (fun xs ys s => eX6_tell_84 kb (xs.getD 0 0) s)
  have h71 : RsB mdX6_tell r kb (tX6_tell_71 kb) := row_B hA h76 qX6_tell_76 (And.intro trivial (And.intro trivial (And.intro (co_of mkX5_points (iX5_points hA)) (ck_n rfl)))) rfl (fun xs ys s => eX6_tell_76 kb (xs.getD 0 0) s)
  have h63 : RsB mdX6_tell r kb (tX6_tell_63 kb) := row_B hA h71 qX6_tell_71 (ck_n rfl) rfl (fun xs ys s => eX6_tell_71 kb (xs.getD 0 0) s)
  have h58 : RsB mdX6_tell r kb (tX6_tell_58 kb) := row_B hA h63 qX6_tell_63 (And.intro trivial (And.intro trivial (And.intro (co_of mkX7_chosen (iX7_chosen hA)) (ck_n rfl)))) rfl (fun xs ys s => eX6_tell_63 kb (xs.getD 0 0) s)
  have h53 : RsB mdX6_tell r kb (tX6_tell_53 kb) := row_B hA h58 qX6_tell_58 (ck_n rfl) rfl (fun xs ys s => eX6_tell_58 kb (xs.getD 0 0) s)
  have h48 : RsB mdX6_tell r kb (tX6_tell_48 kb) := row_B hA h53 qX6_tell_53 (ck_n rfl) rfl (fun xs ys s => eX6_tell_53 kb (xs.getD 0 0) s)
  have h0 : RsB mdX6_tell r kb (tX6_tell_0 kb) := row_B hA h48 qX6_tell_48 (ck_n rfl) rfl (fun xs ys s => eX6_tell_48 kb (xs.getD 0 0) s)
  exact row_B hA h0 qX6_tell_0 (ck_n rfl) rfl (fun xs ys s => eX6_tell_0 kb (xs.getD 0 0) (xs.getD 1 0) s)
theorem iX6_tell (hA : AOK) : Impl mdX6_tell gX6_tell := ent_B (kk := kX6_tell) (rr := rX6_tell) (f := fun kb => fun xs ys s => fX6_tell_0 kb (xs.getD 0 0) (xs.getD 1 0) s) (by decide +kernel) rfl (fun _ => rfl) (fun r kb => pX6_tell hA r kb) (fun kb => ⟨_, rfl⟩) 0 id (fun xs s => rfl) (fun xs => wkl_rf _)
-- Floatparade$Songs.clear()V
theorem mkX7_clear : MK mdX7_clear true := MKb_ok (h1 := 1261) (h2 := 83) (h3 := 1259) (h4 := 1260) (by decide +kernel)
theorem qX7_clear_0 : blkb mdX7_clear 0 0 bX7_clear_0 [[], [], [365], [], [], [366], []] = true := by decide +kernel
theorem pX7_clear (hA : AOK) (r : Rt) (kb : Co) : RsB mdX7_clear r kb (rX7_clear kb) := by
  have h0 : RsB mdX7_clear r kb (tX7_clear_0 kb) := row_0
  exact row_B hA h0 qX7_clear_0 (ck_n rfl) rfl (fun xs ys s => eX7_clear_0 kb (xs.getD 0 0) s)
theorem iX7_clear (hA : AOK) : Impl mdX7_clear gX7_clear := ent_B (kk := kX7_clear) (rr := rX7_clear) (f := fun kb => fun xs ys s => fX7_clear_0 kb (xs.getD 0 0) s) (by decide +kernel) rfl (fun _ => rfl) (fun r kb => pX7_clear hA r kb) (fun kb => ⟨_, rfl⟩) 0 id (fun xs s => rfl) (fun xs => wkl_rf _)
-- Floatparade$Society.forgetYear()V
theorem mkX6_forgetYear : MK mdX6_forgetYear true := MKb_ok (h1 := 1257) (h2 := 82) (h3 := 1255) (h4 := 1256) (by decide +kernel)
theorem qX6_forgetYear_0 : blkb mdX6_forgetYear 0 0 bX6_forgetYear_0 [[], [408], [1258], [], [410], [1262], [], [], [419], [], [], [422], [], [], [423], [], [], [428], [], [], [430], [], [], [433], [], [], [436], [], [], [440], []] = true := by decide +kernel
theorem pX6_forgetYear (hA : AOK) (r : Rt) (kb : Co) : RsB mdX6_forgetYear r kb (rX6_forgetYear kb) := by
  have h0 : RsB mdX6_forgetYear r kb (tX6_forgetYear_0 kb) := row_0
  exact row_B hA h0 qX6_forgetYear_0 (And.intro trivial (And.intro trivial (And.intro (co_of mkX7_clear (iX7_clear hA)) (And.intro trivial (And.intro trivial (And.intro (co_of mkX5_clear (iX5_clear hA)) (ck_n rfl))))))) rfl (fun xs ys s => eX6_forgetYear_0 kb (xs.getD 0 0) s)
theorem iX6_forgetYear (hA : AOK) : Impl mdX6_forgetYear gX6_forgetYear := ent_B (kk := kX6_forgetYear) (rr := rX6_forgetYear) (f := fun kb => fun xs ys s => fX6_forgetYear_0 kb (xs.getD 0 0) s) (by decide +kernel) rfl (fun _ => rfl) (fun r kb => pX6_forgetYear hA r kb) (fun kb => ⟨_, rfl⟩) 0 id (fun xs s => rfl) (fun xs => wkl_rf _)
-- Floatparade$Songs.mayGrow()Z
theorem mkX7_mayGrow : MK mdX7_mayGrow true := MKb_ok (h1 := 548) (h2 := 83) (h3 := 546) (h4 := 547) (by decide +kernel)
theorem qX7_mayGrow_0 : blkb mdX7_mayGrow 0 0 bX7_mayGrow_0 [[], [365], [], [], [], [366], [], [], []] = true := by decide +kernel
theorem qX7_mayGrow_20 : blkb mdX7_mayGrow 21 20 bX7_mayGrow_20 [[]] = true := by decide +kernel
theorem qX7_mayGrow_21 : blkb mdX7_mayGrow 0 21 bX7_mayGrow_21 [[]] = true := by decide +kernel
theorem pX7_mayGrow (hA : AOK) (r : Rt) (kb : Co) : RsB mdX7_mayGrow r kb (rX7_mayGrow kb) := by
  have h21 : RsB mdX7_mayGrow r kb (tX7_mayGrow_21 kb) := row_0
  have h20 : RsB mdX7_mayGrow r kb (tX7_mayGrow_20 kb) := row_B hA h21 qX7_mayGrow_21 (ck_n rfl) rfl (fun xs ys s => eX7_mayGrow_21 kb (ys.getD 0 0) s)
  have h0 : RsB mdX7_mayGrow r kb (tX7_mayGrow_0 kb) := row_B hA h20 qX7_mayGrow_20 (ck_n rfl) rfl (fun xs ys s => eX7_mayGrow_20 kb s)
  exact row_B hA h0 qX7_mayGrow_0 (ck_n rfl) rfl (fun xs ys s => eX7_mayGrow_0 kb (xs.getD 0 0) s)
theorem iX7_mayGrow (hA : AOK) : Impl mdX7_mayGrow gX7_mayGrow := ent_B (kk := kX7_mayGrow) (rr := rX7_mayGrow) (f := fun kb => fun xs ys s => fX7_mayGrow_0 kb (xs.getD 0 0) s) (by decide +kernel) rfl (fun _ => rfl) (fun r kb => pX7_mayGrow hA r kb) (fun kb => ⟨_, rfl⟩) 0 id (fun xs s => rfl) (fun xs => wkl_rf _)
-- Floatparade$Songs.add()I
theorem mkX7_add : MK mdX7_add true := MKb_ok (h1 := 553) (h2 := 83) (h3 := 551) (h4 := 552) (by decide +kernel)
theorem qX7_add_0 : blkb mdX7_add 37 0 bX7_add_0 [[], [365], [], [], [], [365], [], [], [365], [], [], [554], [], [], [363], [], [], [], [], [364], [], [], []] = true := by decide +kernel
theorem qX7_add_37 : blkb mdX7_add 0 37 bX7_add_37 [[], []] = true := by decide +kernel
theorem pX7_add (hA : AOK) (r : Rt) (kb : Co) : RsB mdX7_add r kb (rX7_add kb) := by
  have h37 : RsB mdX7_add r kb (tX7_add_37 kb) := row_0
  have h0 : RsB mdX7_add r kb (tX7_add_0 kb) := row_B hA h37 qX7_add_37 (ck_n rfl) rfl (fun xs ys s => eX7_add_37 kb (xs.getD 0 0) s)
  exact row_B hA h0 qX7_add_0 (And.intro trivial (And.intro trivial (And.intro trivial (And.intro trivial (And.intro trivial (And.intro trivial (And.intro trivial (And.intro trivial (And.intro trivial (And.intro trivial (And.intro trivial (And.intro (co_of mkX7_has (iX7_has hA)) (ck_n rfl))))))))))))) rfl (fun xs ys s => eX7_add_0 kb (xs.getD 0 0) s)
theorem iX7_add (hA : AOK) : Impl mdX7_add gX7_add := ent_B (kk := kX7_add) (rr := rX7_add) (f := fun kb => fun xs ys s => fX7_add_0 kb (xs.getD 0 0) s) (by decide +kernel) rfl (fun _ => rfl) (fun r kb => pX7_add hA r kb) (fun kb => ⟨_, rfl⟩) 0 id (fun xs s => rfl) (fun xs => wkl_rf _)
-- Floatparade$Songs.addVotes(II)I
theorem mkX7_addVotes : MK mdX7_addVotes true := MKb_ok (h1 := 586) (h2 := 83) (h3 := 584) (h4 := 585) (by decide +kernel)
theorem qX7_addVotes_0 : blkb mdX7_addVotes 0 0 bX7_addVotes_0 [[], [], [554], [], [], []] = true := by decide +kernel
theorem qX7_addVotes_10 : blkb mdX7_addVotes 0 10 bX7_addVotes_10 [[], [363], [], [], [], [], [], [], [], [363], [], [], []] = true := by decide +kernel
theorem pX7_addVotes (hA : AOK) (r : Rt) (kb : Co) : RsB mdX7_addVotes r kb (rX7_addVotes kb) := by
  have h10 : RsB mdX7_addVotes r kb (tX7_addVotes_10 kb) := row_0
  have h0 : RsB mdX7_addVotes r kb (tX7_addVotes_0 kb) := row_B hA h10 qX7_addVotes_10 (ck_n rfl) rfl (fun xs ys s => eX7_addVotes_10 kb (xs.getD 0 0) (xs.getD 1 0) (xs.getD 2 0) s)
  exact row_B hA h0 qX7_addVotes_0 (And.intro trivial (And.intro trivial (And.intro (co_of mkX7_has (iX7_has hA)) (ck_n rfl)))) rfl (fun xs ys s => eX7_addVotes_0 kb (xs.getD 0 0) (xs.getD 1 0) (xs.getD 2 0) s)
theorem iX7_addVotes (hA : AOK) : Impl mdX7_addVotes gX7_addVotes := ent_B (kk := kX7_addVotes) (rr := rX7_addVotes) (f := fun kb => fun xs ys s => fX7_addVotes_0 kb (xs.getD 0 0) (xs.getD 1 0) (xs.getD 2 0) s) (by decide +kernel) rfl (fun _ => rfl) (fun r kb => pX7_addVotes hA r kb) (fun kb => ⟨_, rfl⟩) 0 id (fun xs s => rfl) (fun xs => wkl_rf _)
-- Floatparade$Songs.strikeWeakest()I
theorem mkX7_strikeWeakest : MK mdX7_strikeWeakest true := MKb_ok (h1 := 599) (h2 := 83) (h3 := 597) (h4 := 598) (by decide +kernel)
theorem qX7_strikeWeakest_0 : blkb mdX7_strikeWeakest 4 0 bX7_strikeWeakest_0 [[], [], [], []] = true := by decide +kernel
theorem qX7_strikeWeakest_4 : blkb mdX7_strikeWeakest 52 4 bX7_strikeWeakest_4 [[], [], [365], [], [], [], [554], [], [], [364], [], [], [], [], [], [554], [], [], [363], [], [], [], [363], [], [], []] = true := by decide +kernel
theorem qX7_strikeWeakest_52 : blkb mdX7_strikeWeakest 54 52 bX7_strikeWeakest_52 [[], []] = true := by decide +kernel
theorem qX7_strikeWeakest_54 : blkb mdX7_strikeWeakest 0 54 bX7_strikeWeakest_54 [[], []] = true := by decide +kernel
theorem qX7_strikeWeakest_60 : blkb mdX7_strikeWeakest 75 60 bX7_strikeWeakest_60 [[], [], [554], [], [], [364], [], [], []] = true := by decide +kernel
theorem qX7_strikeWeakest_75 : blkb mdX7_strikeWeakest 77 75 bX7_strikeWeakest_75 [[], []] = true := by decide +kernel
theorem qX7_strikeWeakest_77 : blkb mdX7_strikeWeakest 0 77 bX7_strikeWeakest_77 [[], [], [363], [], [], [], [363], [], [], [], [], []] = true := by decide +kernel
theorem qX7_strikeWeakest_99 : blkb mdX7_strikeWeakest 0 99 bX7_strikeWeakest_99 [[], [], [366], [], []] = true := by decide +kernel
theorem pX7_strikeWeakest (hA : AOK) (r : Rt) (kb : Co) : RsB mdX7_strikeWeakest r kb (rX7_strikeWeakest kb) := by
  have h99 : RsB mdX7_strikeWeakest r kb (tX7_strikeWeakest_99 kb) := row_0
  have h77 : RsB mdX7_strikeWeakest r kb (tX7_strikeWeakest_77 kb) := row_B hA h99 qX7_strikeWeakest_99 (ck_n rfl) rfl (fun xs ys s => eX7_strikeWeakest_99 kb (xs.getD 0 0) (xs.getD 1 0) s)
  have h75 : RsB mdX7_strikeWeakest r kb (tX7_strikeWeakest_75 kb) := row_B hA h77 qX7_strikeWeakest_77 (ck_n rfl) rfl (fun xs ys s => eX7_strikeWeakest_77 kb (xs.getD 0 0) (xs.getD 1 0) (xs.getD 2 0) s)
  have h60 : RsB mdX7_strikeWeakest r kb (tX7_strikeWeakest_60 kb) := row_B hA h75 qX7_strikeWeakest_75 (ck_n rfl) rfl (fun xs ys s => eX7_strikeWeakest_75 kb (xs.getD 0 0) (xs.getD 1 0) s)
  have h54 : RsB mdX7_strikeWeakest r kb (tX7_strikeWeakest_54 kb) := row_B hA h60 qX7_strikeWeakest_60 (And.intro trivial (And.intro trivial (And.intro (co_of mkX7_has (iX7_has hA)) (ck_n rfl)))) rfl (fun xs ys s => eX7_strikeWeakest_60 kb (xs.getD 0 0) (xs.getD 1 0) s)
  have h52 : RsB mdX7_strikeWeakest r kb (tX7_strikeWeakest_52 kb) := row_B hA h54 qX7_strikeWeakest_54 (ck_n rfl) rfl (fun xs ys s => eX7_strikeWeakest_54 kb (xs.getD 0 0) (xs.getD 1 0) (xs.getD 2 0) s)
  have h4 : RsB mdX7_strikeWeakest r kb (tX7_strikeWeakest_4 kb) := row_B hA h52 qX7_strikeWeakest_52 (ck_n rfl) rfl (fun xs ys s => eX7_strikeWeakest_52 kb (xs.getD 0 0) (xs.getD 1 0) s)
  have h0 : RsB mdX7_strikeWeakest r kb (tX7_strikeWeakest_0 kb) := row_B hA h4 qX7_strikeWeakest_4 (And.intro trivial (And.intro trivial (And.intro trivial (And.intro trivial (And.intro trivial (And.intro trivial (And.intro (co_of mkX7_has (iX7_has hA)) (And.intro trivial (And.intro trivial (And.intro trivial (And.intro trivial (And.intro trivial (And.intro trivial (And.intro trivial (And.intro trivial (And.intro (co_of mkX7_has (iX7_has hA)) (ck_n rfl))))))))))))))))) rfl (fun xs ys s => eX7_strikeWeakest_4 kb (xs.getD 0 0) (xs.getD 1 0) (xs.getD 2 0) s)
  exact row_B hA h0 qX7_strikeWeakest_0 (ck_n rfl) rfl (fun xs ys s => eX7_strikeWeakest_0 kb (xs.getD 0 0) s)
theorem iX7_strikeWeakest (hA : AOK) : Impl mdX7_strikeWeakest gX7_strikeWeakest := ent_B (kk := kX7_strikeWeakest) (rr := rX7_strikeWeakest) (f := fun kb => fun xs ys s => fX7_strikeWeakest_0 kb (xs.getD 0 0) s) (by decide +kernel) rfl (fun _ => rfl) (fun r kb => pX7_strikeWeakest hA r kb) (fun kb => ⟨_, rfl⟩) 9999 id (fun xs s => rfl) (fun xs => wkl_rf _)
-- Floatparade$Street.joins(II)Z
theorem mkX8_joins : MK mdX8_joins true := MKb_ok (h1 := 623) (h2 := 87) (h3 := 621) (h4 := 622) (by decide +kernel)
theorem qX8_joins_0 : blkb mdX8_joins 16 0 bX8_joins_0 [[], [631], [], [], [], [632], [], []] = true := by decide +kernel
theorem qX8_joins_16 : blkb mdX8_joins 32 16 bX8_joins_16 [[], [631], [], [], [], [632], [], []] = true := by decide +kernel
theorem qX8_joins_32 : blkb mdX8_joins 0 32 bX8_joins_32 [[], []] = true := by decide +kernel
theorem qX8_joins_36 : blkb mdX8_joins 37 36 bX8_joins_36 [[]] = true := by decide +kernel
theorem qX8_joins_37 : blkb mdX8_joins 0 37 bX8_joins_37 [[]] = true := by decide +kernel
theorem pX8_joins (hA : AOK) (r : Rt) (kb : Co) : RsB mdX8_joins r kb (rX8_joins kb) := by
  have h37 : RsB mdX8_joins r kb (tX8_joins_37 kb) := row_0
  have h36 : RsB mdX8_joins r kb (tX8_joins_36 kb) := row_B hA h37 qX8_joins_37 (ck_n rfl) rfl (fun xs ys s => eX8_joins_37 kb (ys.getD 0 0) s)
  have h32 : RsB mdX8_joins r kb (tX8_joins_32 kb) := row_B hA h36 qX8_joins_36 (ck_n rfl) rfl (fun xs ys s => eX8_joins_36 kb s)
  have h16 : RsB mdX8_joins r kb (tX8_joins_16 kb) := row_B hA h32 qX8_joins_32 (ck_n rfl) rfl (fun xs ys s => eX8_joins_32 kb s)
  have h0 : RsB mdX8_joins r kb (tX8_joins_0 kb) := row_B hA h16 qX8_joins_16 (ck_n rfl) rfl (fun xs ys s => eX8_joins_16 kb (xs.getD 0 0) (xs.getD 1 0) (xs.getD 2 0) s)
  exact row_B hA h0 qX8_joins_0 (ck_n rfl) rfl (fun xs ys s => eX8_joins_0 kb (xs.getD 0 0) (xs.getD 1 0) (xs.getD 2 0) s)
theorem iX8_joins (hA : AOK) : Impl mdX8_joins gX8_joins := ent_B (kk := kX8_joins) (rr := rX8_joins) (f := fun kb => fun xs ys s => fX8_joins_0 kb (xs.getD 0 0) (xs.getD 1 0) (xs.getD 2 0) s) (by decide +kernel) rfl (fun _ => rfl) (fun r kb => pX8_joins hA r kb) (fun kb => ⟨_, rfl⟩) 0 id (fun xs s => rfl) (fun xs => wkl_rf _)
-- Floatparade$Town.isFull()Z
theorem mkX9_isFull : MK mdX9_isFull true := MKb_ok (h1 := 615) (h2 := 71) (h3 := 613) (h4 := 614) (by decide +kernel)
theorem qX9_isFull_0 : blkb mdX9_isFull 0 0 bX9_isFull_0 [[], [113], [], [111], [], [], [], []] = true := by decide +kernel
theorem qX9_isFull_16 : blkb mdX9_isFull 17 16 bX9_isFull_16 [[]] = true := by decide +kernel
theorem qX9_isFull_17 : blkb mdX9_isFull 0 17 bX9_isFull_17 [[]] = true := by decide +kernel
theorem pX9_isFull (hA : AOK) (r : Rt) (kb : Co) : RsB mdX9_isFull r kb (rX9_isFull kb) := by
  have h17 : RsB mdX9_isFull r kb (tX9_isFull_17 kb) := row_0
  have h16 : RsB mdX9_isFull r kb (tX9_isFull_16 kb) := row_B hA h17 qX9_isFull_17 (ck_n rfl) rfl (fun xs ys s => eX9_isFull_17 kb (ys.getD 0 0) s)
  have h0 : RsB mdX9_isFull r kb (tX9_isFull_0 kb) := row_B hA h16 qX9_isFull_16 (ck_n rfl) rfl (fun xs ys s => eX9_isFull_16 kb s)
  exact row_B hA h0 qX9_isFull_0 (ck_n rfl) rfl (fun xs ys s => eX9_isFull_0 kb (xs.getD 0 0) s)
theorem iX9_isFull (hA : AOK) : Impl mdX9_isFull gX9_isFull := ent_B (kk := kX9_isFull) (rr := rX9_isFull) (f := fun kb => fun xs ys s => fX9_isFull_0 kb (xs.getD 0 0) s) (by decide +kernel) rfl (fun _ => rfl) (fun r kb => pX9_isFull hA r kb) (fun kb => ⟨_, rfl⟩) 0 id (fun xs s => rfl) (fun xs => wkl_rf _)
-- Floatparade$Town.between(II)LFloatparade$Street;
theorem mkX9_between : MK mdX9_between true := MKb_ok (h1 := 619) (h2 := 71) (h3 := 617) (h4 := 618) (by decide +kernel)
theorem qX9_between_0 : blkb mdX9_between 2 0 bX9_between_0 [[], []] = true := by decide +kernel
theorem qX9_between_2 : blkb mdX9_between 0 2 bX9_between_2 [[], [], [111], [], [], [], [111], [], [], [], [], [], [], [], [], [620], [], [], []] = true := by decide +kernel
theorem qX9_between_37 : blkb mdX9_between 0 37 bX9_between_37 [[], []] = true := by decide +kernel
theorem qX9_between_43 : blkb mdX9_between 0 43 bX9_between_43 [[], []] = true := by decide +kernel
theorem pX9_between (hA : AOK) (r : Rt) (kb : Co) : RsB mdX9_between r kb (rX9_between kb) := by
  have h43 : RsB mdX9_between r kb (tX9_between_43 kb) := row_0
  have h37 : RsB mdX9_between r kb (tX9_between_37 kb) := row_B hA h43 qX9_between_43 (ck_n rfl) rfl (fun xs ys s => eX9_between_43 kb s)
  have h2 : RsB mdX9_between r kb (tX9_between_2 kb) := row_B hA h37 qX9_between_37 (ck_n rfl) rfl (fun xs ys s => eX9_between_37 kb (xs.getD 0 0) (xs.getD 1 0) (xs.getD 2 0) (xs.getD 3 0) s)
  have h0 : RsB mdX9_between r kb (tX9_between_0 kb) := row_B hA h2 qX9_between_2 (And.intro trivial (And.intro trivial (And.intro trivial (And.intro trivial (And.intro trivial (And.intro trivial (And.intro trivial (And.intro trivial (And.intro trivial (And.intro trivial (And.intro trivial (And.intro trivial (And.intro trivial (And.intro trivial (And.intro trivial (And.intro (co_of mkX8_joins (iX8_joins hA)) (ck_n rfl))))))))))))))))) rfl (fun xs ys s => eX9_between_2 kb (xs.getD 0 0) (xs.getD 1 0) (xs.getD 2 0) (xs.getD 3 0) s)
  exact row_B hA h0 qX9_between_0 (ck_n rfl) rfl (fun xs ys s => eX9_between_0 kb (xs.getD 0 0) (xs.getD 1 0) (xs.getD 2 0) s)
theorem iX9_between (hA : AOK) : Impl mdX9_between gX9_between := ent_B (kk := kX9_between) (rr := rX9_between) (f := fun kb => fun xs ys s => fX9_between_0 kb (xs.getD 0 0) (xs.getD 1 0) (xs.getD 2 0) s) (by decide +kernel) rfl (fun _ => rfl) (fun r kb => pX9_between hA r kb) (fun kb => ⟨_, rfl⟩) 9999 id (fun xs s => rfl) (fun xs => wkl_rf _)
-- Floatparade$Town.lay(LFloatparade$Street;)I
theorem mkX9_lay : MK mdX9_lay true := MKb_ok (h1 := 655) (h2 := 71) (h3 := 653) (h4 := 654) (by decide +kernel)
theorem qX9_lay_0 : blkb mdX9_lay 38 0 bX9_lay_0 [[], [113], [], [], [111], [], [], [], [656], [], [], [111], [], [113], [], [], [], [], [113], [], [], [113]] = true := by decide +kernel
theorem qX9_lay_38 : blkb mdX9_lay 0 38 bX9_lay_38 [[], [113], []] = true := by decide +kernel
theorem pX9_lay (hA : AOK) (r : Rt) (kb : Co) : RsB mdX9_lay r kb (rX9_lay kb) := by
  have h38 : RsB mdX9_lay r kb (tX9_lay_38 kb) := row_0
  have h0 : RsB mdX9_lay r kb (tX9_lay_0 kb) := row_B hA h38 qX9_lay_38 (ck_n rfl) rfl (fun xs ys s => eX9_lay_38 kb (xs.getD 0 0) s)
  exact row_B hA h0 qX9_lay_0 (And.intro trivial (And.intro trivial (And.intro trivial (And.intro trivial (And.intro trivial (And.intro trivial (And.intro trivial (And.intro trivial (And.intro (co_of mkX11_isWithin (iX11_isWithin hA)) (ck_n rfl)))))))))) rfl (fun xs ys s => eX9_lay_0 kb (xs.getD 0 0) (xs.getD 1 0) s)
theorem iX9_lay (hA : AOK) : Impl mdX9_lay gX9_lay := ent_B (kk := kX9_lay) (rr := rX9_lay) (f := fun kb => fun xs ys s => fX9_lay_0 kb (xs.getD 0 0) (xs.getD 1 0) s) (by decide +kernel) rfl (fun _ => rfl) (fun r kb => pX9_lay hA r kb) (fun kb => ⟨_, rfl⟩) 0 id (fun xs s => rfl) (fun xs => wkl_rf _)
-- Floatparade$Town.setJury(IZ)Z
theorem mkX9_setJury : MK mdX9_setJury true := MKb_ok (h1 := 725) (h2 := 71) (h3 := 723) (h4 := 724) (by decide +kernel)
theorem qX9_setJury_0 : blkb mdX9_setJury 28 0 bX9_setJury_0 [[], [], [726], [], [], [], [], [112], [], [], [], [656], [], [], [112], [], [], []] = true := by decide +kernel
theorem qX9_setJury_28 : blkb mdX9_setJury 0 28 bX9_setJury_28 [[], []] = true := by decide +kernel
theorem pX9_setJury (hA : AOK) (r : Rt) (kb : Co) : RsB mdX9_setJury r kb (rX9_setJury kb) := by
  have h28 : RsB mdX9_setJury r kb (tX9_setJury_28 kb) := row_0
  have h0 : RsB mdX9_setJury r kb (tX9_setJury_0 kb) := row_B hA h28 qX9_setJury_28 (ck_n rfl) rfl (fun xs ys s => eX9_setJury_28 kb (xs.getD 0 0) s)
  exact row_B hA h0 qX9_setJury_0 (And.intro trivial (And.intro trivial (And.intro (co_of mkX9_hasJury (iX9_hasJury hA)) (And.intro trivial (And.intro trivial (And.intro trivial (And.intro trivial (And.intro trivial (And.intro trivial (And.intro trivial (And.intro trivial (And.intro (co_of mkX11_isWithin (iX11_isWithin hA)) (ck_n rfl))))))))))))) rfl (fun xs ys s => eX9_setJury_0 kb (xs.getD 0 0) (xs.getD 1 0) (xs.getD 2 0) s)
theorem iX9_setJury (hA : AOK) : Impl mdX9_setJury gX9_setJury := ent_B (kk := kX9_setJury) (rr := rX9_setJury) (f := fun kb => fun xs ys s => fX9_setJury_0 kb (xs.getD 0 0) (xs.getD 1 0) (xs.getD 2 0) s) (by decide +kernel) rfl (fun _ => rfl) (fun r kb => pX9_setJury hA r kb) (fun kb => ⟨_, rfl⟩) 0 id (fun xs s => rfl) (fun xs => wkl_rf _)
-- Floatparade$Wagon.sum()I
theorem mkX10_sum : MK mdX10_sum true := MKb_ok (h1 := 792) (h2 := 88) (h3 := 790) (h4 := 791) (by decide +kernel)
theorem qX10_sum_0 : blkb mdX10_sum 0 0 bX10_sum_0 [[], [745], [], [748], [], [], [751], [], [], [754], [], []] = true := by decide +kernel
theorem pX10_sum (hA : AOK) (r : Rt) (kb : Co) : RsB mdX10_sum r kb (rX10_sum kb) := by
  have h0 : RsB mdX10_sum r kb (tX10_sum_0 kb) := row_0
  exact row_B hA h0 qX10_sum_0 (ck_n rfl) rfl (fun xs ys s => eX10_sum_0 kb (xs.getD 0 0) s)
theorem iX10_sum (hA : AOK) : Impl mdX10_sum gX10_sum := ent_B (kk := kX10_sum) (rr := rX10_sum) (f := fun kb => fun xs ys s => fX10_sum_0 kb (xs.getD 0 0) s) (by decide +kernel) rfl (fun _ => rfl) (fun r kb => pX10_sum hA r kb) (fun kb => ⟨_, rfl⟩) 0 id (fun xs s => rfl) (fun xs => wkl_rf _)
-- Floatparade$Wagon.shrink(IIII)I
theorem mkX10_shrink : MK mdX10_shrink true := MKb_ok (h1 := 788) (h2 := 88) (h3 := 786) (h4 := 787) (by decide +kernel)
theorem qX10_shrink_0 : blkb mdX10_shrink 0 0 bX10_shrink_0 [[], [789], [], [], [], [745], [], [], [748], [], [], [751], [], [], [754], [], [], [789], [], []] = true := by decide +kernel
theorem pX10_shrink (hA : AOK) (r : Rt) (kb : Co) : RsB mdX10_shrink r kb (rX10_shrink kb) := by
  have h0 : RsB mdX10_shrink r kb (tX10_shrink_0 kb) := row_0
  exact row_B hA h0 qX10_shrink_0 (And.intro trivial (And.intro (co_of mkX10_sum (iX10_sum hA)) (And.intro trivial (And.intro trivial (And.intro trivial (And.intro trivial (And.intro trivial (And.intro trivial (And.intro trivial (And.intro trivial (And.intro trivial (And.intro trivial (And.intro trivial (And.intro trivial (And.intro trivial (And.intro trivial (And.intro trivial (And.intro (co_of mkX10_sum (iX10_sum hA)) (ck_n rfl))))))))))))))))))) rfl (fun xs ys s => eX10_shrink_0 kb (xs.getD 0 0) (xs.getD 1 0) (xs.getD 2 0) (xs.getD 3 0) (xs.getD 4 0) s)
theorem iX10_shrink (hA : AOK) : Impl mdX10_shrink gX10_shrink := ent_B (kk := kX10_shrink) (rr := rX10_shrink) (f := fun kb => fun xs ys s => fX10_shrink_0 kb (xs.getD 0 0) (xs.getD 1 0) (xs.getD 2 0) (xs.getD 3 0) (xs.getD 4 0) s) (by decide +kernel) rfl (fun _ => rfl) (fun r kb => pX10_shrink hA r kb) (fun kb => ⟨_, rfl⟩) 0 id (fun xs s => rfl) (fun xs => wkl_rf _)
