-- Floatparade.isLeague(I)Z
theorem mkX11_isLeague : MK mdX11_isLeague false := MKb_ok (h1 := 264) (h2 := 70) (h3 := 263) (h4 := 0) (by decide +kernel)
theorem qX11_isLeague_0 : blkb mdX11_isLeague 0 0 bX11_isLeague_0 [[], [], [], [265], []] = true := by decide +kernel
theorem pX11_isLeague (hA : AOK) (r : Rt) (kb : Co) : RsB mdX11_isLeague r kb (rX11_isLeague kb) := by
  have h0 : RsB mdX11_isLeague r kb (tX11_isLeague_0 kb) := row_0
  exact row_B hA h0 qX11_isLeague_0 (And.intro trivial (And.intro trivial (And.intro trivial (And.intro (co_of mkX11_isWithin (iX11_isWithin hA)) (ck_n rfl))))) rfl (fun xs ys s => eX11_isLeague_0 kb (xs.getD 0 0) s)
theorem iX11_isLeague (hA : AOK) : Impl mdX11_isLeague gX11_isLeague := ent_B (kk := kX11_isLeague) (rr := rX11_isLeague) (f := fun kb => fun xs ys s => fX11_isLeague_0 kb (xs.getD 0 0) s) (by decide +kernel) rfl (fun _ => rfl) (fun r kb => pX11_isLeague hA r kb) (fun kb => ⟨_, rfl⟩) 0 id (fun xs s => rfl) (fun xs => wkl_rf _)
-- Floatparade.society(II)I
theorem mkX11_society : MK mdX11_society true := MKb_ok (h1 := 261) (h2 := 70) (h3 := 259) (h4 := 260) (by decide +kernel)
theorem qX11_society_0 : blkb mdX11_society 18 0 bX11_society_0 [[], [262], [], [], [], [], [265], []] = true := by decide +kernel
theorem qX11_society_18 : blkb mdX11_society 0 18 bX11_society_18 [[309]] = true := by decide +kernel
theorem qX11_society_28 : blkb mdX11_society 46 28 bX11_society_28 [[], [230], [], [], [], [], [], [227], [], []] = true := by decide +kernel
theorem qX11_society_46 : blkb mdX11_society 0 46 bX11_society_46 [[345]] = true := by decide +kernel
theorem qX11_society_56 : blkb mdX11_society 0 56 bX11_society_56 [[], [227], [], [], [], [], [], [], [], [230], [], []] = true := by decide +kernel
theorem pX11_society (hA : AOK) (r : Rt) (kb : Co) : RsB mdX11_society r kb (rX11_society kb) := by
  have h56 : RsB mdX11_society r kb (tX11_society_56 kb) := row_0
  have h46 : RsB mdX11_society r kb (tX11_society_46 kb) := row_B hA h56 qX11_society_56 (ck_n rfl) rfl (fun xs ys s => eX11_society_56 kb (xs.getD 0 0) (xs.getD 1 0) (xs.getD 2 0) (xs.getD 3 0) s)
  have h28 : RsB mdX11_society r kb (tX11_society_28 kb) := row_B hA h46 qX11_society_46 (ck_n rfl) rfl (fun xs ys s => eX11_society_46 kb s)
  have h18 : RsB mdX11_society r kb (tX11_society_18 kb) := row_B hA h28 qX11_society_28 (ck_n rfl) rfl (fun xs ys s => eX11_society_28 kb (xs.getD 0 0) (xs.getD 1 0) (xs.getD 2 0) s)
  have h0 : RsB mdX11_society r kb (tX11_society_0 kb) := row_B hA h18 qX11_society_18 (ck_n rfl) rfl (fun xs ys s => eX11_society_18 kb s)
  exact row_B hA h0 qX11_society_0 (And.intro trivial (And.intro (co_of mkX11_isLeague (iX11_isLeague hA)) (And.intro trivial (And.intro trivial (And.intro trivial (And.intro trivial (And.intro (co_of mkX11_isWithin (iX11_isWithin hA)) (ck_n rfl)))))))) rfl (fun xs ys s => eX11_society_0 kb (xs.getD 0 0) (xs.getD 1 0) (xs.getD 2 0) s)
theorem iX11_society (hA : AOK) : Impl mdX11_society gX11_society := ent_B (kk := kX11_society) (rr := rX11_society) (f := fun kb => fun xs ys s => fX11_society_0 kb (xs.getD 0 0) (xs.getD 1 0) (xs.getD 2 0) s) (by decide +kernel) rfl (fun _ => rfl) (fun r kb => pX11_society hA r kb) (fun kb => ⟨_, rfl⟩) 0 id (fun xs s => rfl) (fun xs => wkl_rf _)
-- Floatparade.societyAt(I)LFloatparade$Society;
theorem mkX11_societyAt : MK mdX11_societyAt true := MKb_ok (h1 := 486) (h2 := 70) (h3 := 485) (h4 := 1) (by decide +kernel)
theorem qX11_societyAt_0 : blkb mdX11_societyAt 0 0 bX11_societyAt_0 [[], [], [], [227], [], [], [], [265], [], [], [227], [], [], []] = true := by decide +kernel
theorem qX11_societyAt_24 : blkb mdX11_societyAt 25 24 bX11_societyAt_24 [[]] = true := by decide +kernel
theorem qX11_societyAt_25 : blkb mdX11_societyAt 0 25 bX11_societyAt_25 [[]] = true := by decide +kernel
theorem pX11_societyAt (hA : AOK) (r : Rt) (kb : Co) : RsB mdX11_societyAt r kb (rX11_societyAt kb) := by
  have h25 : RsB mdX11_societyAt r kb (tX11_societyAt_25 kb) := row_0
  have h24 : RsB mdX11_societyAt r kb (tX11_societyAt_24 kb) := row_B hA h25 qX11_societyAt_25 (ck_n rfl) rfl (fun xs ys s => eX11_societyAt_25 kb (ys.getD 0 0) s)
  have h0 : RsB mdX11_societyAt r kb (tX11_societyAt_0 kb) := row_B hA h24 qX11_societyAt_24 (ck_n rfl) rfl (fun xs ys s => eX11_societyAt_24 kb s)
  exact row_B hA h0 qX11_societyAt_0 (And.intro trivial (And.intro trivial (And.intro trivial (And.intro trivial (And.intro trivial (And.intro trivial (And.intro trivial (And.intro (co_of mkX11_isWithin (iX11_isWithin hA)) (ck_n rfl))))))))) rfl (fun xs ys s => eX11_societyAt_0 kb (xs.getD 0 0) (xs.getD 1 0) s)
theorem iX11_societyAt (hA : AOK) : Impl mdX11_societyAt gX11_societyAt := ent_B (kk := kX11_societyAt) (rr := rX11_societyAt) (f := fun kb => fun xs ys s => fX11_societyAt_0 kb (xs.getD 0 0) (xs.getD 1 0) s) (by decide +kernel) rfl (fun _ => rfl) (fun r kb => pX11_societyAt hA r kb) (fun kb => ⟨_, rfl⟩) 0 id (fun xs s => rfl) (fun xs => wkl_rf _)
-- Floatparade.feud(IIZ)Z
theorem mkX11_feud : MK mdX11_feud true := MKb_ok (h1 := 482) (h2 := 70) (h3 := 480) (h4 := 481) (by decide +kernel)
theorem qX11_feud_0 : blkb mdX11_feud 24 0 bX11_feud_0 [[], [], [483], [], [], [], [483], [], [], [], [], []] = true := by decide +kernel
theorem qX11_feud_24 : blkb mdX11_feud 0 24 bX11_feud_24 [[496]] = true := by decide +kernel
theorem qX11_feud_34 : blkb mdX11_feud 0 34 bX11_feud_34 [[], [], [], [503]] = true := by decide +kernel
theorem qX11_feud_49 : blkb mdX11_feud 0 49 bX11_feud_49 [[], [], [504], [], [], [], [], [508], [], [], [], [508], [], []] = true := by decide +kernel
theorem pX11_feud (hA : AOK) (r : Rt) (kb : Co) : RsB mdX11_feud r kb (rX11_feud kb) := by
  have h49 : RsB mdX11_feud r kb (tX11_feud_49 kb) := row_0
  have h34 : RsB mdX11_feud r kb (tX11_feud_34 kb) := row_B hA h49 qX11_feud_49 (And.intro trivial (And.intro trivial (And.intro (co_of mkX6_hasFeudWith (iX6_hasFeudWith hA)) (And.intro trivial (And.intro trivial (And.intro trivial (And.intro trivial (And.intro (co_of mkX6_setFeud (iX6_setFeud hA)) (And.intro trivial (And.intro trivial (And.intro trivial (And.intro (co_of mkX6_setFeud (iX6_setFeud hA)) (ck_n rfl))))))))))))) rfl (fun xs ys s => eX11_feud_49 kb (xs.getD 0 0) (xs.getD 1 0) (xs.getD 2 0) s)
  have h24 : RsB mdX11_feud r kb (tX11_feud_24 kb) := row_B hA h34 qX11_feud_34 (ck_n rfl) rfl (fun xs ys s => eX11_feud_34 kb (xs.getD 0 0) (xs.getD 1 0) (xs.getD 2 0) (xs.getD 3 0) (xs.getD 4 0) s)
  have h0 : RsB mdX11_feud r kb (tX11_feud_0 kb) := row_B hA h24 qX11_feud_24 (ck_n rfl) rfl (fun xs ys s => eX11_feud_24 kb s)
  exact row_B hA h0 qX11_feud_0 (And.intro trivial (And.intro trivial (And.intro (co_of mkX11_societyAt (iX11_societyAt hA)) (And.intro trivial (And.intro trivial (And.intro trivial (And.intro (co_of mkX11_societyAt (iX11_societyAt hA)) (ck_n rfl)))))))) rfl (fun xs ys s => eX11_feud_0 kb (xs.getD 0 0) (xs.getD 1 0) (xs.getD 2 0) (xs.getD 3 0) s)
theorem iX11_feud (hA : AOK) : Impl mdX11_feud gX11_feud := ent_B (kk := kX11_feud) (rr := rX11_feud) (f := fun kb => fun xs ys s => fX11_feud_0 kb (xs.getD 0 0) (xs.getD 1 0) (xs.getD 2 0) (xs.getD 3 0) s) (by decide +kernel) rfl (fun _ => rfl) (fun r kb => pX11_feud hA r kb) (fun kb => ⟨_, rfl⟩) 0 id (fun xs s => rfl) (fun xs => wkl_rf _)
-- Floatparade.isThemeRefused(II)Z
theorem mkX11_isThemeRefused : MK mdX11_isThemeRefused true := MKb_ok (h1 := 523) (h2 := 70) (h3 := 522) (h4 := 2) (by decide +kernel)
theorem qX11_isThemeRefused_0 : blkb mdX11_isThemeRefused 2 0 bX11_isThemeRefused_0 [[], []] = true := by decide +kernel
theorem qX11_isThemeRefused_2 : blkb mdX11_isThemeRefused 0 2 bX11_isThemeRefused_2 [[], [], [227], [], [], [], [227], [], [], [], [], [], [], [], [524], [], [], [421], [], [], [], []] = true := by decide +kernel
theorem qX11_isThemeRefused_44 : blkb mdX11_isThemeRefused 0 44 bX11_isThemeRefused_44 [[], []] = true := by decide +kernel
theorem qX11_isThemeRefused_50 : blkb mdX11_isThemeRefused 0 50 bX11_isThemeRefused_50 [[], []] = true := by decide +kernel
theorem pX11_isThemeRefused (hA : AOK) (r : Rt) (kb : Co) : RsB mdX11_isThemeRefused r kb (rX11_isThemeRefused kb) := by
  have h50 : RsB mdX11_isThemeRefused r kb (tX11_isThemeRefused_50 kb) := row_0
  have h44 : RsB mdX11_isThemeRefused r kb (tX11_isThemeRefused_44 kb) := row_B hA h50 qX11_isThemeRefused_50 (ck_n rfl) rfl (fun xs ys s => eX11_isThemeRefused_50 kb s)
  have h2 : RsB mdX11_isThemeRefused r kb (tX11_isThemeRefused_2 kb) := row_B hA h44 qX11_isThemeRefused_44 (ck_n rfl) rfl (fun xs ys s => eX11_isThemeRefused_44 kb (xs.getD 0 0) (xs.getD 1 0) (xs.getD 2 0) (xs.getD 3 0) s)
  have h0 : RsB mdX11_isThemeRefused r kb (tX11_isThemeRefused_0 kb) := row_B hA h2 qX11_isThemeRefused_2 (And.intro trivial (And.intro trivial (And.intro trivial (And.intro trivial (And.intro trivial (And.intro trivial (And.intro trivial (And.intro trivial (And.intro trivial (And.intro trivial (And.intro trivial (And.intro trivial (And.intro trivial (And.intro trivial (And.intro (co_of mkX6_isThemeLike (iX6_isThemeLike hA)) (ck_n rfl)))))))))))))))) rfl (fun xs ys s => eX11_isThemeRefused_2 kb (xs.getD 0 0) (xs.getD 1 0) (xs.getD 2 0) (xs.getD 3 0) s)
  exact row_B hA h0 qX11_isThemeRefused_0 (ck_n rfl) rfl (fun xs ys s => eX11_isThemeRefused_0 kb (xs.getD 0 0) (xs.getD 1 0) (xs.getD 2 0) s)
theorem iX11_isThemeRefused (hA : AOK) : Impl mdX11_isThemeRefused gX11_isThemeRefused := ent_B (kk := kX11_isThemeRefused) (rr := rX11_isThemeRefused) (f := fun kb => fun xs ys s => fX11_isThemeRefused_0 kb (xs.getD 0 0) (xs.getD 1 0) (xs.getD 2 0) s) (by decide +kernel) rfl (fun _ => rfl) (fun r kb => pX11_isThemeRefused hA r kb) (fun kb => ⟨_, rfl⟩) 9999 id (fun xs s => rfl) (fun xs => wkl_rf _)
-- Floatparade.takeThemesAway(I)I
theorem mkX11_takeThemesAway : MK mdX11_takeThemesAway true := MKb_ok (h1 := 537) (h2 := 70) (h3 := 536) (h4 := 3) (by decide +kernel)
theorem qX11_takeThemesAway_0 : blkb mdX11_takeThemesAway 4 0 bX11_takeThemesAway_0 [[], [], [], []] = true := by decide +kernel
theorem qX11_takeThemesAway_4 : blkb mdX11_takeThemesAway 44 4 bX11_takeThemesAway_4 [[], [], [227], [], [], [], [227], [], [], [], [], [], [], [], [524], [], [], [], [420], []] = true := by decide +kernel
theorem qX11_takeThemesAway_44 : blkb mdX11_takeThemesAway 0 44 bX11_takeThemesAway_44 [[], []] = true := by decide +kernel
theorem qX11_takeThemesAway_50 : blkb mdX11_takeThemesAway 0 50 bX11_takeThemesAway_50 [[], []] = true := by decide +kernel
theorem pX11_takeThemesAway (hA : AOK) (r : Rt) (kb : Co) : RsB mdX11_takeThemesAway r kb (rX11_takeThemesAway kb) := by
  have h50 : RsB mdX11_takeThemesAway r kb (tX11_takeThemesAway_50 kb) := row_0
  have h44 : RsB mdX11_takeThemesAway r kb (tX11_takeThemesAway_44 kb) := row_B hA h50 qX11_takeThemesAway_50 (ck_n rfl) rfl (fun xs ys s => eX11_takeThemesAway_50 kb (xs.getD 0 0) s)
  have h4 : RsB mdX11_takeThemesAway r kb (tX11_takeThemesAway_4 kb) := row_B hA h44 qX11_takeThemesAway_44 (ck_n rfl) rfl (fun xs ys s => eX11_takeThemesAway_44 kb (xs.getD 0 0) (xs.getD 1 0) (xs.getD 2 0) (xs.getD 3 0) s)
  have h0 : RsB mdX11_takeThemesAway r kb (tX11_takeThemesAway_0 kb) := row_B hA h4 qX11_takeThemesAway_4 (And.intro trivial (And.intro trivial (And.intro trivial (And.intro trivial (And.intro trivial (And.intro trivial (And.intro trivial (And.intro trivial (And.intro trivial (And.intro trivial (And.intro trivial (And.intro trivial (And.intro trivial (And.intro trivial (And.intro (co_of mkX6_isThemeLike (iX6_isThemeLike hA)) (ck_n rfl)))))))))))))))) rfl (fun xs ys s => eX11_takeThemesAway_4 kb (xs.getD 0 0) (xs.getD 1 0) (xs.getD 2 0) (xs.getD 3 0) s)
  exact row_B hA h0 qX11_takeThemesAway_0 (ck_n rfl) rfl (fun xs ys s => eX11_takeThemesAway_0 kb (xs.getD 0 0) (xs.getD 1 0) s)
theorem iX11_takeThemesAway (hA : AOK) : Impl mdX11_takeThemesAway gX11_takeThemesAway := ent_B (kk := kX11_takeThemesAway) (rr := rX11_takeThemesAway) (f := fun kb => fun xs ys s => fX11_takeThemesAway_0 kb (xs.getD 0 0) (xs.getD 1 0) s) (by decide +kernel) rfl (fun _ => rfl) (fun r kb => pX11_takeThemesAway hA r kb) (fun kb => ⟨_, rfl⟩) 9999 id (fun xs s => rfl) (fun xs => wkl_rf _)
-- Floatparade.theme(III)I
theorem mkX11_theme : MK mdX11_theme true := MKb_ok (h1 := 518) (h2 := 70) (h3 := 516) (h4 := 517) (by decide +kernel)
theorem qX11_theme_0 : blkb mdX11_theme 0 0 bX11_theme_0 [[], [], [483], [], [], [], [496]] = true := by decide +kernel
theorem qX11_theme_22 : blkb mdX11_theme 43 22 bX11_theme_22 [[], [], [], [265], [], [], [], [], [265], []] = true := by decide +kernel
theorem qX11_theme_43 : blkb mdX11_theme 0 43 bX11_theme_43 [[519]] = true := by decide +kernel
theorem qX11_theme_53 : blkb mdX11_theme 0 53 bX11_theme_53 [[], [], [420], [], [], [], [520], [], [], []] = true := by decide +kernel
theorem qX11_theme_70 : blkb mdX11_theme 0 70 bX11_theme_70 [[], [], [534], [], [], [], [420], [], [], [421], [], []] = true := by decide +kernel
theorem pX11_theme (hA : AOK) (r : Rt) (kb : Co) : RsB mdX11_theme r kb (rX11_theme kb) := by
  have h70 : RsB mdX11_theme r kb (tX11_theme_70 kb) := row_0
  have h53 : RsB mdX11_theme r kb (tX11_theme_53 kb) := row_B hA h70 qX11_theme_70 (And.intro trivial (And.intro trivial (And.intro (co_of mkX11_takeThemesAway (iX11_takeThemesAway hA)) (ck_n rfl)))) rfl (fun xs ys s => eX11_theme_70 kb (xs.getD 0 0) (xs.getD 1 0) (xs.getD 2 0) (xs.getD 3 0) s)
  have h43 : RsB mdX11_theme r kb (tX11_theme_43 kb) := row_B hA h53 qX11_theme_53 (And.intro trivial (And.intro trivial (And.intro trivial (And.intro trivial (And.intro trivial (And.intro trivial (And.intro (co_of mkX11_isThemeRefused (iX11_isThemeRefused hA)) (ck_n rfl)))))))) rfl (fun xs ys s => eX11_theme_53 kb (xs.getD 0 0) (xs.getD 1 0) (xs.getD 2 0) (xs.getD 3 0) s)
  have h22 : RsB mdX11_theme r kb (tX11_theme_22 kb) := row_B hA h43 qX11_theme_43 (ck_n rfl) rfl (fun xs ys s => eX11_theme_43 kb s)
  have h0 : RsB mdX11_theme r kb (tX11_theme_0 kb) := row_B hA h22 qX11_theme_22 (And.intro trivial (And.intro trivial (And.intro trivial (And.intro (co_of mkX11_isWithin (iX11_isWithin hA)) (And.intro trivial (And.intro trivial (And.intro trivial (And.intro trivial (And.intro (co_of mkX11_isWithin (iX11_isWithin hA)) (ck_n rfl)))))))))) rfl (fun xs ys s => eX11_theme_22 kb (xs.getD 0 0) (xs.getD 1 0) (xs.getD 2 0) (xs.getD 3 0) s)
  exact row_B hA h0 qX11_theme_0 (And.intro trivial (And.intro trivial (And.intro (co_of mkX11_societyAt (iX11_societyAt hA)) (ck_n rfl)))) rfl (fun xs ys s => eX11_theme_0 kb (xs.getD 0 0) (xs.getD 1 0) (xs.getD 2 0) (xs.getD 3 0) s)
theorem iX11_theme (hA : AOK) : Impl mdX11_theme gX11_theme := ent_B (kk := kX11_theme) (rr := rX11_theme) (f := fun kb => fun xs ys s => fX11_theme_0 kb (xs.getD 0 0) (xs.getD 1 0) (xs.getD 2 0) (xs.getD 3 0) s) (by decide +kernel) rfl (fun _ => rfl) (fun r kb => pX11_theme hA r kb) (fun kb => ⟨_, rfl⟩) 0 id (fun xs s => rfl) (fun xs => wkl_rf _)
-- Floatparade.song(I)I
theorem mkX11_song : MK mdX11_song true := MKb_ok (h1 := 544) (h2 := 70) (h3 := 542) (h4 := 543) (by decide +kernel)
theorem qX11_song_0 : blkb mdX11_song 0 0 bX11_song_0 [[], [], [483], [], [], [], [496]] = true := by decide +kernel
theorem qX11_song_20 : blkb mdX11_song 0 20 bX11_song_20 [[], [409], [545], [], [549]] = true := by decide +kernel
theorem qX11_song_40 : blkb mdX11_song 0 40 bX11_song_40 [[], [409], [550], []] = true := by decide +kernel
theorem pX11_song (hA : AOK) (r : Rt) (kb : Co) : RsB mdX11_song r kb (rX11_song kb) := by
  have h40 : RsB mdX11_song r kb (tX11_song_40 kb) := row_0
  have h20 : RsB mdX11_song r kb (tX11_song_20 kb) := row_B hA h40 qX11_song_40 (And.intro trivial (And.intro trivial (And.intro (co_of mkX7_add (iX7_add hA)) (ck_n rfl)))) rfl (fun xs ys s => eX11_song_40 kb (xs.getD 0 0) s)
  have h0 : RsB mdX11_song r kb (tX11_song_0 kb) := row_B hA h20 qX11_song_20 (And.intro trivial (And.intro trivial (And.intro (co_of mkX7_mayGrow (iX7_mayGrow hA)) (ck_n rfl)))) rfl (fun xs ys s => eX11_song_20 kb (xs.getD 0 0) s)
  exact row_B hA h0 qX11_song_0 (And.intro trivial (And.intro trivial (And.intro (co_of mkX11_societyAt (iX11_societyAt hA)) (ck_n rfl)))) rfl (fun xs ys s => eX11_song_0 kb (xs.getD 0 0) (xs.getD 1 0) s)
theorem iX11_song (hA : AOK) : Impl mdX11_song gX11_song := ent_B (kk := kX11_song) (rr := rX11_song) (f := fun kb => fun xs ys s => fX11_song_0 kb (xs.getD 0 0) (xs.getD 1 0) s) (by decide +kernel) rfl (fun _ => rfl) (fun r kb => pX11_song hA r kb) (fun kb => ⟨_, rfl⟩) 0 id (fun xs s => rfl) (fun xs => wkl_rf _)
-- Floatparade.vote(III)I
theorem mkX11_vote : MK mdX11_vote true := MKb_ok (h1 := 565) (h2 := 70) (h3 := 563) (h4 := 564) (by decide +kernel)
theorem qX11_vote_0 : blkb mdX11_vote 24 0 bX11_vote_0 [[], [], [483], [], [], [], [], [409], [], [566], []] = true := by decide +kernel
theorem qX11_vote_24 : blkb mdX11_vote 0 24 bX11_vote_24 [[567]] = true := by decide +kernel
theorem qX11_vote_34 : blkb mdX11_vote 0 34 bX11_vote_34 [[], [], [], [265], [], [568]] = true := by decide +kernel
theorem qX11_vote_54 : blkb mdX11_vote 78 54 bX11_vote_54 [[], [409], [], [569], [], [], [409], [573], [], []] = true := by decide +kernel
theorem qX11_vote_78 : blkb mdX11_vote 0 78 bX11_vote_78 [[582]] = true := by decide +kernel
theorem qX11_vote_88 : blkb mdX11_vote 0 88 bX11_vote_88 [[], [409], [], [], [583], []] = true := by decide +kernel
theorem pX11_vote (hA : AOK) (r : Rt) (kb : Co) : RsB mdX11_vote r kb (rX11_vote kb) := by
  have h88 : RsB mdX11_vote r kb (tX11_vote_88 kb) := row_0
  have h78 : RsB mdX11_vote r kb (tX11_vote_78 kb) := row_B hA h88 qX11_vote_88 (And.intro trivial (And.intro trivial (And.intro trivial (And.intro trivial (And.intro (co_of mkX7_addVotes (iX7_addVotes hA)) (ck_n rfl)))))) rfl (fun xs ys s => eX11_vote_88 kb (xs.getD 0 0) (xs.getD 1 0) (xs.getD 2 0) s)
  have h54 : RsB mdX11_vote r kb (tX11_vote_54 kb) := row_B hA h78 qX11_vote_78 (ck_n rfl) rfl (fun xs ys s => eX11_vote_78 kb s)
  have h34 : RsB mdX11_vote r kb (tX11_vote_34 kb) := row_B hA h54 qX11_vote_54 (And.intro trivial (And.intro trivial (And.intro trivial (And.intro (co_of mkX7_isStruck (iX7_isStruck hA)) (And.intro trivial (And.intro trivial (And.intro trivial (And.intro (co_of mkX7_chosen (iX7_chosen hA)) (ck_n rfl))))))))) rfl (fun xs ys s => eX11_vote_54 kb (xs.getD 0 0) (xs.getD 1 0) (xs.getD 2 0) s)
  have h24 : RsB mdX11_vote r kb (tX11_vote_24 kb) := row_B hA h34 qX11_vote_34 (And.intro trivial (And.intro trivial (And.intro trivial (And.intro (co_of mkX11_isWithin (iX11_isWithin hA)) (ck_n rfl))))) rfl (fun xs ys s => eX11_vote_34 kb (xs.getD 0 0) (xs.getD 1 0) (xs.getD 2 0) s)
  have h0 : RsB mdX11_vote r kb (tX11_vote_0 kb) := row_B hA h24 qX11_vote_24 (ck_n rfl) rfl (fun xs ys s => eX11_vote_24 kb s)
  exact row_B hA h0 qX11_vote_0 (And.intro trivial (And.intro trivial (And.intro (co_of mkX11_societyAt (iX11_societyAt hA)) (And.intro trivial (And.intro trivial (And.intro trivial (And.intro trivial (And.intro trivial (And.intro trivial (And.intro (co_of mkX7_has (iX7_has hA)) (ck_n rfl))))))))))) rfl (fun xs ys s => eX11_vote_0 kb (xs.getD 0 0) (xs.getD 1 0) (xs.getD 2 0) (xs.getD 3 0) s)
theorem iX11_vote (hA : AOK) : Impl mdX11_vote gX11_vote := ent_B (kk := kX11_vote) (rr := rX11_vote) (f := fun kb => fun xs ys s => fX11_vote_0 kb (xs.getD 0 0) (xs.getD 1 0) (xs.getD 2 0) (xs.getD 3 0) s) (by decide +kernel) rfl (fun _ => rfl) (fun r kb => pX11_vote hA r kb) (fun kb => ⟨_, rfl⟩) 0 id (fun xs s => rfl) (fun xs => wkl_rf _)
-- Floatparade.round(I)I
theorem mkX11_round : MK mdX11_round true := MKb_ok (h1 := 593) (h2 := 70) (h3 := 591) (h4 := 592) (by decide +kernel)
theorem qX11_round_0 : blkb mdX11_round 0 0 bX11_round_0 [[], [], [483], [], [], [], [496]] = true := by decide +kernel
theorem qX11_round_20 : blkb mdX11_round 0 20 bX11_round_20 [[], [409], [594], [], [], [595]] = true := by decide +kernel
theorem qX11_round_41 : blkb mdX11_round 0 41 bX11_round_41 [[], [409], [596], []] = true := by decide +kernel
theorem pX11_round (hA : AOK) (r : Rt) (kb : Co) : RsB mdX11_round r kb (rX11_round kb) := by
  have h41 : RsB mdX11_round r kb (tX11_round_41 kb) := row_0
  have h20 : RsB mdX11_round r kb (tX11_round_20 kb) := row_B hA h41 qX11_round_41 (And.intro trivial (And.intro trivial (And.intro (co_of mkX7_strikeWeakest (iX7_strikeWeakest hA)) (ck_n rfl)))) rfl (fun xs ys s => eX11_round_41 kb (xs.getD 0 0) s)
  have h0 : RsB mdX11_round r kb (tX11_round_0 kb) := row_B hA h20 qX11_round_20 (And.intro trivial (And.intro trivial (And.intro (co_of mkX7_left (iX7_left hA)) (ck_n rfl)))) rfl (fun xs ys s => eX11_round_20 kb (xs.getD 0 0) s)
  exact row_B hA h0 qX11_round_0 (And.intro trivial (And.intro trivial (And.intro (co_of mkX11_societyAt (iX11_societyAt hA)) (ck_n rfl)))) rfl (fun xs ys s => eX11_round_0 kb (xs.getD 0 0) (xs.getD 1 0) s)
theorem iX11_round (hA : AOK) : Impl mdX11_round gX11_round := ent_B (kk := kX11_round) (rr := rX11_round) (f := fun kb => fun xs ys s => fX11_round_0 kb (xs.getD 0 0) (xs.getD 1 0) s) (by decide +kernel) rfl (fun _ => rfl) (fun r kb => pX11_round hA r kb) (fun kb => ⟨_, rfl⟩) 0 id (fun xs s => rfl) (fun xs => wkl_rf _)
-- Floatparade.isCorner(I)Z
theorem mkX11_isCorner : MK mdX11_isCorner false := MKb_ok (h1 := 609) (h2 := 70) (h3 := 608) (h4 := 0) (by decide +kernel)
theorem qX11_isCorner_0 : blkb mdX11_isCorner 0 0 bX11_isCorner_0 [[], [], [], [265], []] = true := by decide +kernel
theorem pX11_isCorner (hA : AOK) (r : Rt) (kb : Co) : RsB mdX11_isCorner r kb (rX11_isCorner kb) := by
  have h0 : RsB mdX11_isCorner r kb (tX11_isCorner_0 kb) := row_0
  exact row_B hA h0 qX11_isCorner_0 (And.intro trivial (And.intro trivial (And.intro trivial (And.intro (co_of mkX11_isWithin (iX11_isWithin hA)) (ck_n rfl))))) rfl (fun xs ys s => eX11_isCorner_0 kb (xs.getD 0 0) s)
theorem iX11_isCorner (hA : AOK) : Impl mdX11_isCorner gX11_isCorner := ent_B (kk := kX11_isCorner) (rr := rX11_isCorner) (f := fun kb => fun xs ys s => fX11_isCorner_0 kb (xs.getD 0 0) s) (by decide +kernel) rfl (fun _ => rfl) (fun r kb => pX11_isCorner hA r kb) (fun kb => ⟨_, rfl⟩) 0 id (fun xs s => rfl) (fun xs => wkl_rf _)
-- Floatparade.street(IIIIII)I
theorem mkX11_street : MK mdX11_street true := MKb_ok (h1 := 606) (h2 := 70) (h3 := 604) (h4 := 605) (by decide +kernel)
theorem qX11_street_0 : blkb mdX11_street 14 0 bX11_street_0 [[], [607], [], [], [607], []] = true := by decide +kernel
theorem qX11_street_14 : blkb mdX11_street 0 14 bX11_street_14 [[610]] = true := by decide +kernel
theorem qX11_street_24 : blkb mdX11_street 72 24 bX11_street_24 [[], [], [], [], [], [], [265], [], [], [], [], [265], [], [], [], [], [265], [], [], [], [], [265], []] = true := by decide +kernel
theorem qX11_street_72 : blkb mdX11_street 0 72 bX11_street_72 [[611]] = true := by decide +kernel
theorem qX11_street_82 : blkb mdX11_street 104 82 bX11_street_82 [[], [229], [612], [], [], [229], [], [], [616], []] = true := by decide +kernel
theorem qX11_street_104 : blkb mdX11_street 0 104 bX11_street_104 [[624]] = true := by decide +kernel
theorem qX11_street_114 : blkb mdX11_street 0 114 bX11_street_114 [[], [229], [], [652], []] = true := by decide +kernel
theorem pX11_street (hA : AOK) (r : Rt) (kb : Co) : RsB mdX11_street r kb (rX11_street kb) := by
  have h114 : RsB mdX11_street r kb (tX11_street_114 kb) := row_0
  have h104 : RsB mdX11_street r kb (tX11_street_104 kb) := row_B hA h114 qX11_street_114 (And.intro trivial (And.intro trivial (And.intro trivial (And.intro (co_of mkX9_lay (iX9_lay hA)) (ck_n rfl))))) rfl (fun xs ys s => eX11_street_114 kb (xs.getD 0 0) (xs.getD 1 0) (xs.getD 2 0) (xs.getD 3 0) (xs.getD 4 0) (xs.getD 5 0) (xs.getD 6 0) s)
  have h82 : RsB mdX11_street r kb (tX11_street_82 kb) := row_B hA h104 qX11_street_104 (ck_n rfl) rfl (fun xs ys s => eX11_street_104 kb s)
  have h72 : RsB mdX11_street r kb (tX11_street_72 kb) := row_B hA h82 qX11_street_82 (And.intro trivial (And.intro trivial (And.intro (co_of mkX9_isFull (iX9_isFull hA)) (And.intro trivial (And.intro trivial (And.intro trivial (And.intro trivial (And.intro trivial (And.intro (co_of mkX9_between (iX9_between hA)) (ck_n rfl)))))))))) rfl (fun xs ys s => eX11_street_82 kb (xs.getD 0 0) (xs.getD 1 0) (xs.getD 2 0) (xs.getD 3 0) (xs.getD 4 0) (xs.getD 5 0) (xs.getD 6 0) s)
  have h24 : RsB mdX11_street r kb (tX11_street_24 kb) := row_B hA h72 qX11_street_72 (ck_n rfl) rfl (fun xs ys s => eX11_street_72 kb s)
  have h14 : RsB mdX11_street r kb (tX11_street_14 kb) := row_B hA h24 qX11_street_24 (And.intro trivial (And.intro trivial (And.intro trivial (And.intro trivial (And.intro trivial (And.intro trivial (And.intro (co_of mkX11_isWithin (iX11_isWithin hA)) (And.intro trivial (And.intro trivial (And.intro trivial (And.intro trivial (And.intro (co_of mkX11_isWithin (iX11_isWithin hA)) (And.intro trivial (And.intro trivial (And.intro trivial (And.intro trivial (And.intro (co_of mkX11_isWithin (iX11_isWithin hA)) (And.intro trivial (And.intro trivial (And.intro trivial (And.intro trivial (And.intro (co_of mkX11_isWithin (iX11_isWithin hA)) (ck_n rfl))))))))))))))))))))))) rfl (fun xs ys s => eX11_street_24 kb (xs.getD 0 0) (xs.getD 1 0) (xs.getD 2 0) (xs.getD 3 0) (xs.getD 4 0) (xs.getD 5 0) (xs.getD 6 0) s)
  have h0 : RsB mdX11_street r kb (tX11_street_0 kb) := row_B hA h14 qX11_street_14 (ck_n rfl) rfl (fun xs ys s => eX11_street_14 kb s)
  exact row_B hA h0 qX11_street_0 (And.intro trivial (And.intro (co_of mkX11_isCorner (iX11_isCorner hA)) (And.intro trivial (And.intro trivial (And.intro (co_of mkX11_isCorner (iX11_isCorner hA)) (ck_n rfl)))))) rfl (fun xs ys s => eX11_street_0 kb (xs.getD 0 0) (xs.getD 1 0) (xs.getD 2 0) (xs.getD 3 0) (xs.getD 4 0) (xs.getD 5 0) (xs.getD 6 0) s)
theorem iX11_street (hA : AOK) : Impl mdX11_street gX11_street := ent_B (kk := kX11_street) (rr := rX11_street) (f := fun kb => fun xs ys s => fX11_street_0 kb (xs.getD 0 0) (xs.getD 1 0) (xs.getD 2 0) (xs.getD 3 0) (xs.getD 4 0) (xs.getD 5 0) (xs.getD 6 0) s) (by decide +kernel) rfl (fun _ => rfl) (fun r kb => pX11_street hA r kb) (fun kb => ⟨_, rfl⟩) 0 id (fun xs s => rfl) (fun xs => wkl_rf _)
-- Floatparade.leagueAt(I)LFloatparade$League;
theorem mkX11_leagueAt : MK mdX11_leagueAt true := MKb_ok (h1 := 667) (h2 := 70) (h3 := 666) (h4 := 4) (by decide +kernel)
theorem qX11_leagueAt_0 : blkb mdX11_leagueAt 0 0 bX11_leagueAt_0 [[], [], [], [228], [], [], [], [265], [], [], [228], [], [], []] = true := by decide +kernel
theorem qX11_leagueAt_24 : blkb mdX11_leagueAt 25 24 bX11_leagueAt_24 [[]] = true := by decide +kernel
theorem qX11_leagueAt_25 : blkb mdX11_leagueAt 0 25 bX11_leagueAt_25 [[]] = true := by decide +kernel
theorem pX11_leagueAt (hA : AOK) (r : Rt) (kb : Co) : RsB mdX11_leagueAt r kb (rX11_leagueAt kb) := by
  have h25 : RsB mdX11_leagueAt r kb (tX11_leagueAt_25 kb) := row_0
  have h24 : RsB mdX11_leagueAt r kb (tX11_leagueAt_24 kb) := row_B hA h25 qX11_leagueAt_25 (ck_n rfl) rfl (fun xs ys s => eX11_leagueAt_25 kb (ys.getD 0 0) s)
  have h0 : RsB mdX11_leagueAt r kb (tX11_leagueAt_0 kb) := row_B hA h24 qX11_leagueAt_24 (ck_n rfl) rfl (fun xs ys s => eX11_leagueAt_24 kb s)
  exact row_B hA h0 qX11_leagueAt_0 (And.intro trivial (And.intro trivial (And.intro trivial (And.intro trivial (And.intro trivial (And.intro trivial (And.intro trivial (And.intro (co_of mkX11_isWithin (iX11_isWithin hA)) (ck_n rfl))))))))) rfl (fun xs ys s => eX11_leagueAt_0 kb (xs.getD 0 0) (xs.getD 1 0) s)
theorem iX11_leagueAt (hA : AOK) : Impl mdX11_leagueAt gX11_leagueAt := ent_B (kk := kX11_leagueAt) (rr := rX11_leagueAt) (f := fun kb => fun xs ys s => fX11_leagueAt_0 kb (xs.getD 0 0) (xs.getD 1 0) s) (by decide +kernel) rfl (fun _ => rfl) (fun r kb => pX11_leagueAt hA r kb) (fun kb => ⟨_, rfl⟩) 0 id (fun xs s => rfl) (fun xs => wkl_rf _)
-- Floatparade.route(II)V
theorem mkX11_route : MK mdX11_route true := MKb_ok (h1 := 663) (h2 := 70) (h3 := 661) (h4 := 662) (by decide +kernel)
theorem qX11_route_0 : blkb mdX11_route 0 0 bX11_route_0 [[], [607], [], [610]] = true := by decide +kernel
theorem qX11_route_17 : blkb mdX11_route 0 17 bX11_route_17 [[], [], [664], [], [], [], [668]] = true := by decide +kernel
theorem qX11_route_37 : blkb mdX11_route 0 37 bX11_route_37 [[], [669], [], [673]] = true := by decide +kernel
theorem qX11_route_54 : blkb mdX11_route 0 54 bX11_route_54 [[], [206], [], [674], []] = true := by decide +kernel
theorem pX11_route (hA : AOK) (r : Rt) (kb : Co) : RsB mdX11_route r kb (rX11_route kb) := by
  have h54 : RsB mdX11_route r kb (tX11_route_54 kb) := row_0
  have h37 : RsB mdX11_route r kb (tX11_route_37 kb) := row_B hA h54 qX11_route_54 (And.intro trivial (And.intro trivial (And.intro trivial (And.intro (co_of mkX3_startAt (iX3_startAt hA)) (ck_n rfl))))) rfl (fun xs ys s => eX11_route_54 kb (xs.getD 0 0) (xs.getD 1 0) s)
  have h17 : RsB mdX11_route r kb (tX11_route_17 kb) := row_B hA h37 qX11_route_37 (And.intro trivial (And.intro (co_of mkX0_isRouteFixed (iX0_isRouteFixed hA)) (ck_n rfl))) rfl (fun xs ys s => eX11_route_37 kb (xs.getD 0 0) (xs.getD 1 0) s)
  have h0 : RsB mdX11_route r kb (tX11_route_0 kb) := row_B hA h17 qX11_route_17 (And.intro trivial (And.intro trivial (And.intro (co_of mkX11_leagueAt (iX11_leagueAt hA)) (ck_n rfl)))) rfl (fun xs ys s => eX11_route_17 kb (xs.getD 0 0) (xs.getD 1 0) (xs.getD 2 0) s)
  exact row_B hA h0 qX11_route_0 (And.intro trivial (And.intro (co_of mkX11_isCorner (iX11_isCorner hA)) (ck_n rfl))) rfl (fun xs ys s => eX11_route_0 kb (xs.getD 0 0) (xs.getD 1 0) (xs.getD 2 0) s)
theorem iX11_route (hA : AOK) : Impl mdX11_route gX11_route := ent_B (kk := kX11_route) (rr := rX11_route) (f := fun kb => fun xs ys s => fX11_route_0 kb (xs.getD 0 0) (xs.getD 1 0) (xs.getD 2 0) s) (by decide +kernel) rfl (fun _ => rfl) (fun r kb => pX11_route hA r kb) (fun kb => ⟨_, rfl⟩) 0 id (fun xs s => rfl) (fun xs => wkl_rf _)
-- Floatparade.goOn(II)I
theorem mkX11_goOn : MK mdX11_goOn true := MKb_ok (h1 := 684) (h2 := 70) (h3 := 682) (h4 := 683) (by decide +kernel)
theorem qX11_goOn_0 : blkb mdX11_goOn 0 0 bX11_goOn_0 [[], [607], [], [610]] = true := by decide +kernel
theorem qX11_goOn_17 : blkb mdX11_goOn 0 17 bX11_goOn_17 [[], [], [664], [], [], [], [668]] = true := by decide +kernel
theorem qX11_goOn_37 : blkb mdX11_goOn 77 37 bX11_goOn_37 [[], [229], [], [206], [685], [], [616], [], [], [669], [], [], [206], [], [694], [], [], []] = true := by decide +kernel
theorem qX11_goOn_77 : blkb mdX11_goOn 0 77 bX11_goOn_77 [[702]] = true := by decide +kernel
theorem qX11_goOn_87 : blkb mdX11_goOn 0 87 bX11_goOn_87 [[], [206], [], [], [703], []] = true := by decide +kernel
theorem pX11_goOn (hA : AOK) (r : Rt) (kb : Co) : RsB mdX11_goOn r kb (rX11_goOn kb) := by
  have h87 : RsB mdX11_goOn r kb (tX11_goOn_87 kb) := row_0
  have h77 : RsB mdX11_goOn r kb (tX11_goOn_77 kb) := row_B hA h87 qX11_goOn_87 (And.intro trivial (And.intro trivial (And.intro trivial (And.intro trivial (And.intro (co_of mkX3_lead (iX3_lead hA)) (ck_n rfl)))))) rfl (fun xs ys s => eX11_goOn_87 kb (xs.getD 0 0) (xs.getD 1 0) (xs.getD 2 0) s)
  have h37 : RsB mdX11_goOn r kb (tX11_goOn_37 kb) := row_B hA h77 qX11_goOn_77 (ck_n rfl) rfl (fun xs ys s => eX11_goOn_77 kb s)
  have h17 : RsB mdX11_goOn r kb (tX11_goOn_17 kb) := row_B hA h37 qX11_goOn_37 (And.intro trivial (And.intro trivial (And.intro trivial (And.intro trivial (And.intro (co_of mkX3_lastCorner (iX3_lastCorner hA)) (And.intro trivial (And.intro (co_of mkX9_between (iX9_between hA)) (And.intro trivial (And.intro trivial (And.intro (co_of mkX0_isRouteFixed (iX0_isRouteFixed hA)) (And.intro trivial (And.intro trivial (And.intro trivial (And.intro trivial (And.intro (co_of mkX3_mayTake (iX3_mayTake hA)) (ck_n rfl)))))))))))))))) rfl (fun xs ys s => eX11_goOn_37 kb (xs.getD 0 0) (xs.getD 1 0) (xs.getD 2 0) s)
  have h0 : RsB mdX11_goOn r kb (tX11_goOn_0 kb) := row_B hA h17 qX11_goOn_17 (And.intro trivial (And.intro trivial (And.intro (co_of mkX11_leagueAt (iX11_leagueAt hA)) (ck_n rfl)))) rfl (fun xs ys s => eX11_goOn_17 kb (xs.getD 0 0) (xs.getD 1 0) (xs.getD 2 0) s)
  exact row_B hA h0 qX11_goOn_0 (And.intro trivial (And.intro (co_of mkX11_isCorner (iX11_isCorner hA)) (ck_n rfl))) rfl (fun xs ys s => eX11_goOn_0 kb (xs.getD 0 0) (xs.getD 1 0) (xs.getD 2 0) s)
theorem iX11_goOn (hA : AOK) : Impl mdX11_goOn gX11_goOn := ent_B (kk := kX11_goOn) (rr := rX11_goOn) (f := fun kb => fun xs ys s => fX11_goOn_0 kb (xs.getD 0 0) (xs.getD 1 0) (xs.getD 2 0) s) (by decide +kernel) rfl (fun _ => rfl) (fun r kb => pX11_goOn hA r kb) (fun kb => ⟨_, rfl⟩) 0 id (fun xs s => rfl) (fun xs => wkl_rf _)
-- Floatparade.jury(IZ)Z
theorem mkX11_jury : MK mdX11_jury true := MKb_ok (h1 := 721) (h2 := 70) (h3 := 719) (h4 := 720) (by decide +kernel)
theorem qX11_jury_0 : blkb mdX11_jury 0 0 bX11_jury_0 [[], [607], [], [610]] = true := by decide +kernel
theorem qX11_jury_17 : blkb mdX11_jury 0 17 bX11_jury_17 [[], [229], [], [], [722], []] = true := by decide +kernel
theorem pX11_jury (hA : AOK) (r : Rt) (kb : Co) : RsB mdX11_jury r kb (rX11_jury kb) := by
  have h17 : RsB mdX11_jury r kb (tX11_jury_17 kb) := row_0
  have h0 : RsB mdX11_jury r kb (tX11_jury_0 kb) := row_B hA h17 qX11_jury_17 (And.intro trivial (And.intro trivial (And.intro trivial (And.intro trivial (And.intro (co_of mkX9_setJury (iX9_setJury hA)) (ck_n rfl)))))) rfl (fun xs ys s => eX11_jury_17 kb (xs.getD 0 0) (xs.getD 1 0) (xs.getD 2 0) s)
  exact row_B hA h0 qX11_jury_0 (And.intro trivial (And.intro (co_of mkX11_isCorner (iX11_isCorner hA)) (ck_n rfl))) rfl (fun xs ys s => eX11_jury_0 kb (xs.getD 0 0) (xs.getD 1 0) (xs.getD 2 0) s)
theorem iX11_jury (hA : AOK) : Impl mdX11_jury gX11_jury := ent_B (kk := kX11_jury) (rr := rX11_jury) (f := fun kb => fun xs ys s => fX11_jury_0 kb (xs.getD 0 0) (xs.getD 1 0) (xs.getD 2 0) s) (by decide +kernel) rfl (fun _ => rfl) (fun r kb => pX11_jury hA r kb) (fun kb => ⟨_, rfl⟩) 0 id (fun xs s => rfl) (fun xs => wkl_rf _)
-- Floatparade.build(IIIII)I
theorem mkX11_build : MK mdX11_build true := MKb_ok (h1 := 736) (h2 := 70) (h3 := 734) (h4 := 735) (by decide +kernel)
theorem qX11_build_0 : blkb mdX11_build 0 0 bX11_build_0 [[], [], [483], [], [], [], [496]] = true := by decide +kernel
theorem qX11_build_22 : blkb mdX11_build 64 22 bX11_build_22 [[], [], [], [265], [], [], [], [], [265], [], [], [], [], [265], [], [], [], [], [265], []] = true := by decide +kernel
theorem qX11_build_64 : blkb mdX11_build 0 64 bX11_build_64 [[737]] = true := by decide +kernel
theorem qX11_build_74 : blkb mdX11_build 91 74 bX11_build_74 [[], [425], [], [], [], [441], []] = true := by decide +kernel
theorem qX11_build_91 : blkb mdX11_build 0 91 bX11_build_91 [[738]] = true := by decide +kernel
theorem qX11_build_101 : blkb mdX11_build 0 101 bX11_build_101 [[], [], [767], []] = true := by decide +kernel
theorem pX11_build (hA : AOK) (r : Rt) (kb : Co) : RsB mdX11_build r kb (rX11_build kb) := by
  have h101 : RsB mdX11_build r kb (tX11_build_101 kb) := row_0
  have h91 : RsB mdX11_build r kb (tX11_build_91 kb) := row_B hA h101 qX11_build_101 (And.intro trivial (And.intro trivial (And.intro (co_of mkX6_addWagon (iX6_addWagon hA)) (ck_n rfl)))) rfl (fun xs ys s => eX11_build_101 kb (xs.getD 0 0) (xs.getD 1 0) (xs.getD 2 0) (xs.getD 3 0) (xs.getD 4 0) s)
  have h74 : RsB mdX11_build r kb (tX11_build_74 kb) := row_B hA h91 qX11_build_91 (ck_n rfl) rfl (fun xs ys s => eX11_build_91 kb s)
  have h64 : RsB mdX11_build r kb (tX11_build_64 kb) := row_B hA h74 qX11_build_74 (ck_n rfl) rfl (fun xs ys s => eX11_build_74 kb (xs.getD 0 0) (xs.getD 1 0) (xs.getD 2 0) (xs.getD 3 0) (xs.getD 4 0) s)
  have h22 : RsB mdX11_build r kb (tX11_build_22 kb) := row_B hA h64 qX11_build_64 (ck_n rfl) rfl (fun xs ys s => eX11_build_64 kb s)
  have h0 : RsB mdX11_build r kb (tX11_build_0 kb) := row_B hA h22 qX11_build_22 (And.intro trivial (And.intro trivial (And.intro trivial (And.intro (co_of mkX11_isWithin (iX11_isWithin hA)) (And.intro trivial (And.intro trivial (And.intro trivial (And.intro trivial (And.intro (co_of mkX11_isWithin (iX11_isWithin hA)) (And.intro trivial (And.intro trivial (And.intro trivial (And.intro trivial (And.intro (co_of mkX11_isWithin (iX11_isWithin hA)) (And.intro trivial (And.intro trivial (And.intro trivial (And.intro trivial (And.intro (co_of mkX11_isWithin (iX11_isWithin hA)) (ck_n rfl)))))))))))))))))))) rfl (fun xs ys s => eX11_build_22 kb (xs.getD 0 0) (xs.getD 1 0) (xs.getD 2 0) (xs.getD 3 0) (xs.getD 4 0) s)
  exact row_B hA h0 qX11_build_0 (And.intro trivial (And.intro trivial (And.intro (co_of mkX11_societyAt (iX11_societyAt hA)) (ck_n rfl)))) rfl (fun xs ys s => eX11_build_0 kb (xs.getD 0 0) (xs.getD 1 0) (xs.getD 2 0) (xs.getD 3 0) (xs.getD 4 0) (xs.getD 5 0) s)
theorem iX11_build (hA : AOK) : Impl mdX11_build gX11_build := ent_B (kk := kX11_build) (rr := rX11_build) (f := fun kb => fun xs ys s => fX11_build_0 kb (xs.getD 0 0) (xs.getD 1 0) (xs.getD 2 0) (xs.getD 3 0) (xs.getD 4 0) (xs.getD 5 0) s) (by decide +kernel) rfl (fun _ => rfl) (fun r kb => pX11_build hA r kb) (fun kb => ⟨_, rfl⟩) 0 id (fun xs s => rfl) (fun xs => wkl_rf _)
-- Floatparade.cut(IIIIII)I
theorem mkX11_cut : MK mdX11_cut true := MKb_ok (h1 := 778) (h2 := 70) (h3 := 776) (h4 := 777) (by decide +kernel)
theorem qX11_cut_0 : blkb mdX11_cut 0 0 bX11_cut_0 [[], [], [483], [], [], [], [], []] = true := by decide +kernel
theorem qX11_cut_16 : blkb mdX11_cut 22 16 bX11_cut_16 [[], [], [779]] = true := by decide +kernel
theorem qX11_cut_22 : blkb mdX11_cut 34 22 bX11_cut_22 [[], [], [], [], []] = true := by decide +kernel
theorem qX11_cut_34 : blkb mdX11_cut 0 34 bX11_cut_34 [[783]] = true := by decide +kernel
theorem qX11_cut_44 : blkb mdX11_cut 99 44 bX11_cut_44 [[], [], [], [747], [265], [], [], [], [], [750], [265], [], [], [], [], [753], [265], [], [], [], [], [757], [265], []] = true := by decide +kernel
theorem qX11_cut_99 : blkb mdX11_cut 0 99 bX11_cut_99 [[737]] = true := by decide +kernel
theorem qX11_cut_109 : blkb mdX11_cut 0 109 bX11_cut_109 [[], [441], [], [784]] = true := by decide +kernel
theorem qX11_cut_127 : blkb mdX11_cut 0 127 bX11_cut_127 [[], [], [], [], [], [785], []] = true := by decide +kernel
theorem pX11_cut (hA : AOK) (r : Rt) (kb : Co) : RsB mdX11_cut r kb (rX11_cut kb) := by
  have h127 : RsB mdX11_cut r kb (tX11_cut_127 kb) := row_0
  have h109 : RsB mdX11_cut r kb (tX11_cut_109 kb) := row_B hA h127 qX11_cut_127 (And.intro trivial (And.intro trivial (And.intro trivial (And.intro trivial (And.intro trivial (And.intro (co_of mkX10_shrink (iX10_shrink hA)) (ck_n rfl))))))) rfl (fun xs ys s => eX11_cut_127 kb (xs.getD 0 0) (xs.getD 1 0) (xs.getD 2 0) (xs.getD 3 0) (xs.getD 4 0) s)
  have h99 : RsB mdX11_cut r kb (tX11_cut_99 kb) := row_B hA h109 qX11_cut_109 (ck_n rfl) rfl (fun xs ys s => eX11_cut_109 kb (xs.getD 0 0) (xs.getD 1 0) (xs.getD 2 0) (xs.getD 3 0) (xs.getD 4 0) (xs.getD 5 0) s)
  have h44 : RsB mdX11_cut r kb (tX11_cut_44 kb) := row_B hA h99 qX11_cut_99 (ck_n rfl) rfl (fun xs ys s => eX11_cut_99 kb s)
  have h34 : RsB mdX11_cut r kb (tX11_cut_34 kb) := row_B hA h44 qX11_cut_44 (And.intro trivial (And.intro trivial (And.intro trivial (And.intro trivial (And.intro (co_of mkX11_isWithin (iX11_isWithin hA)) (And.intro trivial (And.intro trivial (And.intro trivial (And.intro trivial (And.intro trivial (And.intro (co_of mkX11_isWithin (iX11_isWithin hA)) (And.intro trivial (And.intro trivial (And.intro trivial (And.intro trivial (And.intro trivial (And.intro (co_of mkX11_isWithin (iX11_isWithin hA)) (And.intro trivial (And.intro trivial (And.intro trivial (And.intro trivial (And.intro trivial (And.intro (co_of mkX11_isWithin (iX11_isWithin hA)) (ck_n rfl)))))))))))))))))))))))) rfl (fun xs ys s => eX11_cut_44 kb (xs.getD 0 0) (xs.getD 1 0) (xs.getD 2 0) (xs.getD 3 0) (xs.getD 4 0) (xs.getD 5 0) s)
  have h22 : RsB mdX11_cut r kb (tX11_cut_22 kb) := row_B hA h34 qX11_cut_34 (ck_n rfl) rfl (fun xs ys s => eX11_cut_34 kb s)
  have h16 : RsB mdX11_cut r kb (tX11_cut_16 kb) := row_B hA h22 qX11_cut_22 (ck_n rfl) rfl (fun xs ys s => eX11_cut_22 kb (xs.getD 0 0) (xs.getD 1 0) (xs.getD 2 0) (xs.getD 3 0) (xs.getD 4 0) (ys.getD 0 0) s)
  have h0 : RsB mdX11_cut r kb (tX11_cut_0 kb) := row_B hA h16 qX11_cut_16 (And.intro trivial (And.intro trivial (And.intro (co_of mkX6_wagonAt (iX6_wagonAt hA)) (ck_n rfl)))) rfl (fun xs ys s => eX11_cut_16 kb (xs.getD 0 0) (xs.getD 1 0) (xs.getD 2 0) (xs.getD 3 0) (xs.getD 4 0) (xs.getD 5 0) s)
  exact row_B hA h0 qX11_cut_0 (And.intro trivial (And.intro trivial (And.intro (co_of mkX11_societyAt (iX11_societyAt hA)) (ck_n rfl)))) rfl (fun xs ys s => eX11_cut_0 kb (xs.getD 0 0) (xs.getD 1 0) (xs.getD 2 0) (xs.getD 3 0) (xs.getD 4 0) (xs.getD 5 0) (xs.getD 6 0) s)
theorem iX11_cut (hA : AOK) : Impl mdX11_cut gX11_cut := ent_B (kk := kX11_cut) (rr := rX11_cut) (f := fun kb => fun xs ys s => fX11_cut_0 kb (xs.getD 0 0) (xs.getD 1 0) (xs.getD 2 0) (xs.getD 3 0) (xs.getD 4 0) (xs.getD 5 0) (xs.getD 6 0) s) (by decide +kernel) rfl (fun _ => rfl) (fun r kb => pX11_cut hA r kb) (fun kb => ⟨_, rfl⟩) 0 id (fun xs s => rfl) (fun xs => wkl_rf _)
-- Floatparade.fits(II)Z
theorem mkX11_fits : MK mdX11_fits true := MKb_ok (h1 := 799) (h2 := 70) (h3 := 797) (h4 := 798) (by decide +kernel)
theorem qX11_fits_0 : blkb mdX11_fits 0 0 bX11_fits_0 [[], [], [483], [], [], [], [], []] = true := by decide +kernel
theorem qX11_fits_14 : blkb mdX11_fits 19 14 bX11_fits_14 [[], [], [779]] = true := by decide +kernel
theorem qX11_fits_19 : blkb mdX11_fits 30 19 bX11_fits_19 [[], [], [], [], []] = true := by decide +kernel
theorem qX11_fits_30 : blkb mdX11_fits 0 30 bX11_fits_30 [[783]] = true := by decide +kernel
theorem qX11_fits_40 : blkb mdX11_fits 0 40 bX11_fits_40 [[], [], [415], [664], [], [], [], [], [206], [], [800], [], [], []] = true := by decide +kernel
theorem qX11_fits_72 : blkb mdX11_fits 73 72 bX11_fits_72 [[]] = true := by decide +kernel
theorem qX11_fits_73 : blkb mdX11_fits 0 73 bX11_fits_73 [[]] = true := by decide +kernel
theorem pX11_fits (hA : AOK) (r : Rt) (kb : Co) : RsB mdX11_fits r kb (rX11_fits kb) := by
  have h73 : RsB mdX11_fits r kb (tX11_fits_73 kb) := row_0
  have h72 : RsB mdX11_fits r kb (tX11_fits_72 kb) := row_B hA h73 qX11_fits_73 (ck_n rfl) rfl (fun xs ys s => eX11_fits_73 kb (ys.getD 0 0) s)
  have h40 : RsB mdX11_fits r kb (tX11_fits_40 kb) := row_B hA h72 qX11_fits_72 (ck_n rfl) rfl (fun xs ys s => eX11_fits_72 kb s)
  have h30 : RsB mdX11_fits r kb (tX11_fits_30 kb) := row_B hA h40 qX11_fits_40 (And.intro trivial (And.intro trivial (And.intro trivial (And.intro (co_of mkX11_leagueAt (iX11_leagueAt hA)) (And.intro trivial (And.intro trivial (And.intro trivial (And.intro trivial (And.intro trivial (And.intro trivial (And.intro (co_of mkX3_lets (iX3_lets hA)) (ck_n rfl)))))))))))) rfl (fun xs ys s => eX11_fits_40 kb (xs.getD 0 0) (xs.getD 1 0) (xs.getD 2 0) s)
  have h19 : RsB mdX11_fits r kb (tX11_fits_19 kb) := row_B hA h30 qX11_fits_30 (ck_n rfl) rfl (fun xs ys s => eX11_fits_30 kb s)
  have h14 : RsB mdX11_fits r kb (tX11_fits_14 kb) := row_B hA h19 qX11_fits_19 (ck_n rfl) rfl (fun xs ys s => eX11_fits_19 kb (xs.getD 0 0) (xs.getD 1 0) (ys.getD 0 0) s)
  have h0 : RsB mdX11_fits r kb (tX11_fits_0 kb) := row_B hA h14 qX11_fits_14 (And.intro trivial (And.intro trivial (And.intro (co_of mkX6_wagonAt (iX6_wagonAt hA)) (ck_n rfl)))) rfl (fun xs ys s => eX11_fits_14 kb (xs.getD 0 0) (xs.getD 1 0) (xs.getD 2 0) s)
  exact row_B hA h0 qX11_fits_0 (And.intro trivial (And.intro trivial (And.intro (co_of mkX11_societyAt (iX11_societyAt hA)) (ck_n rfl)))) rfl (fun xs ys s => eX11_fits_0 kb (xs.getD 0 0) (xs.getD 1 0) (xs.getD 2 0) s)
theorem iX11_fits (hA : AOK) : Impl mdX11_fits gX11_fits := ent_B (kk := kX11_fits) (rr := rX11_fits) (f := fun kb => fun xs ys s => fX11_fits_0 kb (xs.getD 0 0) (xs.getD 1 0) (xs.getD 2 0) s) (by decide +kernel) rfl (fun _ => rfl) (fun r kb => pX11_fits hA r kb) (fun kb => ⟨_, rfl⟩) 0 id (fun xs s => rfl) (fun xs => wkl_rf _)
-- Floatparade.enter(II)I
theorem mkX11_enter : MK mdX11_enter true := MKb_ok (h1 := 818) (h2 := 70) (h3 := 816) (h4 := 817) (by decide +kernel)
theorem qX11_enter_0 : blkb mdX11_enter 0 0 bX11_enter_0 [[], [], [483], [], [], [], [496]] = true := by decide +kernel
theorem qX11_enter_20 : blkb mdX11_enter 0 20 bX11_enter_20 [[], [], [], [265], [], [819]] = true := by decide +kernel
theorem qX11_enter_40 : blkb mdX11_enter 85 40 bX11_enter_40 [[], [], [415], [664], [], [], [], [], [441], [], [], [212], [183], [], [], [206], [], [820], []] = true := by decide +kernel
theorem qX11_enter_85 : blkb mdX11_enter 0 85 bX11_enter_85 [[826]] = true := by decide +kernel
theorem qX11_enter_96 : blkb mdX11_enter 0 96 bX11_enter_96 [[], [], [441], [], [], [429], [], [], [227], [], [232], [827], [], [208], [160], []] = true := by decide +kernel
theorem pX11_enter (hA : AOK) (r : Rt) (kb : Co) : RsB mdX11_enter r kb (rX11_enter kb) := by
  have h96 : RsB mdX11_enter r kb (tX11_enter_96 kb) := row_0
  have h85 : RsB mdX11_enter r kb (tX11_enter_85 kb) := row_B hA h96 qX11_enter_96 (And.intro trivial (And.intro trivial (And.intro trivial (And.intro trivial (And.intro trivial (And.intro trivial (And.intro trivial (And.intro trivial (And.intro trivial (And.intro trivial (And.intro trivial (And.intro (co_of mkX0_findOrder (iX0_findOrder hA)) (ck_n rfl))))))))))))) rfl (fun xs ys s => eX11_enter_96 kb (xs.getD 0 0) (xs.getD 1 0) (xs.getD 2 0) (xs.getD 3 0) s)
  have h40 : RsB mdX11_enter r kb (tX11_enter_40 kb) := row_B hA h85 qX11_enter_85 (ck_n rfl) rfl (fun xs ys s => eX11_enter_85 kb s)
  have h20 : RsB mdX11_enter r kb (tX11_enter_20 kb) := row_B hA h40 qX11_enter_40 (And.intro trivial (And.intro trivial (And.intro trivial (And.intro (co_of mkX11_leagueAt (iX11_leagueAt hA)) (And.intro trivial (And.intro trivial (And.intro trivial (And.intro trivial (And.intro trivial (And.intro trivial (And.intro trivial (And.intro trivial (And.intro trivial (And.intro trivial (And.intro trivial (And.intro trivial (And.intro trivial (And.intro (co_of mkX3_letsAll (iX3_letsAll hA)) (ck_n rfl))))))))))))))))))) rfl (fun xs ys s => eX11_enter_40 kb (xs.getD 0 0) (xs.getD 1 0) (xs.getD 2 0) s)
  have h0 : RsB mdX11_enter r kb (tX11_enter_0 kb) := row_B hA h20 qX11_enter_20 (And.intro trivial (And.intro trivial (And.intro trivial (And.intro (co_of mkX11_isWithin (iX11_isWithin hA)) (ck_n rfl))))) rfl (fun xs ys s => eX11_enter_20 kb (xs.getD 0 0) (xs.getD 1 0) (xs.getD 2 0) s)
  exact row_B hA h0 qX11_enter_0 (And.intro trivial (And.intro trivial (And.intro (co_of mkX11_societyAt (iX11_societyAt hA)) (ck_n rfl)))) rfl (fun xs ys s => eX11_enter_0 kb (xs.getD 0 0) (xs.getD 1 0) (xs.getD 2 0) s)
theorem iX11_enter (hA : AOK) : Impl mdX11_enter gX11_enter := ent_B (kk := kX11_enter) (rr := rX11_enter) (f := fun kb => fun xs ys s => fX11_enter_0 kb (xs.getD 0 0) (xs.getD 1 0) (xs.getD 2 0) s) (by decide +kernel) rfl (fun _ => rfl) (fun r kb => pX11_enter hA r kb) (fun kb => ⟨_, rfl⟩) 0 id (fun xs s => rfl) (fun xs => wkl_rf _)
-- Floatparade.change(II)Z
theorem mkX11_change : MK mdX11_change true := MKb_ok (h1 := 880) (h2 := 70) (h3 := 878) (h4 := 879) (by decide +kernel)
theorem qX11_change_0 : blkb mdX11_change 22 0 bX11_change_0 [[], [], [483], [], [], [], [483], [], [], [], [], []] = true := by decide +kernel
theorem qX11_change_22 : blkb mdX11_change 0 22 bX11_change_22 [[496]] = true := by decide +kernel
theorem qX11_change_32 : blkb mdX11_change 0 32 bX11_change_32 [[], [], [], [503]] = true := by decide +kernel
theorem qX11_change_47 : blkb mdX11_change 100 47 bX11_change_47 [[], [], [415], [664], [], [], [], [], [441], [], [], [441], [], [], [415], [], [415], [], [], [212], [183], []] = true := by decide +kernel
theorem qX11_change_100 : blkb mdX11_change 0 100 bX11_change_100 [[881]] = true := by decide +kernel
theorem qX11_change_111 : blkb mdX11_change 0 111 bX11_change_111 [[], [208], [], [], [882], []] = true := by decide +kernel
theorem pX11_change (hA : AOK) (r : Rt) (kb : Co) : RsB mdX11_change r kb (rX11_change kb) := by
  have h111 : RsB mdX11_change r kb (tX11_change_111 kb) := row_0
  have h100 : RsB mdX11_change r kb (tX11_change_100 kb) := row_B hA h111 qX11_change_111 (And.intro trivial (And.intro trivial (And.intro trivial (And.intro trivial (And.intro (co_of mkX4_changePlaces (iX4_changePlaces hA)) (ck_n rfl)))))) rfl (fun xs ys s => eX11_change_111 kb (xs.getD 0 0) (xs.getD 1 0) (xs.getD 2 0) s)
  have h47 : RsB mdX11_change r kb (tX11_change_47 kb) := row_B hA h100 qX11_change_100 (ck_n rfl) rfl (fun xs ys s => eX11_change_100 kb s)
  have h32 : RsB mdX11_change r kb (tX11_change_32 kb) := row_B hA h47 qX11_change_47 (And.intro trivial (And.intro trivial (And.intro trivial (And.intro (co_of mkX11_leagueAt (iX11_leagueAt hA)) (ck_n rfl))))) rfl (fun xs ys s => eX11_change_47 kb (xs.getD 0 0) (xs.getD 1 0) (xs.getD 2 0) s)
  have h22 : RsB mdX11_change r kb (tX11_change_22 kb) := row_B hA h32 qX11_change_32 (ck_n rfl) rfl (fun xs ys s => eX11_change_32 kb (xs.getD 0 0) (xs.getD 1 0) (xs.getD 2 0) (xs.getD 3 0) (xs.getD 4 0) s)
  have h0 : RsB mdX11_change r kb (tX11_change_0 kb) := row_B hA h22 qX11_change_22 (ck_n rfl) rfl (fun xs ys s => eX11_change_22 kb s)
  exact row_B hA h0 qX11_change_0 (And.intro trivial (And.intro trivial (And.intro (co_of mkX11_societyAt (iX11_societyAt hA)) (And.intro trivial (And.intro trivial (And.intro trivial (And.intro (co_of mkX11_societyAt (iX11_societyAt hA)) (ck_n rfl)))))))) rfl (fun xs ys s => eX11_change_0 kb (xs.getD 0 0) (xs.getD 1 0) (xs.getD 2 0) s)
theorem iX11_change (hA : AOK) : Impl mdX11_change gX11_change := ent_B (kk := kX11_change) (rr := rX11_change) (f := fun kb => fun xs ys s => fX11_change_0 kb (xs.getD 0 0) (xs.getD 1 0) (xs.getD 2 0) s) (by decide +kernel) rfl (fun _ => rfl) (fun r kb => pX11_change hA r kb) (fun kb => ⟨_, rfl⟩) 0 id (fun xs s => rfl) (fun xs => wkl_rf _)
-- Floatparade.order(II)I
theorem mkX11_order : MK mdX11_order true := MKb_ok (h1 := 902) (h2 := 70) (h3 := 900) (h4 := 901) (by decide +kernel)
theorem qX11_order_0 : blkb mdX11_order 0 0 bX11_order_0 [[], [], [903]] = true := by decide +kernel
theorem qX11_order_15 : blkb mdX11_order 0 15 bX11_order_15 [[], [], [664], [], [], [], [668]] = true := by decide +kernel
theorem qX11_order_35 : blkb mdX11_order 0 35 bX11_order_35 [[], [208], [], [904], []] = true := by decide +kernel
theorem pX11_order (hA : AOK) (r : Rt) (kb : Co) : RsB mdX11_order r kb (rX11_order kb) := by
  have h35 : RsB mdX11_order r kb (tX11_order_35 kb) := row_0
  have h15 : RsB mdX11_order r kb (tX11_order_15 kb) := row_B hA h35 qX11_order_35 (And.intro trivial (And.intro trivial (And.intro trivial (And.intro (co_of mkX4_numberAt (iX4_numberAt hA)) (ck_n rfl))))) rfl (fun xs ys s => eX11_order_35 kb (xs.getD 0 0) (xs.getD 1 0) s)
  have h0 : RsB mdX11_order r kb (tX11_order_0 kb) := row_B hA h15 qX11_order_15 (And.intro trivial (And.intro trivial (And.intro (co_of mkX11_leagueAt (iX11_leagueAt hA)) (ck_n rfl)))) rfl (fun xs ys s => eX11_order_15 kb (xs.getD 0 0) (xs.getD 1 0) (xs.getD 2 0) s)
  exact row_B hA h0 qX11_order_0 (ck_n rfl) rfl (fun xs ys s => eX11_order_0 kb (xs.getD 0 0) (xs.getD 1 0) (xs.getD 2 0) s)
theorem iX11_order (hA : AOK) : Impl mdX11_order gX11_order := ent_B (kk := kX11_order) (rr := rX11_order) (f := fun kb => fun xs ys s => fX11_order_0 kb (xs.getD 0 0) (xs.getD 1 0) (xs.getD 2 0) s) (by decide +kernel) rfl (fun _ => rfl) (fun r kb => pX11_order hA r kb) (fun kb => ⟨_, rfl⟩) 0 id (fun xs s => rfl) (fun xs => wkl_rf _)
-- Floatparade.begin(III)I
theorem mkX11_begin : MK mdX11_begin true := MKb_ok (h1 := 914) (h2 := 70) (h3 := 912) (h4 := 913) (by decide +kernel)
theorem qX11_begin_0 : blkb mdX11_begin 34 0 bX11_begin_0 [[], [], [664], [], [], [], [], [], [], [265], [], [], [], [], [265], []] = true := by decide +kernel
theorem qX11_begin_34 : blkb mdX11_begin 0 34 bX11_begin_34 [[915]] = true := by decide +kernel
theorem qX11_begin_45 : blkb mdX11_begin 67 45 bX11_begin_45 [[], [212], [183], [], [], [208], [160], []] = true := by decide +kernel
theorem qX11_begin_67 : blkb mdX11_begin 0 67 bX11_begin_67 [[916]] = true := by decide +kernel
theorem qX11_begin_78 : blkb mdX11_begin 0 78 bX11_begin_78 [[], [212], [], [208], [], [], [917], []] = true := by decide +kernel
theorem pX11_begin (hA : AOK) (r : Rt) (kb : Co) : RsB mdX11_begin r kb (rX11_begin kb) := by
  have h78 : RsB mdX11_begin r kb (tX11_begin_78 kb) := row_0
  have h67 : RsB mdX11_begin r kb (tX11_begin_67 kb) := row_B hA h78 qX11_begin_78 (And.intro trivial (And.intro trivial (And.intro trivial (And.intro trivial (And.intro trivial (And.intro trivial (And.intro (co_of mkX1_form (iX1_form hA)) (ck_n rfl)))))))) rfl (fun xs ys s => eX11_begin_78 kb (xs.getD 0 0) (xs.getD 1 0) (xs.getD 2 0) s)
  have h45 : RsB mdX11_begin r kb (tX11_begin_45 kb) := row_B hA h67 qX11_begin_67 (ck_n rfl) rfl (fun xs ys s => eX11_begin_67 kb s)
  have h34 : RsB mdX11_begin r kb (tX11_begin_34 kb) := row_B hA h45 qX11_begin_45 (ck_n rfl) rfl (fun xs ys s => eX11_begin_45 kb (xs.getD 0 0) (xs.getD 1 0) (xs.getD 2 0) s)
  have h0 : RsB mdX11_begin r kb (tX11_begin_0 kb) := row_B hA h34 qX11_begin_34 (ck_n rfl) rfl (fun xs ys s => eX11_begin_34 kb s)
  exact row_B hA h0 qX11_begin_0 (And.intro trivial (And.intro trivial (And.intro (co_of mkX11_leagueAt (iX11_leagueAt hA)) (And.intro trivial (And.intro trivial (And.intro trivial (And.intro trivial (And.intro trivial (And.intro trivial (And.intro (co_of mkX11_isWithin (iX11_isWithin hA)) (And.intro trivial (And.intro trivial (And.intro trivial (And.intro trivial (And.intro (co_of mkX11_isWithin (iX11_isWithin hA)) (ck_n rfl)))))))))))))))) rfl (fun xs ys s => eX11_begin_0 kb (xs.getD 0 0) (xs.getD 1 0) (xs.getD 2 0) (xs.getD 3 0) s)
theorem iX11_begin (hA : AOK) : Impl mdX11_begin gX11_begin := ent_B (kk := kX11_begin) (rr := rX11_begin) (f := fun kb => fun xs ys s => fX11_begin_0 kb (xs.getD 0 0) (xs.getD 1 0) (xs.getD 2 0) (xs.getD 3 0) s) (by decide +kernel) rfl (fun _ => rfl) (fun r kb => pX11_begin hA r kb) (fun kb => ⟨_, rfl⟩) 0 id (fun xs s => rfl) (fun xs => wkl_rf _)
-- Floatparade.stop(III)I
theorem mkX11_stop : MK mdX11_stop true := MKb_ok (h1 := 982) (h2 := 70) (h3 := 980) (h4 := 981) (by decide +kernel)
theorem qX11_stop_0 : blkb mdX11_stop 22 0 bX11_stop_0 [[], [], [664], [], [], [], [], [], [], [265], []] = true := by decide +kernel
theorem qX11_stop_22 : blkb mdX11_stop 0 22 bX11_stop_22 [[983]] = true := by decide +kernel
theorem qX11_stop_33 : blkb mdX11_stop 0 33 bX11_stop_33 [[], [212], [984], [], [988]] = true := by decide +kernel
theorem qX11_stop_55 : blkb mdX11_stop 87 55 bX11_stop_55 [[], [212], [], [989], [], [], [], [], [], [206], [993], [994], []] = true := by decide +kernel
theorem qX11_stop_87 : blkb mdX11_stop 0 87 bX11_stop_87 [[1002]] = true := by decide +kernel
theorem qX11_stop_98 : blkb mdX11_stop 0 98 bX11_stop_98 [[], [], [949], [], [], [949], [], [949], []] = true := by decide +kernel
theorem pX11_stop (hA : AOK) (r : Rt) (kb : Co) : RsB mdX11_stop r kb (rX11_stop kb) := by
  have h98 : RsB mdX11_stop r kb (tX11_stop_98 kb) := row_0
  have h87 : RsB mdX11_stop r kb (tX11_stop_87 kb) := row_B hA h98 qX11_stop_98 (ck_n rfl) rfl (fun xs ys s => eX11_stop_98 kb (xs.getD 0 0) (xs.getD 1 0) s)
  have h55 : RsB mdX11_stop r kb (tX11_stop_55 kb) := row_B hA h87 qX11_stop_87 (ck_n rfl) rfl (fun xs ys s => eX11_stop_87 kb s)
  have h33 : RsB mdX11_stop r kb (tX11_stop_33 kb) := row_B hA h55 qX11_stop_55 (And.intro trivial (And.intro trivial (And.intro trivial (And.intro (co_of mkX1_partAt (iX1_partAt hA)) (And.intro trivial (And.intro trivial (And.intro trivial (And.intro trivial (And.intro trivial (And.intro trivial (And.intro (co_of mkX3_cells (iX3_cells hA)) (And.intro (co_of mkX2_isOut (iX2_isOut hA)) (ck_n rfl))))))))))))) rfl (fun xs ys s => eX11_stop_55 kb (xs.getD 0 0) (xs.getD 1 0) (xs.getD 2 0) s)
  have h22 : RsB mdX11_stop r kb (tX11_stop_22 kb) := row_B hA h33 qX11_stop_33 (And.intro trivial (And.intro trivial (And.intro (co_of mkX1_goesOn (iX1_goesOn hA)) (ck_n rfl)))) rfl (fun xs ys s => eX11_stop_33 kb (xs.getD 0 0) (xs.getD 1 0) (xs.getD 2 0) s)
  have h0 : RsB mdX11_stop r kb (tX11_stop_0 kb) := row_B hA h22 qX11_stop_22 (ck_n rfl) rfl (fun xs ys s => eX11_stop_22 kb s)
  exact row_B hA h0 qX11_stop_0 (And.intro trivial (And.intro trivial (And.intro (co_of mkX11_leagueAt (iX11_leagueAt hA)) (And.intro trivial (And.intro trivial (And.intro trivial (And.intro trivial (And.intro trivial (And.intro trivial (And.intro (co_of mkX11_isWithin (iX11_isWithin hA)) (ck_n rfl))))))))))) rfl (fun xs ys s => eX11_stop_0 kb (xs.getD 0 0) (xs.getD 1 0) (xs.getD 2 0) (xs.getD 3 0) s)
theorem iX11_stop (hA : AOK) : Impl mdX11_stop gX11_stop := ent_B (kk := kX11_stop) (rr := rX11_stop) (f := fun kb => fun xs ys s => fX11_stop_0 kb (xs.getD 0 0) (xs.getD 1 0) (xs.getD 2 0) (xs.getD 3 0) s) (by decide +kernel) rfl (fun _ => rfl) (fun r kb => pX11_stop hA r kb) (fun kb => ⟨_, rfl⟩) 0 id (fun xs s => rfl) (fun xs => wkl_rf _)
-- Floatparade.rain(Z)Z
theorem mkX11_rain : MK mdX11_rain true := MKb_ok (h1 := 252) (h2 := 70) (h3 := 250) (h4 := 251) (by decide +kernel)
theorem qX11_rain_0 : blkb mdX11_rain 0 0 bX11_rain_0 [[], [233], [], [], [], [233], [], []] = true := by decide +kernel
theorem pX11_rain (hA : AOK) (r : Rt) (kb : Co) : RsB mdX11_rain r kb (rX11_rain kb) := by
  have h0 : RsB mdX11_rain r kb (tX11_rain_0 kb) := row_0
  exact row_B hA h0 qX11_rain_0 (ck_n rfl) rfl (fun xs ys s => eX11_rain_0 kb (xs.getD 0 0) (xs.getD 1 0) s)
theorem iX11_rain (hA : AOK) : Impl mdX11_rain gX11_rain := ent_B (kk := kX11_rain) (rr := rX11_rain) (f := fun kb => fun xs ys s => fX11_rain_0 kb (xs.getD 0 0) (xs.getD 1 0) s) (by decide +kernel) rfl (fun _ => rfl) (fun r kb => pX11_rain hA r kb) (fun kb => ⟨_, rfl⟩) 0 id (fun xs s => rfl) (fun xs => wkl_rf _)
-- Floatparade.ambulance(I)I
theorem mkX11_ambulance : MK mdX11_ambulance true := MKb_ok (h1 := 1009) (h2 := 70) (h3 := 1007) (h4 := 1008) (by decide +kernel)
theorem qX11_ambulance_0 : blkb mdX11_ambulance 0 0 bX11_ambulance_0 [[], [607], [], [610]] = true := by decide +kernel
theorem qX11_ambulance_17 : blkb mdX11_ambulance 21 17 bX11_ambulance_17 [[], [], [], []] = true := by decide +kernel
theorem qX11_ambulance_21 : blkb mdX11_ambulance 83 21 bX11_ambulance_21 [[], [], [228], [], [], [], [228], [], [], [], [], [], [], [212], [984], [], [], [212], [], [1010], [], [], [212], [], [206], [], [1014], [1022], [], []] = true := by decide +kernel
theorem qX11_ambulance_83 : blkb mdX11_ambulance 0 83 bX11_ambulance_83 [[], []] = true := by decide +kernel
theorem qX11_ambulance_89 : blkb mdX11_ambulance 0 89 bX11_ambulance_89 [[], []] = true := by decide +kernel
theorem pX11_ambulance (hA : AOK) (r : Rt) (kb : Co) : RsB mdX11_ambulance r kb (rX11_ambulance kb) := by
  have h89 : RsB mdX11_ambulance r kb (tX11_ambulance_89 kb) := row_0
  have h83 : RsB mdX11_ambulance r kb (tX11_ambulance_83 kb) := row_B hA h89 qX11_ambulance_89 (ck_n rfl) rfl (fun xs ys s => eX11_ambulance_89 kb (xs.getD 0 0) s)
  have h21 : RsB mdX11_ambulance r kb (tX11_ambulance_21 kb) := row_B hA h83 qX11_ambulance_83 (ck_n rfl) rfl (fun xs ys s => eX11_ambulance_83 kb (xs.getD 0 0) (xs.getD 1 0) (xs.getD 2 0) (xs.getD 3 0) s)
  have h17 : RsB mdX11_ambulance r kb (tX11_ambulance_17 kb) := row_B hA h21 qX11_ambulance_21 (And.intro trivial (And.intro trivial (And.intro trivial (And.intro trivial (And.intro trivial (And.intro trivial (And.intro trivial (And.intro trivial (And.intro trivial (And.intro trivial (And.intro trivial (And.intro trivial (And.intro trivial (And.intro trivial (And.intro (co_of mkX1_goesOn (iX1_goesOn hA)) (And.intro trivial (And.intro trivial (And.intro trivial (And.intro trivial (And.intro (co_of mkX1_hold (iX1_hold hA)) (And.intro trivial (And.intro trivial (And.intro trivial (And.intro trivial (And.intro trivial (And.intro trivial (And.intro (co_of mkX3_cellOf (iX3_cellOf hA)) (And.intro (co_of mkX1_partsOn (iX1_partsOn hA)) (ck_n rfl))))))))))))))))))))))))))))) rfl (fun xs ys s => eX11_ambulance_21 kb (xs.getD 0 0) (xs.getD 1 0) (xs.getD 2 0) (xs.getD 3 0) s)
  have h0 : RsB mdX11_ambulance r kb (tX11_ambulance_0 kb) := row_B hA h17 qX11_ambulance_17 (ck_n rfl) rfl (fun xs ys s => eX11_ambulance_17 kb (xs.getD 0 0) (xs.getD 1 0) s)
  exact row_B hA h0 qX11_ambulance_0 (And.intro trivial (And.intro (co_of mkX11_isCorner (iX11_isCorner hA)) (ck_n rfl))) rfl (fun xs ys s => eX11_ambulance_0 kb (xs.getD 0 0) (xs.getD 1 0) s)
theorem iX11_ambulance (hA : AOK) : Impl mdX11_ambulance gX11_ambulance := ent_B (kk := kX11_ambulance) (rr := rX11_ambulance) (f := fun kb => fun xs ys s => fX11_ambulance_0 kb (xs.getD 0 0) (xs.getD 1 0) s) (by decide +kernel) rfl (fun _ => rfl) (fun r kb => pX11_ambulance hA r kb) (fun kb => ⟨_, rfl⟩) 9999 id (fun xs s => rfl) (fun xs => wkl_rf _)
-- Floatparade.march(II)I
theorem mkX11_march : MK mdX11_march true := MKb_ok (h1 := 1034) (h2 := 70) (h3 := 1032) (h4 := 1033) (by decide +kernel)
theorem qX11_march_0 : blkb mdX11_march 20 0 bX11_march_0 [[], [], [664], [], [], [], [], [], [], [265], []] = true := by decide +kernel
theorem qX11_march_20 : blkb mdX11_march 0 20 bX11_march_20 [[983]] = true := by decide +kernel
theorem qX11_march_31 : blkb mdX11_march 0 31 bX11_march_31 [[], [212], [984], [], [988]] = true := by decide +kernel
theorem qX11_march_52 : blkb mdX11_march 55 52 bX11_march_52 [[], []] = true := by decide +kernel
theorem qX11_march_55 : blkb mdX11_march 0 55 bX11_march_55 [[], [], [], [], [212], [984], [], [], [212], [], [206], [], [229], [], [233], [1035], [], []] = true := by decide +kernel
theorem qX11_march_96 : blkb mdX11_march 0 96 bX11_march_96 [[], [212], [178], []] = true := by decide +kernel
theorem pX11_march (hA : AOK) (r : Rt) (kb : Co) : RsB mdX11_march r kb (rX11_march kb) := by
  have h96 : RsB mdX11_march r kb (tX11_march_96 kb) := row_0
  have h55 : RsB mdX11_march r kb (tX11_march_55 kb) := row_B hA h96 qX11_march_96 (ck_n rfl) rfl (fun xs ys s => eX11_march_96 kb (xs.getD 0 0) s)
  have h52 : RsB mdX11_march r kb (tX11_march_52 kb) := row_B hA h55 qX11_march_55 (And.intro trivial (And.intro trivial (And.intro trivial (And.intro trivial (And.intro trivial (And.intro (co_of mkX1_goesOn (iX1_goesOn hA)) (And.intro trivial (And.intro trivial (And.intro trivial (And.intro trivial (And.intro trivial (And.intro trivial (And.intro trivial (And.intro trivial (And.intro trivial (And.intro (co_of mkX1_passMinute (iX1_passMinute hA)) (ck_n rfl))))))))))))))))) rfl (fun xs ys s => eX11_march_55 kb (xs.getD 0 0) (xs.getD 1 0) (xs.getD 2 0) (xs.getD 3 0) s)
  have h31 : RsB mdX11_march r kb (tX11_march_31 kb) := row_B hA h52 qX11_march_52 (ck_n rfl) rfl (fun xs ys s => eX11_march_52 kb (xs.getD 0 0) (xs.getD 1 0) (xs.getD 2 0) s)
  have h20 : RsB mdX11_march r kb (tX11_march_20 kb) := row_B hA h31 qX11_march_31 (And.intro trivial (And.intro trivial (And.intro (co_of mkX1_goesOn (iX1_goesOn hA)) (ck_n rfl)))) rfl (fun xs ys s => eX11_march_31 kb (xs.getD 0 0) (xs.getD 1 0) (xs.getD 2 0) s)
  have h0 : RsB mdX11_march r kb (tX11_march_0 kb) := row_B hA h20 qX11_march_20 (ck_n rfl) rfl (fun xs ys s => eX11_march_20 kb s)
  exact row_B hA h0 qX11_march_0 (And.intro trivial (And.intro trivial (And.intro (co_of mkX11_leagueAt (iX11_leagueAt hA)) (And.intro trivial (And.intro trivial (And.intro trivial (And.intro trivial (And.intro trivial (And.intro trivial (And.intro (co_of mkX11_isWithin (iX11_isWithin hA)) (ck_n rfl))))))))))) rfl (fun xs ys s => eX11_march_0 kb (xs.getD 0 0) (xs.getD 1 0) (xs.getD 2 0) s)
theorem iX11_march (hA : AOK) : Impl mdX11_march gX11_march := ent_B (kk := kX11_march) (rr := rX11_march) (f := fun kb => fun xs ys s => fX11_march_0 kb (xs.getD 0 0) (xs.getD 1 0) (xs.getD 2 0) s) (by decide +kernel) rfl (fun _ => rfl) (fun r kb => pX11_march hA r kb) (fun kb => ⟨_, rfl⟩) 9999 id (fun xs s => rfl) (fun xs => wkl_rf _)
-- Floatparade.part(III)I
theorem mkX11_part : MK mdX11_part true := MKb_ok (h1 := 1115) (h2 := 70) (h3 := 1113) (h4 := 1114) (by decide +kernel)
theorem qX11_part_0 : blkb mdX11_part 21 0 bX11_part_0 [[], [], [664], [], [], [], [], [], [], [265], []] = true := by decide +kernel
theorem qX11_part_21 : blkb mdX11_part 0 21 bX11_part_21 [[1116]] = true := by decide +kernel
theorem qX11_part_32 : blkb mdX11_part 0 32 bX11_part_32 [[], [212], [183], [], [1117]] = true := by decide +kernel
theorem qX11_part_54 : blkb mdX11_part 0 54 bX11_part_54 [[], [212], [], [989], [], [], [], [1118]] = true := by decide +kernel
theorem qX11_part_81 : blkb mdX11_part 0 81 bX11_part_81 [[], [], [], [206], [993], [1119], []] = true := by decide +kernel
theorem pX11_part (hA : AOK) (r : Rt) (kb : Co) : RsB mdX11_part r kb (rX11_part kb) := by
  have h81 : RsB mdX11_part r kb (tX11_part_81 kb) := row_0
  have h54 : RsB mdX11_part r kb (tX11_part_54 kb) := row_B hA h81 qX11_part_81 (And.intro trivial (And.intro trivial (And.intro trivial (And.intro trivial (And.intro (co_of mkX3_cells (iX3_cells hA)) (And.intro (co_of mkX2_tell (iX2_tell hA)) (ck_n rfl))))))) rfl (fun xs ys s => eX11_part_81 kb (xs.getD 0 0) (xs.getD 1 0) (xs.getD 2 0) s)
  have h32 : RsB mdX11_part r kb (tX11_part_32 kb) := row_B hA h54 qX11_part_54 (And.intro trivial (And.intro trivial (And.intro trivial (And.intro (co_of mkX1_partAt (iX1_partAt hA)) (ck_n rfl))))) rfl (fun xs ys s => eX11_part_54 kb (xs.getD 0 0) (xs.getD 1 0) (xs.getD 2 0) s)
  have h21 : RsB mdX11_part r kb (tX11_part_21 kb) := row_B hA h32 qX11_part_32 (ck_n rfl) rfl (fun xs ys s => eX11_part_32 kb (xs.getD 0 0) (xs.getD 1 0) (xs.getD 2 0) s)
  have h0 : RsB mdX11_part r kb (tX11_part_0 kb) := row_B hA h21 qX11_part_21 (ck_n rfl) rfl (fun xs ys s => eX11_part_21 kb s)
  exact row_B hA h0 qX11_part_0 (And.intro trivial (And.intro trivial (And.intro (co_of mkX11_leagueAt (iX11_leagueAt hA)) (And.intro trivial (And.intro trivial (And.intro trivial (And.intro trivial (And.intro trivial (And.intro trivial (And.intro (co_of mkX11_isWithin (iX11_isWithin hA)) (ck_n rfl))))))))))) rfl (fun xs ys s => eX11_part_0 kb (xs.getD 0 0) (xs.getD 1 0) (xs.getD 2 0) (xs.getD 3 0) s)
theorem iX11_part (hA : AOK) : Impl mdX11_part gX11_part := ent_B (kk := kX11_part) (rr := rX11_part) (f := fun kb => fun xs ys s => fX11_part_0 kb (xs.getD 0 0) (xs.getD 1 0) (xs.getD 2 0) (xs.getD 3 0) s) (by decide +kernel) rfl (fun _ => rfl) (fun r kb => pX11_part hA r kb) (fun kb => ⟨_, rfl⟩) 0 id (fun xs s => rfl) (fun xs => wkl_rf _)
-- Floatparade.clock(II)I
theorem mkX11_clock : MK mdX11_clock true := MKb_ok (h1 := 1130) (h2 := 70) (h3 := 1128) (h4 := 1129) (by decide +kernel)
theorem qX11_clock_0 : blkb mdX11_clock 0 0 bX11_clock_0 [[], [], [483], [], [], [], [496]] = true := by decide +kernel
theorem qX11_clock_20 : blkb mdX11_clock 0 20 bX11_clock_20 [[], [], [], [265], [], [1131]] = true := by decide +kernel
theorem qX11_clock_40 : blkb mdX11_clock 0 40 bX11_clock_40 [[], []] = true := by decide +kernel
theorem qX11_clock_68 : blkb mdX11_clock 0 68 bX11_clock_68 [[], [432], []] = true := by decide +kernel
theorem qX11_clock_73 : blkb mdX11_clock 0 73 bX11_clock_73 [[], [435], []] = true := by decide +kernel
theorem qX11_clock_78 : blkb mdX11_clock 0 78 bX11_clock_78 [[], [438], []] = true := by decide +kernel
theorem qX11_clock_83 : blkb mdX11_clock 0 83 bX11_clock_83 [[], [1132], []] = true := by decide +kernel
theorem pX11_clock (hA : AOK) (r : Rt) (kb : Co) : RsB mdX11_clock r kb (rX11_clock kb) := by
  have h83 : RsB mdX11_clock r kb (tX11_clock_83 kb) := row_0
  have h78 : RsB mdX11_clock r kb (tX11_clock_78 kb) := row_B hA h83 qX11_clock_83 (And.intro trivial (And.intro (co_of mkX6_time (iX6_time hA)) (ck_n rfl))) rfl (fun xs ys s => eX11_clock_83 kb (xs.getD 0 0) s)
  have h73 : RsB mdX11_clock r kb (tX11_clock_73 kb) := row_B hA h78 qX11_clock_78 (ck_n rfl) rfl (fun xs ys s => eX11_clock_78 kb (xs.getD 0 0) s)
  have h68 : RsB mdX11_clock r kb (tX11_clock_68 kb) := row_B hA h73 qX11_clock_73 (ck_n rfl) rfl (fun xs ys s => eX11_clock_73 kb (xs.getD 0 0) s)
  have h40 : RsB mdX11_clock r kb (tX11_clock_40 kb) := row_B hA h68 qX11_clock_68 (ck_n rfl) rfl (fun xs ys s => eX11_clock_68 kb (xs.getD 0 0) s)
  have h20 : RsB mdX11_clock r kb (tX11_clock_20 kb) := row_B hA h40 qX11_clock_40 (ck_n rfl) rfl (fun xs ys s => eX11_clock_40 kb (xs.getD 0 0) (xs.getD 1 0) s)
  have h0 : RsB mdX11_clock r kb (tX11_clock_0 kb) := row_B hA h20 qX11_clock_20 (And.intro trivial (And.intro trivial (And.intro trivial (And.intro (co_of mkX11_isWithin (iX11_isWithin hA)) (ck_n rfl))))) rfl (fun xs ys s => eX11_clock_20 kb (xs.getD 0 0) (xs.getD 1 0) s)
  exact row_B hA h0 qX11_clock_0 (And.intro trivial (And.intro trivial (And.intro (co_of mkX11_societyAt (iX11_societyAt hA)) (ck_n rfl)))) rfl (fun xs ys s => eX11_clock_0 kb (xs.getD 0 0) (xs.getD 1 0) (xs.getD 2 0) s)
theorem iX11_clock (hA : AOK) : Impl mdX11_clock gX11_clock := ent_B (kk := kX11_clock) (rr := rX11_clock) (f := fun kb => fun xs ys s => fX11_clock_0 kb (xs.getD 0 0) (xs.getD 1 0) (xs.getD 2 0) s) (by decide +kernel) rfl (fun _ => rfl) (fun r kb => pX11_clock hA r kb) (fun kb => ⟨_, rfl⟩) 0 id (fun xs s => rfl) (fun xs => wkl_rf _)
-- Floatparade.isJudge(I)Z
theorem mkX11_isJudge : MK mdX11_isJudge false := MKb_ok (h1 := 1142) (h2 := 70) (h3 := 1141) (h4 := 0) (by decide +kernel)
theorem qX11_isJudge_0 : blkb mdX11_isJudge 0 0 bX11_isJudge_0 [[], [], [], [265], []] = true := by decide +kernel
theorem pX11_isJudge (hA : AOK) (r : Rt) (kb : Co) : RsB mdX11_isJudge r kb (rX11_isJudge kb) := by
  have h0 : RsB mdX11_isJudge r kb (tX11_isJudge_0 kb) := row_0
  exact row_B hA h0 qX11_isJudge_0 (And.intro trivial (And.intro trivial (And.intro trivial (And.intro (co_of mkX11_isWithin (iX11_isWithin hA)) (ck_n rfl))))) rfl (fun xs ys s => eX11_isJudge_0 kb (xs.getD 0 0) s)
theorem iX11_isJudge (hA : AOK) : Impl mdX11_isJudge gX11_isJudge := ent_B (kk := kX11_isJudge) (rr := rX11_isJudge) (f := fun kb => fun xs ys s => fX11_isJudge_0 kb (xs.getD 0 0) s) (by decide +kernel) rfl (fun _ => rfl) (fun r kb => pX11_isJudge hA r kb) (fun kb => ⟨_, rfl⟩) 0 id (fun xs s => rfl) (fun xs => wkl_rf _)
-- Floatparade.isCategory(I)Z
theorem mkX11_isCategory : MK mdX11_isCategory false := MKb_ok (h1 := 1145) (h2 := 70) (h3 := 1144) (h4 := 0) (by decide +kernel)
theorem qX11_isCategory_0 : blkb mdX11_isCategory 0 0 bX11_isCategory_0 [[], [], [], [265], []] = true := by decide +kernel
theorem pX11_isCategory (hA : AOK) (r : Rt) (kb : Co) : RsB mdX11_isCategory r kb (rX11_isCategory kb) := by
  have h0 : RsB mdX11_isCategory r kb (tX11_isCategory_0 kb) := row_0
  exact row_B hA h0 qX11_isCategory_0 (And.intro trivial (And.intro trivial (And.intro trivial (And.intro (co_of mkX11_isWithin (iX11_isWithin hA)) (ck_n rfl))))) rfl (fun xs ys s => eX11_isCategory_0 kb (xs.getD 0 0) s)
theorem iX11_isCategory (hA : AOK) : Impl mdX11_isCategory gX11_isCategory := ent_B (kk := kX11_isCategory) (rr := rX11_isCategory) (f := fun kb => fun xs ys s => fX11_isCategory_0 kb (xs.getD 0 0) s) (by decide +kernel) rfl (fun _ => rfl) (fun r kb => pX11_isCategory hA r kb) (fun kb => ⟨_, rfl⟩) 0 id (fun xs s => rfl) (fun xs => wkl_rf _)
-- Floatparade.hasMarched(LFloatparade$Society;)Z
theorem mkX11_hasMarched : MK mdX11_hasMarched true := MKb_ok (h1 := 1150) (h2 := 70) (h3 := 1149) (h4 := 24) (by decide +kernel)
theorem qX11_hasMarched_0 : blkb mdX11_hasMarched 0 0 bX11_hasMarched_0 [[], [], [415], [664], [], [], [], [], [212], [185], [], [], [441], [], [], []] = true := by decide +kernel
theorem qX11_hasMarched_34 : blkb mdX11_hasMarched 35 34 bX11_hasMarched_34 [[]] = true := by decide +kernel
theorem qX11_hasMarched_35 : blkb mdX11_hasMarched 0 35 bX11_hasMarched_35 [[]] = true := by decide +kernel
theorem pX11_hasMarched (hA : AOK) (r : Rt) (kb : Co) : RsB mdX11_hasMarched r kb (rX11_hasMarched kb) := by
  have h35 : RsB mdX11_hasMarched r kb (tX11_hasMarched_35 kb) := row_0
  have h34 : RsB mdX11_hasMarched r kb (tX11_hasMarched_34 kb) := row_B hA h35 qX11_hasMarched_35 (ck_n rfl) rfl (fun xs ys s => eX11_hasMarched_35 kb (ys.getD 0 0) s)
  have h0 : RsB mdX11_hasMarched r kb (tX11_hasMarched_0 kb) := row_B hA h34 qX11_hasMarched_34 (ck_n rfl) rfl (fun xs ys s => eX11_hasMarched_34 kb s)
  exact row_B hA h0 qX11_hasMarched_0 (And.intro trivial (And.intro trivial (And.intro trivial (And.intro (co_of mkX11_leagueAt (iX11_leagueAt hA)) (ck_n rfl))))) rfl (fun xs ys s => eX11_hasMarched_0 kb (xs.getD 0 0) (xs.getD 1 0) s)
theorem iX11_hasMarched (hA : AOK) : Impl mdX11_hasMarched gX11_hasMarched := ent_B (kk := kX11_hasMarched) (rr := rX11_hasMarched) (f := fun kb => fun xs ys s => fX11_hasMarched_0 kb (xs.getD 0 0) (xs.getD 1 0) s) (by decide +kernel) rfl (fun _ => rfl) (fun r kb => pX11_hasMarched hA r kb) (fun kb => ⟨_, rfl⟩) 0 id (fun xs s => rfl) (fun xs => wkl_rf _)
-- Floatparade.note(IIII)I
theorem mkX11_note : MK mdX11_note true := MKb_ok (h1 := 1139) (h2 := 70) (h3 := 1137) (h4 := 1138) (by decide +kernel)
theorem qX11_note_0 : blkb mdX11_note 0 0 bX11_note_0 [[], [], [483], [], [], [], [496]] = true := by decide +kernel
theorem qX11_note_22 : blkb mdX11_note 48 22 bX11_note_22 [[], [1140], [], [], [1143], [], [], [], [], [265], []] = true := by decide +kernel
theorem qX11_note_48 : blkb mdX11_note 0 48 bX11_note_48 [[1146]] = true := by decide +kernel
theorem qX11_note_59 : blkb mdX11_note 0 59 bX11_note_59 [[], [], [1147], [], [1151]] = true := by decide +kernel
theorem qX11_note_79 : blkb mdX11_note 0 79 bX11_note_79 [[], [411], [], [], [1152], [], [], [411], [], [], [], [1156], [], [], [], []] = true := by decide +kernel
theorem qX11_note_112 : blkb mdX11_note 114 112 bX11_note_112 [[]] = true := by decide +kernel
theorem qX11_note_114 : blkb mdX11_note 0 114 bX11_note_114 [[]] = true := by decide +kernel
theorem pX11_note (hA : AOK) (r : Rt) (kb : Co) : RsB mdX11_note r kb (rX11_note kb) := by
  have h114 : RsB mdX11_note r kb (tX11_note_114 kb) := row_0
  have h112 : RsB mdX11_note r kb (tX11_note_112 kb) := row_B hA h114 qX11_note_114 (ck_n rfl) rfl (fun xs ys s => eX11_note_114 kb (ys.getD 0 0) s)
  have h79 : RsB mdX11_note r kb (tX11_note_79 kb) := row_B hA h112 qX11_note_112 (ck_n rfl) rfl (fun xs ys s => eX11_note_112 kb (xs.getD 0 0) s)
  have h59 : RsB mdX11_note r kb (tX11_note_59 kb) := row_B hA h79 qX11_note_79 (And.intro trivial (And.intro trivial (And.intro trivial (And.intro trivial (And.intro (co_of mkX5_noteBy (iX5_noteBy hA)) (And.intro trivial (And.intro trivial (And.intro trivial (And.intro trivial (And.intro trivial (And.intro trivial (And.intro (co_of mkX5_setNote (iX5_setNote hA)) (ck_n rfl))))))))))))) rfl (fun xs ys s => eX11_note_79 kb (xs.getD 0 0) (xs.getD 1 0) (xs.getD 2 0) (xs.getD 3 0) s)
  have h48 : RsB mdX11_note r kb (tX11_note_48 kb) := row_B hA h59 qX11_note_59 (And.intro trivial (And.intro trivial (And.intro (co_of mkX11_hasMarched (iX11_hasMarched hA)) (ck_n rfl)))) rfl (fun xs ys s => eX11_note_59 kb (xs.getD 0 0) (xs.getD 1 0) (xs.getD 2 0) (xs.getD 3 0) (xs.getD 4 0) s)
  have h22 : RsB mdX11_note r kb (tX11_note_22 kb) := row_B hA h48 qX11_note_48 (ck_n rfl) rfl (fun xs ys s => eX11_note_48 kb s)
  have h0 : RsB mdX11_note r kb (tX11_note_0 kb) := row_B hA h22 qX11_note_22 (And.intro trivial (And.intro (co_of mkX11_isJudge (iX11_isJudge hA)) (And.intro trivial (And.intro trivial (And.intro (co_of mkX11_isCategory (iX11_isCategory hA)) (And.intro trivial (And.intro trivial (And.intro trivial (And.intro trivial (And.intro (co_of mkX11_isWithin (iX11_isWithin hA)) (ck_n rfl))))))))))) rfl (fun xs ys s => eX11_note_22 kb (xs.getD 0 0) (xs.getD 1 0) (xs.getD 2 0) (xs.getD 3 0) (xs.getD 4 0) s)
  exact row_B hA h0 qX11_note_0 (And.intro trivial (And.intro trivial (And.intro (co_of mkX11_societyAt (iX11_societyAt hA)) (ck_n rfl)))) rfl (fun xs ys s => eX11_note_0 kb (xs.getD 0 0) (xs.getD 1 0) (xs.getD 2 0) (xs.getD 3 0) (xs.getD 4 0) s)
theorem iX11_note (hA : AOK) : Impl mdX11_note gX11_note := ent_B (kk := kX11_note) (rr := rX11_note) (f := fun kb => fun xs ys s => fX11_note_0 kb (xs.getD 0 0) (xs.getD 1 0) (xs.getD 2 0) (xs.getD 3 0) (xs.getD 4 0) s) (by decide +kernel) rfl (fun _ => rfl) (fun r kb => pX11_note hA r kb) (fun kb => ⟨_, rfl⟩) 0 id (fun xs s => rfl) (fun xs => wkl_rf _)
-- Floatparade.penalty(III)I
theorem mkX11_penalty : MK mdX11_penalty true := MKb_ok (h1 := 1166) (h2 := 70) (h3 := 1164) (h4 := 1165) (by decide +kernel)
theorem qX11_penalty_0 : blkb mdX11_penalty 0 0 bX11_penalty_0 [[], [], [483], [], [], [], [496]] = true := by decide +kernel
theorem qX11_penalty_22 : blkb mdX11_penalty 42 22 bX11_penalty_22 [[], [], [], [265], [], [], [], [], [265], []] = true := by decide +kernel
theorem qX11_penalty_42 : blkb mdX11_penalty 0 42 bX11_penalty_42 [[1167]] = true := by decide +kernel
theorem qX11_penalty_53 : blkb mdX11_penalty 73 53 bX11_penalty_53 [[], [], [1147], [], [], [411], [1168], []] = true := by decide +kernel
theorem qX11_penalty_73 : blkb mdX11_penalty 0 73 bX11_penalty_73 [[1172]] = true := by decide +kernel
theorem qX11_penalty_84 : blkb mdX11_penalty 0 84 bX11_penalty_84 [[], [411], [], [], [1173], [], [411], [388], []] = true := by decide +kernel
theorem pX11_penalty (hA : AOK) (r : Rt) (kb : Co) : RsB mdX11_penalty r kb (rX11_penalty kb) := by
  have h84 : RsB mdX11_penalty r kb (tX11_penalty_84 kb) := row_0
  have h73 : RsB mdX11_penalty r kb (tX11_penalty_73 kb) := row_B hA h84 qX11_penalty_84 (And.intro trivial (And.intro trivial (And.intro trivial (And.intro trivial (And.intro (co_of mkX5_punish (iX5_punish hA)) (ck_n rfl)))))) rfl (fun xs ys s => eX11_penalty_84 kb (xs.getD 0 0) (xs.getD 1 0) (xs.getD 2 0) s)
  have h53 : RsB mdX11_penalty r kb (tX11_penalty_53 kb) := row_B hA h73 qX11_penalty_73 (ck_n rfl) rfl (fun xs ys s => eX11_penalty_73 kb s)
  have h42 : RsB mdX11_penalty r kb (tX11_penalty_42 kb) := row_B hA h53 qX11_penalty_53 (And.intro trivial (And.intro trivial (And.intro (co_of mkX11_hasMarched (iX11_hasMarched hA)) (And.intro trivial (And.intro trivial (And.intro trivial (And.intro (co_of mkX5_isFull (iX5_isFull hA)) (ck_n rfl)))))))) rfl (fun xs ys s => eX11_penalty_53 kb (xs.getD 0 0) (xs.getD 1 0) (xs.getD 2 0) (xs.getD 3 0) s)
  have h22 : RsB mdX11_penalty r kb (tX11_penalty_22 kb) := row_B hA h42 qX11_penalty_42 (ck_n rfl) rfl (fun xs ys s => eX11_penalty_42 kb s)
  have h0 : RsB mdX11_penalty r kb (tX11_penalty_0 kb) := row_B hA h22 qX11_penalty_22 (And.intro trivial (And.intro trivial (And.intro trivial (And.intro (co_of mkX11_isWithin (iX11_isWithin hA)) (And.intro trivial (And.intro trivial (And.intro trivial (And.intro trivial (And.intro (co_of mkX11_isWithin (iX11_isWithin hA)) (ck_n rfl)))))))))) rfl (fun xs ys s => eX11_penalty_22 kb (xs.getD 0 0) (xs.getD 1 0) (xs.getD 2 0) (xs.getD 3 0) s)
  exact row_B hA h0 qX11_penalty_0 (And.intro trivial (And.intro trivial (And.intro (co_of mkX11_societyAt (iX11_societyAt hA)) (ck_n rfl)))) rfl (fun xs ys s => eX11_penalty_0 kb (xs.getD 0 0) (xs.getD 1 0) (xs.getD 2 0) (xs.getD 3 0) s)
theorem iX11_penalty (hA : AOK) : Impl mdX11_penalty gX11_penalty := ent_B (kk := kX11_penalty) (rr := rX11_penalty) (f := fun kb => fun xs ys s => fX11_penalty_0 kb (xs.getD 0 0) (xs.getD 1 0) (xs.getD 2 0) (xs.getD 3 0) s) (by decide +kernel) rfl (fun _ => rfl) (fun r kb => pX11_penalty hA r kb) (fun kb => ⟨_, rfl⟩) 0 id (fun xs s => rfl) (fun xs => wkl_rf _)
-- Floatparade.appeal(II)I
theorem mkX11_appeal : MK mdX11_appeal true := MKb_ok (h1 := 1180) (h2 := 70) (h3 := 1178) (h4 := 1179) (by decide +kernel)
theorem qX11_appeal_0 : blkb mdX11_appeal 21 0 bX11_appeal_0 [[], [], [483], [], [], [], [], [411], [], [1181], []] = true := by decide +kernel
theorem qX11_appeal_21 : blkb mdX11_appeal 0 21 bX11_appeal_21 [[1185]] = true := by decide +kernel
theorem qX11_appeal_32 : blkb mdX11_appeal 0 32 bX11_appeal_32 [[], [411], [], [1186], [], [1191]] = true := by decide +kernel
theorem qX11_appeal_54 : blkb mdX11_appeal 0 54 bX11_appeal_54 [[], [411], [], [1192], [], [411], [1196], []] = true := by decide +kernel
theorem pX11_appeal (hA : AOK) (r : Rt) (kb : Co) : RsB mdX11_appeal r kb (rX11_appeal kb) := by
  have h54 : RsB mdX11_appeal r kb (tX11_appeal_54 kb) := row_0
  have h32 : RsB mdX11_appeal r kb (tX11_appeal_32 kb) := row_B hA h54 qX11_appeal_54 (And.intro trivial (And.intro trivial (And.intro trivial (And.intro (co_of mkX5_appealAway (iX5_appealAway hA)) (And.intro trivial (And.intro trivial (And.intro (co_of mkX5_points (iX5_points hA)) (ck_n rfl)))))))) rfl (fun xs ys s => eX11_appeal_54 kb (xs.getD 0 0) (xs.getD 1 0) s)
  have h21 : RsB mdX11_appeal r kb (tX11_appeal_21 kb) := row_B hA h32 qX11_appeal_32 (And.intro trivial (And.intro trivial (And.intro trivial (And.intro (co_of mkX5_isAppealed (iX5_isAppealed hA)) (ck_n rfl))))) rfl (fun xs ys s => eX11_appeal_32 kb (xs.getD 0 0) (xs.getD 1 0) s)
  have h0 : RsB mdX11_appeal r kb (tX11_appeal_0 kb) := row_B hA h21 qX11_appeal_21 (ck_n rfl) rfl (fun xs ys s => eX11_appeal_21 kb s)
  exact row_B hA h0 qX11_appeal_0 (And.intro trivial (And.intro trivial (And.intro (co_of mkX11_societyAt (iX11_societyAt hA)) (And.intro trivial (And.intro trivial (And.intro trivial (And.intro trivial (And.intro trivial (And.intro trivial (And.intro (co_of mkX5_hasPenalty (iX5_hasPenalty hA)) (ck_n rfl))))))))))) rfl (fun xs ys s => eX11_appeal_0 kb (xs.getD 0 0) (xs.getD 1 0) (xs.getD 2 0) s)
theorem iX11_appeal (hA : AOK) : Impl mdX11_appeal gX11_appeal := ent_B (kk := kX11_appeal) (rr := rX11_appeal) (f := fun kb => fun xs ys s => fX11_appeal_0 kb (xs.getD 0 0) (xs.getD 1 0) (xs.getD 2 0) s) (by decide +kernel) rfl (fun _ => rfl) (fun r kb => pX11_appeal hA r kb) (fun kb => ⟨_, rfl⟩) 0 id (fun xs s => rfl) (fun xs => wkl_rf _)
-- Floatparade.draw(I)I
theorem mkX11_draw : MK mdX11_draw true := MKb_ok (h1 := 1213) (h2 := 70) (h3 := 1211) (h4 := 1212) (by decide +kernel)
theorem qX11_draw_0 : blkb mdX11_draw 0 0 bX11_draw_0 [[], [1143], [], [1214]] = true := by decide +kernel
theorem qX11_draw_18 : blkb mdX11_draw 0 18 bX11_draw_18 [[], [231], [], [], [], [231], [], []] = true := by decide +kernel
theorem pX11_draw (hA : AOK) (r : Rt) (kb : Co) : RsB mdX11_draw r kb (rX11_draw kb) := by
  have h18 : RsB mdX11_draw r kb (tX11_draw_18 kb) := row_0
  have h0 : RsB mdX11_draw r kb (tX11_draw_0 kb) := row_B hA h18 qX11_draw_18 (ck_n rfl) rfl (fun xs ys s => eX11_draw_18 kb (xs.getD 0 0) (xs.getD 1 0) s)
  exact row_B hA h0 qX11_draw_0 (And.intro trivial (And.intro (co_of mkX11_isCategory (iX11_isCategory hA)) (ck_n rfl))) rfl (fun xs ys s => eX11_draw_0 kb (xs.getD 0 0) (xs.getD 1 0) s)
theorem iX11_draw (hA : AOK) : Impl mdX11_draw gX11_draw := ent_B (kk := kX11_draw) (rr := rX11_draw) (f := fun kb => fun xs ys s => fX11_draw_0 kb (xs.getD 0 0) (xs.getD 1 0) s) (by decide +kernel) rfl (fun _ => rfl) (fun r kb => pX11_draw hA r kb) (fun kb => ⟨_, rfl⟩) 0 id (fun xs s => rfl) (fun xs => wkl_rf _)
-- Floatparade.mayEndYear()Z
theorem mkX11_mayEndYear : MK mdX11_mayEndYear true := MKb_ok (h1 := 1225) (h2 := 70) (h3 := 1224) (h4 := 25) (by decide +kernel)
theorem qX11_mayEndYear_0 : blkb mdX11_mayEndYear 4 0 bX11_mayEndYear_0 [[], [], [], []] = true := by decide +kernel
theorem qX11_mayEndYear_4 : blkb mdX11_mayEndYear 0 4 bX11_mayEndYear_4 [[], [], [228], [], [], [], [228], [], [], [], [], [], [], [212], [984], [], [], []] = true := by decide +kernel
theorem qX11_mayEndYear_36 : blkb mdX11_mayEndYear 52 36 bX11_mayEndYear_36 [[], [], [], [212], [185], [], [], []] = true := by decide +kernel
theorem qX11_mayEndYear_52 : blkb mdX11_mayEndYear 0 52 bX11_mayEndYear_52 [[], []] = true := by decide +kernel
theorem qX11_mayEndYear_58 : blkb mdX11_mayEndYear 0 58 bX11_mayEndYear_58 [[], []] = true := by decide +kernel
theorem pX11_mayEndYear (hA : AOK) (r : Rt) (kb : Co) : RsB mdX11_mayEndYear r kb (rX11_mayEndYear kb) := by
  have h58 : RsB mdX11_mayEndYear r kb (tX11_mayEndYear_58 kb) := row_0
  have h52 : RsB mdX11_mayEndYear r kb (tX11_mayEndYear_52 kb) := row_B hA h58 qX11_mayEndYear_58 (ck_n rfl) rfl (fun xs ys s => eX11_mayEndYear_58 kb (xs.getD 0 0) s)
  have h36 : RsB mdX11_mayEndYear r kb (tX11_mayEndYear_36 kb) := row_B hA h52 qX11_mayEndYear_52 (ck_n rfl) rfl (fun xs ys s => eX11_mayEndYear_52 kb (xs.getD 0 0) (xs.getD 1 0) (xs.getD 2 0) s)
  have h4 : RsB mdX11_mayEndYear r kb (tX11_mayEndYear_4 kb) := row_B hA h36 qX11_mayEndYear_36 (ck_n rfl) rfl (fun xs ys s => eX11_mayEndYear_36 kb (xs.getD 0 0) (xs.getD 1 0) (xs.getD 2 0) (xs.getD 3 0) s)
  have h0 : RsB mdX11_mayEndYear r kb (tX11_mayEndYear_0 kb) := row_B hA h4 qX11_mayEndYear_4 (And.intro trivial (And.intro trivial (And.intro trivial (And.intro trivial (And.intro trivial (And.intro trivial (And.intro trivial (And.intro trivial (And.intro trivial (And.intro trivial (And.intro trivial (And.intro trivial (And.intro trivial (And.intro trivial (And.intro (co_of mkX1_goesOn (iX1_goesOn hA)) (ck_n rfl)))))))))))))))) rfl (fun xs ys s => eX11_mayEndYear_4 kb (xs.getD 0 0) (xs.getD 1 0) (xs.getD 2 0) s)
  exact row_B hA h0 qX11_mayEndYear_0 (ck_n rfl) rfl (fun xs ys s => eX11_mayEndYear_0 kb (xs.getD 0 0) s)
theorem iX11_mayEndYear (hA : AOK) : Impl mdX11_mayEndYear gX11_mayEndYear := ent_B (kk := kX11_mayEndYear) (rr := rX11_mayEndYear) (f := fun kb => fun xs ys s => fX11_mayEndYear_0 kb (xs.getD 0 0) s) (by decide +kernel) rfl (fun _ => rfl) (fun r kb => pX11_mayEndYear hA r kb) (fun kb => ⟨_, rfl⟩) 9999 id (fun xs s => rfl) (fun xs => wkl_rf _)
-- Floatparade.exchangeLeagues(LFloatparade$League;LFloatparade$League;)I
theorem mkX11_exchangeLeagues : MK mdX11_exchangeLeagues false := MKb_ok (h1 := 1248) (h2 := 70) (h3 := 1247) (h4 := 0) (by decide +kernel)
theorem qX11_exchangeLeagues_0 : blkb mdX11_exchangeLeagues 28 0 bX11_exchangeLeagues_0 [[], [], [], [], [], [212], [185], [], [], [212], [185], []] = true := by decide +kernel
theorem qX11_exchangeLeagues_28 : blkb mdX11_exchangeLeagues 0 28 bX11_exchangeLeagues_28 [[], []] = true := by decide +kernel
theorem qX11_exchangeLeagues_30 : blkb mdX11_exchangeLeagues 64 30 bX11_exchangeLeagues_30 [[], [210], [], [210], [160], [], [], [1249], [], [], [210], [], [1249], [], [], [], [], []] = true := by decide +kernel
theorem qX11_exchangeLeagues_64 : blkb mdX11_exchangeLeagues 0 64 bX11_exchangeLeagues_64 [[], []] = true := by decide +kernel
theorem qX11_exchangeLeagues_66 : blkb mdX11_exchangeLeagues 0 66 bX11_exchangeLeagues_66 [[], [], [204], [415], [], [], [204], [415], [], [406], []] = true := by decide +kernel
theorem pX11_exchangeLeagues (hA : AOK) (r : Rt) (kb : Co) : RsB mdX11_exchangeLeagues r kb (rX11_exchangeLeagues kb) := by
  have h66 : RsB mdX11_exchangeLeagues r kb (tX11_exchangeLeagues_66 kb) := row_0
  have h64 : RsB mdX11_exchangeLeagues r kb (tX11_exchangeLeagues_64 kb) := row_B hA h66 qX11_exchangeLeagues_66 (ck_n rfl) rfl (fun xs ys s => eX11_exchangeLeagues_66 kb (xs.getD 0 0) (xs.getD 1 0) (xs.getD 2 0) (xs.getD 3 0) s)
  have h30 : RsB mdX11_exchangeLeagues r kb (tX11_exchangeLeagues_30 kb) := row_B hA h64 qX11_exchangeLeagues_64 (ck_n rfl) rfl (fun xs ys s => eX11_exchangeLeagues_64 kb s)
  have h28 : RsB mdX11_exchangeLeagues r kb (tX11_exchangeLeagues_28 kb) := row_B hA h30 qX11_exchangeLeagues_30 (And.intro trivial (And.intro trivial (And.intro trivial (And.intro trivial (And.intro trivial (And.intro trivial (And.intro trivial (And.intro (co_of mkX4_at (iX4_at hA)) (And.intro trivial (And.intro trivial (And.intro trivial (And.intro trivial (And.intro (co_of mkX4_at (iX4_at hA)) (ck_n rfl)))))))))))))) rfl (fun xs ys s => eX11_exchangeLeagues_30 kb (xs.getD 0 0) (xs.getD 1 0) s)
  have h0 : RsB mdX11_exchangeLeagues r kb (tX11_exchangeLeagues_0 kb) := row_B hA h28 qX11_exchangeLeagues_28 (ck_n rfl) rfl (fun xs ys s => eX11_exchangeLeagues_28 kb s)
  exact row_B hA h0 qX11_exchangeLeagues_0 (ck_n rfl) rfl (fun xs ys s => eX11_exchangeLeagues_0 kb (xs.getD 0 0) (xs.getD 1 0) s)
theorem iX11_exchangeLeagues (hA : AOK) : Impl mdX11_exchangeLeagues gX11_exchangeLeagues := ent_B (kk := kX11_exchangeLeagues) (rr := rX11_exchangeLeagues) (f := fun kb => fun xs ys s => fX11_exchangeLeagues_0 kb (xs.getD 0 0) (xs.getD 1 0) s) (by decide +kernel) rfl (fun _ => rfl) (fun r kb => pX11_exchangeLeagues hA r kb) (fun kb => ⟨_, rfl⟩) 0 id (fun xs s => rfl) (fun xs => wkl_rf _)
-- Floatparade.forgetYear()V
theorem mkX11_forgetYear : MK mdX11_forgetYear true := MKb_ok (h1 := 1253) (h2 := 70) (h3 := 1252) (h4 := 27) (by decide +kernel)
theorem qX11_forgetYear_0 : blkb mdX11_forgetYear 2 0 bX11_forgetYear_0 [[], []] = true := by decide +kernel
theorem qX11_forgetYear_2 : blkb mdX11_forgetYear 29 2 bX11_forgetYear_2 [[], [], [227], [], [], [], [227], [], [], [], [], [227], [], [], [1254]] = true := by decide +kernel
theorem qX11_forgetYear_29 : blkb mdX11_forgetYear 0 29 bX11_forgetYear_29 [[], []] = true := by decide +kernel
theorem qX11_forgetYear_35 : blkb mdX11_forgetYear 37 35 bX11_forgetYear_35 [[], []] = true := by decide +kernel
theorem qX11_forgetYear_37 : blkb mdX11_forgetYear 79 37 bX11_forgetYear_37 [[], [], [228], [], [], [], [228], [], [], [], [], [228], [], [], [208], [1266], [], [228], [], [], [212], [1267]] = true := by decide +kernel
theorem qX11_forgetYear_79 : blkb mdX11_forgetYear 0 79 bX11_forgetYear_79 [[], []] = true := by decide +kernel
theorem qX11_forgetYear_85 : blkb mdX11_forgetYear 0 85 bX11_forgetYear_85 [[]] = true := by decide +kernel
theorem pX11_forgetYear (hA : AOK) (r : Rt) (kb : Co) : RsB mdX11_forgetYear r kb (rX11_forgetYear kb) := by
  have h85 : RsB mdX11_forgetYear r kb (tX11_forgetYear_85 kb) := row_0
  have h79 : RsB mdX11_forgetYear r kb (tX11_forgetYear_79 kb) := row_B hA h85 qX11_forgetYear_85 (ck_n rfl) rfl (fun xs ys s => eX11_forgetYear_85 kb s)
  have h37 : RsB mdX11_forgetYear r kb (tX11_forgetYear_37 kb) := row_B hA h79 qX11_forgetYear_79 (ck_n rfl) rfl (fun xs ys s => eX11_forgetYear_79 kb (xs.getD 0 0) (xs.getD 1 0) s)
  have h35 : RsB mdX11_forgetYear r kb (tX11_forgetYear_35 kb) := row_B hA h37 qX11_forgetYear_37 (And.intro trivial (And.intro trivial (And.intro trivial (And.intro trivial (And.intro trivial (And.intro trivial (And.intro trivial (And.intro trivial (And.intro trivial (And.intro trivial (And.intro trivial (And.intro trivial (And.intro trivial (And.intro trivial (And.intro trivial (And.intro (co_of mkX4_clear (iX4_clear hA)) (And.intro trivial (And.intro trivial (And.intro trivial (And.intro trivial (And.intro trivial (And.intro (co_of mkX1_clear (iX1_clear hA)) (ck_n rfl))))))))))))))))))))))) rfl (fun xs ys s => eX11_forgetYear_37 kb (xs.getD 0 0) (xs.getD 1 0) s)
  have h29 : RsB mdX11_forgetYear r kb (tX11_forgetYear_29 kb) := row_B hA h35 qX11_forgetYear_35 (ck_n rfl) rfl (fun xs ys s => eX11_forgetYear_35 kb (xs.getD 0 0) s)
  have h2 : RsB mdX11_forgetYear r kb (tX11_forgetYear_2 kb) := row_B hA h29 qX11_forgetYear_29 (ck_n rfl) rfl (fun xs ys s => eX11_forgetYear_29 kb (xs.getD 0 0) (xs.getD 1 0) s)
  have h0 : RsB mdX11_forgetYear r kb (tX11_forgetYear_0 kb) := row_B hA h2 qX11_forgetYear_2 (And.intro trivial (And.intro trivial (And.intro trivial (And.intro trivial (And.intro trivial (And.intro trivial (And.intro trivial (And.intro trivial (And.intro trivial (And.intro trivial (And.intro trivial (And.intro trivial (And.intro trivial (And.intro trivial (And.intro (co_of mkX6_forgetYear (iX6_forgetYear hA)) (ck_n rfl)))))))))))))))) rfl (fun xs ys s => eX11_forgetYear_2 kb (xs.getD 0 0) (xs.getD 1 0) s)
  exact row_B hA h0 qX11_forgetYear_0 (ck_n rfl) rfl (fun xs ys s => eX11_forgetYear_0 kb (xs.getD 0 0) s)
theorem iX11_forgetYear (hA : AOK) : Impl mdX11_forgetYear gX11_forgetYear := ent_B (kk := kX11_forgetYear) (rr := rX11_forgetYear) (f := fun kb => fun xs ys s => fX11_forgetYear_0 kb (xs.getD 0 0) s) (by decide +kernel) rfl (fun _ => rfl) (fun r kb => pX11_forgetYear hA r kb) (fun kb => ⟨_, rfl⟩) 9999 id (fun xs s => rfl) (fun xs => wkl_rf _)
-- Floatparade.endYear()I
theorem mkX11_endYear : MK mdX11_endYear true := MKb_ok (h1 := 1221) (h2 := 70) (h3 := 1219) (h4 := 1220) (by decide +kernel)
theorem qX11_endYear_0 : blkb mdX11_endYear 0 0 bX11_endYear_0 [[], [1222], [], [1226]] = true := by decide +kernel
theorem qX11_endYear_18 : blkb mdX11_endYear 20 18 bX11_endYear_18 [[], []] = true := by decide +kernel
theorem qX11_endYear_20 : blkb mdX11_endYear 79 20 bX11_endYear_20 [[], [], [228], [], [], [], [228], [], [], [], [], [228], [], [], [212], [185], [], [], [228], [], [], [], [227], [], [231], [1227], [], [228], [], [], [1241]] = true := by decide +kernel
theorem qX11_endYear_79 : blkb mdX11_endYear 0 79 bX11_endYear_79 [[], []] = true := by decide +kernel
theorem qX11_endYear_85 : blkb mdX11_endYear 0 85 bX11_endYear_85 [[], [], [], [664], [], [], [664], [1246], [232], [], [1250], [], [232], []] = true := by decide +kernel
theorem pX11_endYear (hA : AOK) (r : Rt) (kb : Co) : RsB mdX11_endYear r kb (rX11_endYear kb) := by
  have h85 : RsB mdX11_endYear r kb (tX11_endYear_85 kb) := row_0
  have h79 : RsB mdX11_endYear r kb (tX11_endYear_79 kb) := row_B hA h85 qX11_endYear_85 (And.intro trivial (And.intro trivial (And.intro trivial (And.intro (co_of mkX11_leagueAt (iX11_leagueAt hA)) (And.intro trivial (And.intro trivial (And.intro (co_of mkX11_leagueAt (iX11_leagueAt hA)) (And.intro (co_of mkX11_exchangeLeagues (iX11_exchangeLeagues hA)) (And.intro trivial (And.intro trivial (And.intro (co_of mkX11_forgetYear (iX11_forgetYear hA)) (ck_n rfl)))))))))))) rfl (fun xs ys s => eX11_endYear_85 kb (xs.getD 0 0) s)
  have h20 : RsB mdX11_endYear r kb (tX11_endYear_20 kb) := row_B hA h79 qX11_endYear_79 (ck_n rfl) rfl (fun xs ys s => eX11_endYear_79 kb (xs.getD 0 0) (xs.getD 1 0) s)
  have h18 : RsB mdX11_endYear r kb (tX11_endYear_18 kb) := row_B hA h20 qX11_endYear_20 (And.intro trivial (And.intro trivial (And.intro trivial (And.intro trivial (And.intro trivial (And.intro trivial (And.intro trivial (And.intro trivial (And.intro trivial (And.intro trivial (And.intro trivial (And.intro trivial (And.intro trivial (And.intro trivial (And.intro trivial (And.intro trivial (And.intro trivial (And.intro trivial (And.intro trivial (And.intro trivial (And.intro trivial (And.intro trivial (And.intro trivial (And.intro trivial (And.intro trivial (And.intro (co_of mkX0_rank (iX0_rank hA)) (And.intro trivial (And.intro trivial (And.intro trivial (And.intro trivial (And.intro (co_of mkX0_settle (iX0_settle hA)) (ck_n rfl)))))))))))))))))))))))))))))))) rfl (fun xs ys s => eX11_endYear_20 kb (xs.getD 0 0) (xs.getD 1 0) s)
  have h0 : RsB mdX11_endYear r kb (tX11_endYear_0 kb) := row_B hA h18 qX11_endYear_18 (ck_n rfl) rfl (fun xs ys s => eX11_endYear_18 kb (xs.getD 0 0) s)
  exact row_B hA h0 qX11_endYear_0 (And.intro trivial (And.intro (co_of mkX11_mayEndYear (iX11_mayEndYear hA)) (ck_n rfl))) rfl (fun xs ys s => eX11_endYear_0 kb (xs.getD 0 0) s)
theorem iX11_endYear (hA : AOK) : Impl mdX11_endYear gX11_endYear := ent_B (kk := kX11_endYear) (rr := rX11_endYear) (f := fun kb => fun xs ys s => fX11_endYear_0 kb (xs.getD 0 0) s) (by decide +kernel) rfl (fun _ => rfl) (fun r kb => pX11_endYear hA r kb) (fun kb => ⟨_, rfl⟩) 9999 id (fun xs s => rfl) (fun xs => wkl_rf _)
-- Floatparade.about(II)I
theorem mkX11_about : MK mdX11_about true := MKb_ok (h1 := 1274) (h2 := 70) (h3 := 1272) (h4 := 1273) (by decide +kernel)
theorem qX11_about_0 : blkb mdX11_about 0 0 bX11_about_0 [[], [], [483], [], [], [], [496]] = true := by decide +kernel
theorem qX11_about_20 : blkb mdX11_about 0 20 bX11_about_20 [[], [], [], [265], [], [1131]] = true := by decide +kernel
theorem qX11_about_41 : blkb mdX11_about 0 41 bX11_about_41 [[], [], [1275], []] = true := by decide +kernel
theorem pX11_about (hA : AOK) (r : Rt) (kb : Co) : RsB mdX11_about r kb (rX11_about kb) := by
  have h41 : RsB mdX11_about r kb (tX11_about_41 kb) := row_0
  have h20 : RsB mdX11_about r kb (tX11_about_20 kb) := row_B hA h41 qX11_about_41 (And.intro trivial (And.intro trivial (And.intro (co_of mkX6_tell (iX6_tell hA)) (ck_n rfl)))) rfl (fun xs ys s => eX11_about_41 kb (xs.getD 0 0) (xs.getD 1 0) s)
  have h0 : RsB mdX11_about r kb (tX11_about_0 kb) := row_B hA h20 qX11_about_20 (And.intro trivial (And.intro trivial (And.intro trivial (And.intro (co_of mkX11_isWithin (iX11_isWithin hA)) (ck_n rfl))))) rfl (fun xs ys s => eX11_about_20 kb (xs.getD 0 0) (xs.getD 1 0) s)
  exact row_B hA h0 qX11_about_0 (And.intro trivial (And.intro trivial (And.intro (co_of mkX11_societyAt (iX11_societyAt hA)) (ck_n rfl)))) rfl (fun xs ys s => eX11_about_0 kb (xs.getD 0 0) (xs.getD 1 0) (xs.getD 2 0) s)
theorem iX11_about (hA : AOK) : Impl mdX11_about gX11_about := ent_B (kk := kX11_about) (rr := rX11_about) (f := fun kb => fun xs ys s => fX11_about_0 kb (xs.getD 0 0) (xs.getD 1 0) (xs.getD 2 0) s) (by decide +kernel) rfl (fun _ => rfl) (fun r kb => pX11_about hA r kb) (fun kb => ⟨_, rfl⟩) 0 id (fun xs s => rfl) (fun xs => wkl_rf _)
-- Floatparade.notes(II)I
theorem mkX11_notes : MK mdX11_notes true := MKb_ok (h1 := 1286) (h2 := 70) (h3 := 1284) (h4 := 1285) (by decide +kernel)
theorem qX11_notes_0 : blkb mdX11_notes 0 0 bX11_notes_0 [[], [], [483], [], [], [], [496]] = true := by decide +kernel
theorem qX11_notes_20 : blkb mdX11_notes 0 20 bX11_notes_20 [[], [1143], [], [1287]] = true := by decide +kernel
theorem qX11_notes_38 : blkb mdX11_notes 0 38 bX11_notes_38 [[], [411], [], [1288], []] = true := by decide +kernel
theorem pX11_notes (hA : AOK) (r : Rt) (kb : Co) : RsB mdX11_notes r kb (rX11_notes kb) := by
  have h38 : RsB mdX11_notes r kb (tX11_notes_38 kb) := row_0
  have h20 : RsB mdX11_notes r kb (tX11_notes_20 kb) := row_B hA h38 qX11_notes_38 (And.intro trivial (And.intro trivial (And.intro trivial (And.intro (co_of mkX5_together (iX5_together hA)) (ck_n rfl))))) rfl (fun xs ys s => eX11_notes_38 kb (xs.getD 0 0) (xs.getD 1 0) s)
  have h0 : RsB mdX11_notes r kb (tX11_notes_0 kb) := row_B hA h20 qX11_notes_20 (And.intro trivial (And.intro (co_of mkX11_isCategory (iX11_isCategory hA)) (ck_n rfl))) rfl (fun xs ys s => eX11_notes_20 kb (xs.getD 0 0) (xs.getD 1 0) s)
  exact row_B hA h0 qX11_notes_0 (And.intro trivial (And.intro trivial (And.intro (co_of mkX11_societyAt (iX11_societyAt hA)) (ck_n rfl)))) rfl (fun xs ys s => eX11_notes_0 kb (xs.getD 0 0) (xs.getD 1 0) (xs.getD 2 0) s)
theorem iX11_notes (hA : AOK) : Impl mdX11_notes gX11_notes := ent_B (kk := kX11_notes) (rr := rX11_notes) (f := fun kb => fun xs ys s => fX11_notes_0 kb (xs.getD 0 0) (xs.getD 1 0) (xs.getD 2 0) s) (by decide +kernel) rfl (fun _ => rfl) (fun r kb => pX11_notes hA r kb) (fun kb => ⟨_, rfl⟩) 0 id (fun xs s => rfl) (fun xs => wkl_rf _)
