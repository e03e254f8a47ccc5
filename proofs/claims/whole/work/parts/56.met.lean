-- FloatparadeLaw.society(LFloatparade;II[J)I
theorem mkL_society : MK mdL_society false := MKb_ok (h1 := 255) (h2 := 69) (h3 := 254) (h4 := 0) (by decide +kernel)
theorem qL_society_0 : blkb mdL_society 0 0 bL_society_0 [[], [], [], [], [], [258, 256, 270, 257, 338], [], [], []] = true := by decide +kernel
theorem qL_society_13 : blkb mdL_society 0 13 bL_society_13 [[], [], []] = true := by decide +kernel
theorem qL_society_17 : blkb mdL_society 0 17 bL_society_17 [[], [], []] = true := by decide +kernel
theorem qL_society_21 : blkb mdL_society 0 21 bL_society_21 [[], []] = true := by decide +kernel
theorem pL_society (hA : AOK) (r : Rt) (kb : Co) : RsB mdL_society r kb (rL_society kb) := by
  have h21 : RsB mdL_society r kb (tL_society_21 kb) := row_0
  have h17 : RsB mdL_society r kb (tL_society_17 kb) := row_B hA h21 qL_society_21 (ck_n rfl) rfl (fun xs ys s => eL_society_21 kb s)
  have h13 : RsB mdL_society r kb (tL_society_13 kb) := row_B hA h17 qL_society_17 (ck_n rfl) rfl (fun xs ys s => eL_society_17 kb (ys.getD 0 0) s)
  have h0 : RsB mdL_society r kb (tL_society_0 kb) := row_B hA h13 qL_society_13 (ck_n rfl) rfl (fun xs ys s => eL_society_13 kb (ys.getD 0 0) s)
  exact row_B hA h0 qL_society_0 (And.intro trivial (And.intro trivial (And.intro trivial (And.intro trivial (And.intro trivial (And.intro (co_of mkX11_society (iX11_society hA)) (ck_n rfl))))))) rfl (fun xs ys s => eL_society_0 kb (xs.getD 0 0) (xs.getD 1 0) (xs.getD 2 0) (xs.getD 3 0) s)
theorem iL_society (hA : AOK) : Impl mdL_society gL_society := ent_B (kk := kL_society) (rr := rL_society) (f := fun kb => fun xs ys s => fL_society_0 kb (xs.getD 0 0) (xs.getD 1 0) (xs.getD 2 0) (xs.getD 3 0) s) (by decide +kernel) rfl (fun _ => rfl) (fun r kb => pL_society hA r kb) (fun kb => ⟨_, rfl⟩) 0 id (fun xs s => rfl) (fun xs => wkl_rf _)
-- FloatparadeLaw.feud(LFloatparade;IIZ[J)I
theorem mkL_feud : MK mdL_feud false := MKb_ok (h1 := 477) (h2 := 69) (h3 := 476) (h4 := 0) (by decide +kernel)
theorem qL_feud_0 : blkb mdL_feud 0 0 bL_feud_0 [[], [], [], [], [], [], [479, 478, 489, 256, 270], [], [], []] = true := by decide +kernel
theorem qL_feud_17 : blkb mdL_feud 18 17 bL_feud_17 [[]] = true := by decide +kernel
theorem qL_feud_18 : blkb mdL_feud 0 18 bL_feud_18 [[], []] = true := by decide +kernel
theorem qL_feud_22 : blkb mdL_feud 0 22 bL_feud_22 [[], [], []] = true := by decide +kernel
theorem qL_feud_26 : blkb mdL_feud 0 26 bL_feud_26 [[], [], []] = true := by decide +kernel
theorem qL_feud_30 : blkb mdL_feud 0 30 bL_feud_30 [[], []] = true := by decide +kernel
theorem pL_feud (hA : AOK) (r : Rt) (kb : Co) : RsB mdL_feud r kb (rL_feud kb) := by
  have h30 : RsB mdL_feud r kb (tL_feud_30 kb) := row_0
  have h26 : RsB mdL_feud r kb (tL_feud_26 kb) := row_B hA h30 qL_feud_30 (ck_n rfl) rfl (fun xs ys s => eL_feud_30 kb s)
  have h22 : RsB mdL_feud r kb (tL_feud_22 kb) := row_B hA h26 qL_feud_26 (ck_n rfl) rfl (fun xs ys s => eL_feud_26 kb (ys.getD 0 0) s)
  have h18 : RsB mdL_feud r kb (tL_feud_18 kb) := row_B hA h22 qL_feud_22 (ck_n rfl) rfl (fun xs ys s => eL_feud_22 kb (ys.getD 0 0) s)
  have h17 : RsB mdL_feud r kb (tL_feud_17 kb) := row_B hA h18 qL_feud_18 (ck_n rfl) rfl (fun xs ys s => eL_feud_18 kb (ys.getD 0 0) (ys.getD 1 0) (ys.getD 2 0) s)
  have h0 : RsB mdL_feud r kb (tL_feud_0 kb) := row_B hA h17 qL_feud_17 (ck_n rfl) rfl (fun xs ys s => eL_feud_17 kb (ys.getD 0 0) (ys.getD 1 0) s)
  exact row_B hA h0 qL_feud_0 (And.intro trivial (And.intro trivial (And.intro trivial (And.intro trivial (And.intro trivial (And.intro trivial (And.intro (co_of mkX11_feud (iX11_feud hA)) (ck_n rfl)))))))) rfl (fun xs ys s => eL_feud_0 kb (xs.getD 0 0) (xs.getD 1 0) (xs.getD 2 0) (xs.getD 3 0) (xs.getD 4 0) s)
theorem iL_feud (hA : AOK) : Impl mdL_feud gL_feud := ent_B (kk := kL_feud) (rr := rL_feud) (f := fun kb => fun xs ys s => fL_feud_0 kb (xs.getD 0 0) (xs.getD 1 0) (xs.getD 2 0) (xs.getD 3 0) (xs.getD 4 0) s) (by decide +kernel) rfl (fun _ => rfl) (fun r kb => pL_feud hA r kb) (fun kb => ⟨_, rfl⟩) 0 id (fun xs s => rfl) (fun xs => wkl_rf _)
-- FloatparadeLaw.theme(LFloatparade;III[J)I
theorem mkL_theme : MK mdL_theme false := MKb_ok (h1 := 514) (h2 := 69) (h3 := 513) (h4 := 0) (by decide +kernel)
theorem qL_theme_0 : blkb mdL_theme 0 0 bL_theme_0 [[], [], [], [], [], [], [515, 478, 489, 256, 270], [], [], []] = true := by decide +kernel
theorem qL_theme_15 : blkb mdL_theme 0 15 bL_theme_15 [[], [], []] = true := by decide +kernel
theorem qL_theme_19 : blkb mdL_theme 0 19 bL_theme_19 [[], [], []] = true := by decide +kernel
theorem qL_theme_23 : blkb mdL_theme 0 23 bL_theme_23 [[], []] = true := by decide +kernel
theorem pL_theme (hA : AOK) (r : Rt) (kb : Co) : RsB mdL_theme r kb (rL_theme kb) := by
  have h23 : RsB mdL_theme r kb (tL_theme_23 kb) := row_0
  have h19 : RsB mdL_theme r kb (tL_theme_19 kb) := row_B hA h23 qL_theme_23 (ck_n rfl) rfl (fun xs ys s => eL_theme_23 kb s)
  have h15 : RsB mdL_theme r kb (tL_theme_15 kb) := row_B hA h19 qL_theme_19 (ck_n rfl) rfl (fun xs ys s => eL_theme_19 kb (ys.getD 0 0) s)
  have h0 : RsB mdL_theme r kb (tL_theme_0 kb) := row_B hA h15 qL_theme_15 (ck_n rfl) rfl (fun xs ys s => eL_theme_15 kb (ys.getD 0 0) s)
  exact row_B hA h0 qL_theme_0 (And.intro trivial (And.intro trivial (And.intro trivial (And.intro trivial (And.intro trivial (And.intro trivial (And.intro (co_of mkX11_theme (iX11_theme hA)) (ck_n rfl)))))))) rfl (fun xs ys s => eL_theme_0 kb (xs.getD 0 0) (xs.getD 1 0) (xs.getD 2 0) (xs.getD 3 0) (xs.getD 4 0) s)
theorem iL_theme (hA : AOK) : Impl mdL_theme gL_theme := ent_B (kk := kL_theme) (rr := rL_theme) (f := fun kb => fun xs ys s => fL_theme_0 kb (xs.getD 0 0) (xs.getD 1 0) (xs.getD 2 0) (xs.getD 3 0) (xs.getD 4 0) s) (by decide +kernel) rfl (fun _ => rfl) (fun r kb => pL_theme hA r kb) (fun kb => ⟨_, rfl⟩) 0 id (fun xs s => rfl) (fun xs => wkl_rf _)
-- FloatparadeLaw.song(LFloatparade;I[J)I
theorem mkL_song : MK mdL_song false := MKb_ok (h1 := 540) (h2 := 69) (h3 := 539) (h4 := 0) (by decide +kernel)
theorem qL_song_0 : blkb mdL_song 0 0 bL_song_0 [[], [], [], [], [541, 478, 489, 257, 338], [], [], []] = true := by decide +kernel
theorem qL_song_12 : blkb mdL_song 0 12 bL_song_12 [[], [], []] = true := by decide +kernel
theorem qL_song_15 : blkb mdL_song 0 15 bL_song_15 [[], [], []] = true := by decide +kernel
theorem qL_song_18 : blkb mdL_song 0 18 bL_song_18 [[], []] = true := by decide +kernel
theorem pL_song (hA : AOK) (r : Rt) (kb : Co) : RsB mdL_song r kb (rL_song kb) := by
  have h18 : RsB mdL_song r kb (tL_song_18 kb) := row_0
  have h15 : RsB mdL_song r kb (tL_song_15 kb) := row_B hA h18 qL_song_18 (ck_n rfl) rfl (fun xs ys s => eL_song_18 kb s)
  have h12 : RsB mdL_song r kb (tL_song_12 kb) := row_B hA h15 qL_song_15 (ck_n rfl) rfl (fun xs ys s => eL_song_15 kb (ys.getD 0 0) s)
  have h0 : RsB mdL_song r kb (tL_song_0 kb) := row_B hA h12 qL_song_12 (ck_n rfl) rfl (fun xs ys s => eL_song_12 kb (ys.getD 0 0) s)
  exact row_B hA h0 qL_song_0 (And.intro trivial (And.intro trivial (And.intro trivial (And.intro trivial (And.intro (co_of mkX11_song (iX11_song hA)) (ck_n rfl)))))) rfl (fun xs ys s => eL_song_0 kb (xs.getD 0 0) (xs.getD 1 0) (xs.getD 2 0) s)
theorem iL_song (hA : AOK) : Impl mdL_song gL_song := ent_B (kk := kL_song) (rr := rL_song) (f := fun kb => fun xs ys s => fL_song_0 kb (xs.getD 0 0) (xs.getD 1 0) (xs.getD 2 0) s) (by decide +kernel) rfl (fun _ => rfl) (fun r kb => pL_song hA r kb) (fun kb => ⟨_, rfl⟩) 0 id (fun xs s => rfl) (fun xs => wkl_rf _)
-- FloatparadeLaw.vote(LFloatparade;III[J)I
theorem mkL_vote : MK mdL_vote false := MKb_ok (h1 := 561) (h2 := 69) (h3 := 560) (h4 := 0) (by decide +kernel)
theorem qL_vote_0 : blkb mdL_vote 0 0 bL_vote_0 [[], [], [], [], [], [], [562, 478, 489, 256, 270, 257, 338], [], [], []] = true := by decide +kernel
theorem qL_vote_15 : blkb mdL_vote 0 15 bL_vote_15 [[], [], []] = true := by decide +kernel
theorem qL_vote_19 : blkb mdL_vote 0 19 bL_vote_19 [[], [], []] = true := by decide +kernel
theorem qL_vote_23 : blkb mdL_vote 0 23 bL_vote_23 [[], [], []] = true := by decide +kernel
theorem qL_vote_27 : blkb mdL_vote 0 27 bL_vote_27 [[], []] = true := by decide +kernel
theorem pL_vote (hA : AOK) (r : Rt) (kb : Co) : RsB mdL_vote r kb (rL_vote kb) := by
  have h27 : RsB mdL_vote r kb (tL_vote_27 kb) := row_0
  have h23 : RsB mdL_vote r kb (tL_vote_23 kb) := row_B hA h27 qL_vote_27 (ck_n rfl) rfl (fun xs ys s => eL_vote_27 kb s)
  have h19 : RsB mdL_vote r kb (tL_vote_19 kb) := row_B hA h23 qL_vote_23 (ck_n rfl) rfl (fun xs ys s => eL_vote_23 kb (ys.getD 0 0) s)
  have h15 : RsB mdL_vote r kb (tL_vote_15 kb) := row_B hA h19 qL_vote_19 (ck_n rfl) rfl (fun xs ys s => eL_vote_19 kb (ys.getD 0 0) s)
  have h0 : RsB mdL_vote r kb (tL_vote_0 kb) := row_B hA h15 qL_vote_15 (ck_n rfl) rfl (fun xs ys s => eL_vote_15 kb (ys.getD 0 0) s)
  exact row_B hA h0 qL_vote_0 (And.intro trivial (And.intro trivial (And.intro trivial (And.intro trivial (And.intro trivial (And.intro trivial (And.intro (co_of mkX11_vote (iX11_vote hA)) (ck_n rfl)))))))) rfl (fun xs ys s => eL_vote_0 kb (xs.getD 0 0) (xs.getD 1 0) (xs.getD 2 0) (xs.getD 3 0) (xs.getD 4 0) s)
theorem iL_vote (hA : AOK) : Impl mdL_vote gL_vote := ent_B (kk := kL_vote) (rr := rL_vote) (f := fun kb => fun xs ys s => fL_vote_0 kb (xs.getD 0 0) (xs.getD 1 0) (xs.getD 2 0) (xs.getD 3 0) (xs.getD 4 0) s) (by decide +kernel) rfl (fun _ => rfl) (fun r kb => pL_vote hA r kb) (fun kb => ⟨_, rfl⟩) 0 id (fun xs s => rfl) (fun xs => wkl_rf _)
-- FloatparadeLaw.round(LFloatparade;I[J)I
theorem mkL_round : MK mdL_round false := MKb_ok (h1 := 589) (h2 := 69) (h3 := 588) (h4 := 0) (by decide +kernel)
theorem qL_round_0 : blkb mdL_round 0 0 bL_round_0 [[], [], [], [], [590, 478, 489, 257, 338], [], [], []] = true := by decide +kernel
theorem qL_round_12 : blkb mdL_round 0 12 bL_round_12 [[], [], []] = true := by decide +kernel
theorem qL_round_15 : blkb mdL_round 0 15 bL_round_15 [[], [], []] = true := by decide +kernel
theorem qL_round_18 : blkb mdL_round 0 18 bL_round_18 [[], []] = true := by decide +kernel
theorem pL_round (hA : AOK) (r : Rt) (kb : Co) : RsB mdL_round r kb (rL_round kb) := by
  have h18 : RsB mdL_round r kb (tL_round_18 kb) := row_0
  have h15 : RsB mdL_round r kb (tL_round_15 kb) := row_B hA h18 qL_round_18 (ck_n rfl) rfl (fun xs ys s => eL_round_18 kb s)
  have h12 : RsB mdL_round r kb (tL_round_12 kb) := row_B hA h15 qL_round_15 (ck_n rfl) rfl (fun xs ys s => eL_round_15 kb (ys.getD 0 0) s)
  have h0 : RsB mdL_round r kb (tL_round_0 kb) := row_B hA h12 qL_round_12 (ck_n rfl) rfl (fun xs ys s => eL_round_12 kb (ys.getD 0 0) s)
  exact row_B hA h0 qL_round_0 (And.intro trivial (And.intro trivial (And.intro trivial (And.intro trivial (And.intro (co_of mkX11_round (iX11_round hA)) (ck_n rfl)))))) rfl (fun xs ys s => eL_round_0 kb (xs.getD 0 0) (xs.getD 1 0) (xs.getD 2 0) s)
theorem iL_round (hA : AOK) : Impl mdL_round gL_round := ent_B (kk := kL_round) (rr := rL_round) (f := fun kb => fun xs ys s => fL_round_0 kb (xs.getD 0 0) (xs.getD 1 0) (xs.getD 2 0) s) (by decide +kernel) rfl (fun _ => rfl) (fun r kb => pL_round hA r kb) (fun kb => ⟨_, rfl⟩) 0 id (fun xs s => rfl) (fun xs => wkl_rf _)
-- FloatparadeLaw.street(LFloatparade;IIIIII[J)I
theorem mkL_street : MK mdL_street false := MKb_ok (h1 := 602) (h2 := 69) (h3 := 601) (h4 := 0) (by decide +kernel)
theorem qL_street_0 : blkb mdL_street 0 0 bL_street_0 [[], [], [], [], [], [], [], [], [], [603, 478, 489, 256, 270, 257, 338], [], [], []] = true := by decide +kernel
theorem qL_street_21 : blkb mdL_street 0 21 bL_street_21 [[], [], []] = true := by decide +kernel
theorem qL_street_25 : blkb mdL_street 0 25 bL_street_25 [[], [], []] = true := by decide +kernel
theorem qL_street_29 : blkb mdL_street 0 29 bL_street_29 [[], [], []] = true := by decide +kernel
theorem qL_street_33 : blkb mdL_street 0 33 bL_street_33 [[], []] = true := by decide +kernel
theorem pL_street (hA : AOK) (r : Rt) (kb : Co) : RsB mdL_street r kb (rL_street kb) := by
  have h33 : RsB mdL_street r kb (tL_street_33 kb) := row_0
  have h29 : RsB mdL_street r kb (tL_street_29 kb) := row_B hA h33 qL_street_33 (ck_n rfl) rfl (fun xs ys s => eL_street_33 kb s)
  have h25 : RsB mdL_street r kb (tL_street_25 kb) := row_B hA h29 qL_street_29 (ck_n rfl) rfl (fun xs ys s => eL_street_29 kb (ys.getD 0 0) s)
  have h21 : RsB mdL_street r kb (tL_street_21 kb) := row_B hA h25 qL_street_25 (ck_n rfl) rfl (fun xs ys s => eL_street_25 kb (ys.getD 0 0) s)
  have h0 : RsB mdL_street r kb (tL_street_0 kb) := row_B hA h21 qL_street_21 (ck_n rfl) rfl (fun xs ys s => eL_street_21 kb (ys.getD 0 0) s)
  exact row_B hA h0 qL_street_0 (And.intro trivial (And.intro trivial (And.intro trivial (And.intro trivial (And.intro trivial (And.intro trivial (And.intro trivial (And.intro trivial (And.intro trivial (And.intro (co_of mkX11_street (iX11_street hA)) (ck_n rfl))))))))))) rfl (fun xs ys s => eL_street_0 kb (xs.getD 0 0) (xs.getD 1 0) (xs.getD 2 0) (xs.getD 3 0) (xs.getD 4 0) (xs.getD 5 0) (xs.getD 6 0) (xs.getD 7 0) s)
theorem iL_street (hA : AOK) : Impl mdL_street gL_street := ent_B (kk := kL_street) (rr := rL_street) (f := fun kb => fun xs ys s => fL_street_0 kb (xs.getD 0 0) (xs.getD 1 0) (xs.getD 2 0) (xs.getD 3 0) (xs.getD 4 0) (xs.getD 5 0) (xs.getD 6 0) (xs.getD 7 0) s) (by decide +kernel) rfl (fun _ => rfl) (fun r kb => pL_street hA r kb) (fun kb => ⟨_, rfl⟩) 0 id (fun xs s => rfl) (fun xs => wkl_rf _)
-- FloatparadeLaw.route(LFloatparade;II)I
theorem mkL_route : MK mdL_route false := MKb_ok (h1 := 659) (h2 := 69) (h3 := 658) (h4 := 0) (by decide +kernel)
theorem qL_route_0 : blkb mdL_route 0 0 bL_route_0 [[], [], [], [660, 478, 489, 256, 270, 257, 338], []] = true := by decide +kernel
theorem qL_route_9 : blkb mdL_route 0 9 bL_route_9 [[], [], []] = true := by decide +kernel
theorem qL_route_12 : blkb mdL_route 0 12 bL_route_12 [[], [], []] = true := by decide +kernel
theorem qL_route_15 : blkb mdL_route 0 15 bL_route_15 [[], [], []] = true := by decide +kernel
theorem qL_route_18 : blkb mdL_route 0 18 bL_route_18 [[], []] = true := by decide +kernel
theorem pL_route (hA : AOK) (r : Rt) (kb : Co) : RsB mdL_route r kb (rL_route kb) := by
  have h18 : RsB mdL_route r kb (tL_route_18 kb) := row_0
  have h15 : RsB mdL_route r kb (tL_route_15 kb) := row_B hA h18 qL_route_18 (ck_n rfl) rfl (fun xs ys s => eL_route_18 kb s)
  have h12 : RsB mdL_route r kb (tL_route_12 kb) := row_B hA h15 qL_route_15 (ck_n rfl) rfl (fun xs ys s => eL_route_15 kb (ys.getD 0 0) s)
  have h9 : RsB mdL_route r kb (tL_route_9 kb) := row_B hA h12 qL_route_12 (ck_n rfl) rfl (fun xs ys s => eL_route_12 kb (ys.getD 0 0) s)
  have h0 : RsB mdL_route r kb (tL_route_0 kb) := row_B hA h9 qL_route_9 (ck_n rfl) rfl (fun xs ys s => eL_route_9 kb (ys.getD 0 0) s)
  exact row_B hA h0 qL_route_0 (And.intro trivial (And.intro trivial (And.intro trivial (And.intro (co_of mkX11_route (iX11_route hA)) (ck_n rfl))))) rfl (fun xs ys s => eL_route_0 kb (xs.getD 0 0) (xs.getD 1 0) (xs.getD 2 0) s)
theorem iL_route (hA : AOK) : Impl mdL_route gL_route := ent_B (kk := kL_route) (rr := rL_route) (f := fun kb => fun xs ys s => fL_route_0 kb (xs.getD 0 0) (xs.getD 1 0) (xs.getD 2 0) s) (by decide +kernel) rfl (fun _ => rfl) (fun r kb => pL_route hA r kb) (fun kb => ⟨_, rfl⟩) 0 id (fun xs s => rfl) (fun xs => wkl_rf _)
-- FloatparadeLaw.goOn(LFloatparade;II[J)I
theorem mkL_goOn : MK mdL_goOn false := MKb_ok (h1 := 680) (h2 := 69) (h3 := 679) (h4 := 0) (by decide +kernel)
theorem qL_goOn_0 : blkb mdL_goOn 0 0 bL_goOn_0 [[], [], [], [], [], [681, 478, 489, 256, 270, 257, 338], [], [], []] = true := by decide +kernel
theorem qL_goOn_13 : blkb mdL_goOn 0 13 bL_goOn_13 [[], [], []] = true := by decide +kernel
theorem qL_goOn_17 : blkb mdL_goOn 0 17 bL_goOn_17 [[], [], []] = true := by decide +kernel
theorem qL_goOn_21 : blkb mdL_goOn 0 21 bL_goOn_21 [[], [], []] = true := by decide +kernel
theorem qL_goOn_25 : blkb mdL_goOn 0 25 bL_goOn_25 [[], []] = true := by decide +kernel
theorem pL_goOn (hA : AOK) (r : Rt) (kb : Co) : RsB mdL_goOn r kb (rL_goOn kb) := by
  have h25 : RsB mdL_goOn r kb (tL_goOn_25 kb) := row_0
  have h21 : RsB mdL_goOn r kb (tL_goOn_21 kb) := row_B hA h25 qL_goOn_25 (ck_n rfl) rfl (fun xs ys s => eL_goOn_25 kb s)
  have h17 : RsB mdL_goOn r kb (tL_goOn_17 kb) := row_B hA h21 qL_goOn_21 (ck_n rfl) rfl (fun xs ys s => eL_goOn_21 kb (ys.getD 0 0) s)
  have h13 : RsB mdL_goOn r kb (tL_goOn_13 kb) := row_B hA h17 qL_goOn_17 (ck_n rfl) rfl (fun xs ys s => eL_goOn_17 kb (ys.getD 0 0) s)
  have h0 : RsB mdL_goOn r kb (tL_goOn_0 kb) := row_B hA h13 qL_goOn_13 (ck_n rfl) rfl (fun xs ys s => eL_goOn_13 kb (ys.getD 0 0) s)
  exact row_B hA h0 qL_goOn_0 (And.intro trivial (And.intro trivial (And.intro trivial (And.intro trivial (And.intro trivial (And.intro (co_of mkX11_goOn (iX11_goOn hA)) (ck_n rfl))))))) rfl (fun xs ys s => eL_goOn_0 kb (xs.getD 0 0) (xs.getD 1 0) (xs.getD 2 0) (xs.getD 3 0) s)
theorem iL_goOn (hA : AOK) : Impl mdL_goOn gL_goOn := ent_B (kk := kL_goOn) (rr := rL_goOn) (f := fun kb => fun xs ys s => fL_goOn_0 kb (xs.getD 0 0) (xs.getD 1 0) (xs.getD 2 0) (xs.getD 3 0) s) (by decide +kernel) rfl (fun _ => rfl) (fun r kb => pL_goOn hA r kb) (fun kb => ⟨_, rfl⟩) 0 id (fun xs s => rfl) (fun xs => wkl_rf _)
-- FloatparadeLaw.jury(LFloatparade;IZ[J)I
theorem mkL_jury : MK mdL_jury false := MKb_ok (h1 := 717) (h2 := 69) (h3 := 716) (h4 := 0) (by decide +kernel)
theorem qL_jury_0 : blkb mdL_jury 0 0 bL_jury_0 [[], [], [], [], [], [718, 478, 489], [], [], []] = true := by decide +kernel
theorem qL_jury_15 : blkb mdL_jury 16 15 bL_jury_15 [[]] = true := by decide +kernel
theorem qL_jury_16 : blkb mdL_jury 0 16 bL_jury_16 [[], []] = true := by decide +kernel
theorem qL_jury_20 : blkb mdL_jury 0 20 bL_jury_20 [[], [], []] = true := by decide +kernel
theorem qL_jury_24 : blkb mdL_jury 0 24 bL_jury_24 [[], []] = true := by decide +kernel
theorem pL_jury (hA : AOK) (r : Rt) (kb : Co) : RsB mdL_jury r kb (rL_jury kb) := by
  have h24 : RsB mdL_jury r kb (tL_jury_24 kb) := row_0
  have h20 : RsB mdL_jury r kb (tL_jury_20 kb) := row_B hA h24 qL_jury_24 (ck_n rfl) rfl (fun xs ys s => eL_jury_24 kb s)
  have h16 : RsB mdL_jury r kb (tL_jury_16 kb) := row_B hA h20 qL_jury_20 (ck_n rfl) rfl (fun xs ys s => eL_jury_20 kb (ys.getD 0 0) s)
  have h15 : RsB mdL_jury r kb (tL_jury_15 kb) := row_B hA h16 qL_jury_16 (ck_n rfl) rfl (fun xs ys s => eL_jury_16 kb (ys.getD 0 0) (ys.getD 1 0) (ys.getD 2 0) s)
  have h0 : RsB mdL_jury r kb (tL_jury_0 kb) := row_B hA h15 qL_jury_15 (ck_n rfl) rfl (fun xs ys s => eL_jury_15 kb (ys.getD 0 0) (ys.getD 1 0) s)
  exact row_B hA h0 qL_jury_0 (And.intro trivial (And.intro trivial (And.intro trivial (And.intro trivial (And.intro trivial (And.intro (co_of mkX11_jury (iX11_jury hA)) (ck_n rfl))))))) rfl (fun xs ys s => eL_jury_0 kb (xs.getD 0 0) (xs.getD 1 0) (xs.getD 2 0) (xs.getD 3 0) s)
theorem iL_jury (hA : AOK) : Impl mdL_jury gL_jury := ent_B (kk := kL_jury) (rr := rL_jury) (f := fun kb => fun xs ys s => fL_jury_0 kb (xs.getD 0 0) (xs.getD 1 0) (xs.getD 2 0) (xs.getD 3 0) s) (by decide +kernel) rfl (fun _ => rfl) (fun r kb => pL_jury hA r kb) (fun kb => ⟨_, rfl⟩) 0 id (fun xs s => rfl) (fun xs => wkl_rf _)
-- FloatparadeLaw.build(LFloatparade;IIIII[J)I
theorem mkL_build : MK mdL_build false := MKb_ok (h1 := 732) (h2 := 69) (h3 := 731) (h4 := 0) (by decide +kernel)
theorem qL_build_0 : blkb mdL_build 0 0 bL_build_0 [[], [], [], [], [], [], [], [], [733, 478, 489, 256, 270, 257, 338], [], [], []] = true := by decide +kernel
theorem qL_build_19 : blkb mdL_build 0 19 bL_build_19 [[], [], []] = true := by decide +kernel
theorem qL_build_23 : blkb mdL_build 0 23 bL_build_23 [[], [], []] = true := by decide +kernel
theorem qL_build_27 : blkb mdL_build 0 27 bL_build_27 [[], [], []] = true := by decide +kernel
theorem qL_build_31 : blkb mdL_build 0 31 bL_build_31 [[], []] = true := by decide +kernel
theorem pL_build (hA : AOK) (r : Rt) (kb : Co) : RsB mdL_build r kb (rL_build kb) := by
  have h31 : RsB mdL_build r kb (tL_build_31 kb) := row_0
  have h27 : RsB mdL_build r kb (tL_build_27 kb) := row_B hA h31 qL_build_31 (ck_n rfl) rfl (fun xs ys s => eL_build_31 kb s)
  have h23 : RsB mdL_build r kb (tL_build_23 kb) := row_B hA h27 qL_build_27 (ck_n rfl) rfl (fun xs ys s => eL_build_27 kb (ys.getD 0 0) s)
  have h19 : RsB mdL_build r kb (tL_build_19 kb) := row_B hA h23 qL_build_23 (ck_n rfl) rfl (fun xs ys s => eL_build_23 kb (ys.getD 0 0) s)
  have h0 : RsB mdL_build r kb (tL_build_0 kb) := row_B hA h19 qL_build_19 (ck_n rfl) rfl (fun xs ys s => eL_build_19 kb (ys.getD 0 0) s)
  exact row_B hA h0 qL_build_0 (And.intro trivial (And.intro trivial (And.intro trivial (And.intro trivial (And.intro trivial (And.intro trivial (And.intro trivial (And.intro trivial (And.intro (co_of mkX11_build (iX11_build hA)) (ck_n rfl)))))))))) rfl (fun xs ys s => eL_build_0 kb (xs.getD 0 0) (xs.getD 1 0) (xs.getD 2 0) (xs.getD 3 0) (xs.getD 4 0) (xs.getD 5 0) (xs.getD 6 0) s)
theorem iL_build (hA : AOK) : Impl mdL_build gL_build := ent_B (kk := kL_build) (rr := rL_build) (f := fun kb => fun xs ys s => fL_build_0 kb (xs.getD 0 0) (xs.getD 1 0) (xs.getD 2 0) (xs.getD 3 0) (xs.getD 4 0) (xs.getD 5 0) (xs.getD 6 0) s) (by decide +kernel) rfl (fun _ => rfl) (fun r kb => pL_build hA r kb) (fun kb => ⟨_, rfl⟩) 0 id (fun xs s => rfl) (fun xs => wkl_rf _)
-- FloatparadeLaw.cut(LFloatparade;IIIIII[J)I
theorem mkL_cut : MK mdL_cut false := MKb_ok (h1 := 774) (h2 := 69) (h3 := 773) (h4 := 0) (by decide +kernel)
theorem qL_cut_0 : blkb mdL_cut 0 0 bL_cut_0 [[], [], [], [], [], [], [], [], [], [775, 478, 489, 256, 270, 257, 338], [], [], []] = true := by decide +kernel
theorem qL_cut_21 : blkb mdL_cut 0 21 bL_cut_21 [[], [], []] = true := by decide +kernel
theorem qL_cut_25 : blkb mdL_cut 0 25 bL_cut_25 [[], [], []] = true := by decide +kernel
theorem qL_cut_29 : blkb mdL_cut 0 29 bL_cut_29 [[], [], []] = true := by decide +kernel
theorem qL_cut_33 : blkb mdL_cut 0 33 bL_cut_33 [[], []] = true := by decide +kernel
theorem pL_cut (hA : AOK) (r : Rt) (kb : Co) : RsB mdL_cut r kb (rL_cut kb) := by
  have h33 : RsB mdL_cut r kb (tL_cut_33 kb) := row_0
  have h29 : RsB mdL_cut r kb (tL_cut_29 kb) := row_B hA h33 qL_cut_33 (ck_n rfl) rfl (fun xs ys s => eL_cut_33 kb s)
  have h25 : RsB mdL_cut r kb (tL_cut_25 kb) := row_B hA h29 qL_cut_29 (ck_n rfl) rfl (fun xs ys s => eL_cut_29 kb (ys.getD 0 0) s)
  have h21 : RsB mdL_cut r kb (tL_cut_21 kb) := row_B hA h25 qL_cut_25 (ck_n rfl) rfl (fun xs ys s => eL_cut_25 kb (ys.getD 0 0) s)
  have h0 : RsB mdL_cut r kb (tL_cut_0 kb) := row_B hA h21 qL_cut_21 (ck_n rfl) rfl (fun xs ys s => eL_cut_21 kb (ys.getD 0 0) s)
  exact row_B hA h0 qL_cut_0 (And.intro trivial (And.intro trivial (And.intro trivial (And.intro trivial (And.intro trivial (And.intro trivial (And.intro trivial (And.intro trivial (And.intro trivial (And.intro (co_of mkX11_cut (iX11_cut hA)) (ck_n rfl))))))))))) rfl (fun xs ys s => eL_cut_0 kb (xs.getD 0 0) (xs.getD 1 0) (xs.getD 2 0) (xs.getD 3 0) (xs.getD 4 0) (xs.getD 5 0) (xs.getD 6 0) (xs.getD 7 0) s)
theorem iL_cut (hA : AOK) : Impl mdL_cut gL_cut := ent_B (kk := kL_cut) (rr := rL_cut) (f := fun kb => fun xs ys s => fL_cut_0 kb (xs.getD 0 0) (xs.getD 1 0) (xs.getD 2 0) (xs.getD 3 0) (xs.getD 4 0) (xs.getD 5 0) (xs.getD 6 0) (xs.getD 7 0) s) (by decide +kernel) rfl (fun _ => rfl) (fun r kb => pL_cut hA r kb) (fun kb => ⟨_, rfl⟩) 0 id (fun xs s => rfl) (fun xs => wkl_rf _)
-- FloatparadeLaw.fits(LFloatparade;II[J)I
theorem mkL_fits : MK mdL_fits false := MKb_ok (h1 := 795) (h2 := 69) (h3 := 794) (h4 := 0) (by decide +kernel)
theorem qL_fits_0 : blkb mdL_fits 0 0 bL_fits_0 [[], [], [], [], [], [796, 478, 489], [], [], []] = true := by decide +kernel
theorem qL_fits_15 : blkb mdL_fits 16 15 bL_fits_15 [[]] = true := by decide +kernel
theorem qL_fits_16 : blkb mdL_fits 0 16 bL_fits_16 [[], []] = true := by decide +kernel
theorem qL_fits_20 : blkb mdL_fits 0 20 bL_fits_20 [[], [], []] = true := by decide +kernel
theorem qL_fits_24 : blkb mdL_fits 0 24 bL_fits_24 [[], []] = true := by decide +kernel
theorem pL_fits (hA : AOK) (r : Rt) (kb : Co) : RsB mdL_fits r kb (rL_fits kb) := by
  have h24 : RsB mdL_fits r kb (tL_fits_24 kb) := row_0
  have h20 : RsB mdL_fits r kb (tL_fits_20 kb) := row_B hA h24 qL_fits_24 (ck_n rfl) rfl (fun xs ys s => eL_fits_24 kb s)
  have h16 : RsB mdL_fits r kb (tL_fits_16 kb) := row_B hA h20 qL_fits_20 (ck_n rfl) rfl (fun xs ys s => eL_fits_20 kb (ys.getD 0 0) s)
  have h15 : RsB mdL_fits r kb (tL_fits_15 kb) := row_B hA h16 qL_fits_16 (ck_n rfl) rfl (fun xs ys s => eL_fits_16 kb (ys.getD 0 0) (ys.getD 1 0) (ys.getD 2 0) s)
  have h0 : RsB mdL_fits r kb (tL_fits_0 kb) := row_B hA h15 qL_fits_15 (ck_n rfl) rfl (fun xs ys s => eL_fits_15 kb (ys.getD 0 0) (ys.getD 1 0) s)
  exact row_B hA h0 qL_fits_0 (And.intro trivial (And.intro trivial (And.intro trivial (And.intro trivial (And.intro trivial (And.intro (co_of mkX11_fits (iX11_fits hA)) (ck_n rfl))))))) rfl (fun xs ys s => eL_fits_0 kb (xs.getD 0 0) (xs.getD 1 0) (xs.getD 2 0) (xs.getD 3 0) s)
theorem iL_fits (hA : AOK) : Impl mdL_fits gL_fits := ent_B (kk := kL_fits) (rr := rL_fits) (f := fun kb => fun xs ys s => fL_fits_0 kb (xs.getD 0 0) (xs.getD 1 0) (xs.getD 2 0) (xs.getD 3 0) s) (by decide +kernel) rfl (fun _ => rfl) (fun r kb => pL_fits hA r kb) (fun kb => ⟨_, rfl⟩) 0 id (fun xs s => rfl) (fun xs => wkl_rf _)
-- FloatparadeLaw.enter(LFloatparade;II[J)I
theorem mkL_enter : MK mdL_enter false := MKb_ok (h1 := 814) (h2 := 69) (h3 := 813) (h4 := 0) (by decide +kernel)
theorem qL_enter_0 : blkb mdL_enter 0 0 bL_enter_0 [[], [], [], [], [], [815, 478, 489, 256, 270, 257, 338], [], [], []] = true := by decide +kernel
theorem qL_enter_13 : blkb mdL_enter 0 13 bL_enter_13 [[], [], []] = true := by decide +kernel
theorem qL_enter_17 : blkb mdL_enter 0 17 bL_enter_17 [[], [], []] = true := by decide +kernel
theorem qL_enter_21 : blkb mdL_enter 0 21 bL_enter_21 [[], [], []] = true := by decide +kernel
theorem qL_enter_25 : blkb mdL_enter 0 25 bL_enter_25 [[], []] = true := by decide +kernel
theorem pL_enter (hA : AOK) (r : Rt) (kb : Co) : RsB mdL_enter r kb (rL_enter kb) := by
  have h25 : RsB mdL_enter r kb (tL_enter_25 kb) := row_0
  have h21 : RsB mdL_enter r kb (tL_enter_21 kb) := row_B hA h25 qL_enter_25 (ck_n rfl) rfl (fun xs ys s => eL_enter_25 kb s)
  have h17 : RsB mdL_enter r kb (tL_enter_17 kb) := row_B hA h21 qL_enter_21 (ck_n rfl) rfl (fun xs ys s => eL_enter_21 kb (ys.getD 0 0) s)
  have h13 : RsB mdL_enter r kb (tL_enter_13 kb) := row_B hA h17 qL_enter_17 (ck_n rfl) rfl (fun xs ys s => eL_enter_17 kb (ys.getD 0 0) s)
  have h0 : RsB mdL_enter r kb (tL_enter_0 kb) := row_B hA h13 qL_enter_13 (ck_n rfl) rfl (fun xs ys s => eL_enter_13 kb (ys.getD 0 0) s)
  exact row_B hA h0 qL_enter_0 (And.intro trivial (And.intro trivial (And.intro trivial (And.intro trivial (And.intro trivial (And.intro (co_of mkX11_enter (iX11_enter hA)) (ck_n rfl))))))) rfl (fun xs ys s => eL_enter_0 kb (xs.getD 0 0) (xs.getD 1 0) (xs.getD 2 0) (xs.getD 3 0) s)
theorem iL_enter (hA : AOK) : Impl mdL_enter gL_enter := ent_B (kk := kL_enter) (rr := rL_enter) (f := fun kb => fun xs ys s => fL_enter_0 kb (xs.getD 0 0) (xs.getD 1 0) (xs.getD 2 0) (xs.getD 3 0) s) (by decide +kernel) rfl (fun _ => rfl) (fun r kb => pL_enter hA r kb) (fun kb => ⟨_, rfl⟩) 0 id (fun xs s => rfl) (fun xs => wkl_rf _)
-- FloatparadeLaw.change(LFloatparade;II[J)I
theorem mkL_change : MK mdL_change false := MKb_ok (h1 := 876) (h2 := 69) (h3 := 875) (h4 := 0) (by decide +kernel)
theorem qL_change_0 : blkb mdL_change 0 0 bL_change_0 [[], [], [], [], [], [877, 478, 489, 256, 270, 257, 338], [], [], []] = true := by decide +kernel
theorem qL_change_15 : blkb mdL_change 16 15 bL_change_15 [[]] = true := by decide +kernel
theorem qL_change_16 : blkb mdL_change 0 16 bL_change_16 [[], []] = true := by decide +kernel
theorem qL_change_20 : blkb mdL_change 0 20 bL_change_20 [[], [], []] = true := by decide +kernel
theorem qL_change_24 : blkb mdL_change 0 24 bL_change_24 [[], [], []] = true := by decide +kernel
theorem qL_change_28 : blkb mdL_change 0 28 bL_change_28 [[], [], []] = true := by decide +kernel
theorem qL_change_32 : blkb mdL_change 0 32 bL_change_32 [[], []] = true := by decide +kernel
theorem pL_change (hA : AOK) (r : Rt) (kb : Co) : RsB mdL_change r kb (rL_change kb) := by
  have h32 : RsB mdL_change r kb (tL_change_32 kb) := row_0
  have h28 : RsB mdL_change r kb (tL_change_28 kb) := row_B hA h32 qL_change_32 (ck_n rfl) rfl (fun xs ys s => eL_change_32 kb s)
  have h24 : RsB mdL_change r kb (tL_change_24 kb) := row_B hA h28 qL_change_28 (ck_n rfl) rfl (fun xs ys s => eL_change_28 kb (ys.getD 0 0) s)
  have h20 : RsB mdL_change r kb (tL_change_20 kb) := row_B hA h24 qL_change_24 (ck_n rfl) rfl (fun xs ys s => eL_change_24 kb (ys.getD 0 0) s)
  have h16 : RsB mdL_change r kb (tL_change_16 kb) := row_B hA h20 qL_change_20 (ck_n rfl) rfl (fun xs ys s => eL_change_20 kb (ys.getD 0 0) s)
  have h15 : RsB mdL_change r kb (tL_change_15 kb) := row_B hA h16 qL_change_16 (ck_n rfl) rfl (fun xs ys s => eL_change_16 kb (ys.getD 0 0) (ys.getD 1 0) (ys.getD 2 0) s)
  have h0 : RsB mdL_change r kb (tL_change_0 kb) := row_B hA h15 qL_change_15 (ck_n rfl) rfl (fun xs ys s => eL_change_15 kb (ys.getD 0 0) (ys.getD 1 0) s)
  exact row_B hA h0 qL_change_0 (And.intro trivial (And.intro trivial (And.intro trivial (And.intro trivial (And.intro trivial (And.intro (co_of mkX11_change (iX11_change hA)) (ck_n rfl))))))) rfl (fun xs ys s => eL_change_0 kb (xs.getD 0 0) (xs.getD 1 0) (xs.getD 2 0) (xs.getD 3 0) s)
theorem iL_change (hA : AOK) : Impl mdL_change gL_change := ent_B (kk := kL_change) (rr := rL_change) (f := fun kb => fun xs ys s => fL_change_0 kb (xs.getD 0 0) (xs.getD 1 0) (xs.getD 2 0) (xs.getD 3 0) s) (by decide +kernel) rfl (fun _ => rfl) (fun r kb => pL_change hA r kb) (fun kb => ⟨_, rfl⟩) 0 id (fun xs s => rfl) (fun xs => wkl_rf _)
-- FloatparadeLaw.order(LFloatparade;II[J)I
theorem mkL_order : MK mdL_order false := MKb_ok (h1 := 898) (h2 := 69) (h3 := 897) (h4 := 0) (by decide +kernel)
theorem qL_order_0 : blkb mdL_order 0 0 bL_order_0 [[], [], [], [], [], [899, 478, 489, 256, 270], [], [], []] = true := by decide +kernel
theorem qL_order_13 : blkb mdL_order 0 13 bL_order_13 [[], [], []] = true := by decide +kernel
theorem qL_order_17 : blkb mdL_order 0 17 bL_order_17 [[], [], []] = true := by decide +kernel
theorem qL_order_21 : blkb mdL_order 0 21 bL_order_21 [[], []] = true := by decide +kernel
theorem pL_order (hA : AOK) (r : Rt) (kb : Co) : RsB mdL_order r kb (rL_order kb) := by
  have h21 : RsB mdL_order r kb (tL_order_21 kb) := row_0
  have h17 : RsB mdL_order r kb (tL_order_17 kb) := row_B hA h21 qL_order_21 (ck_n rfl) rfl (fun xs ys s => eL_order_21 kb s)
  have h13 : RsB mdL_order r kb (tL_order_13 kb) := row_B hA h17 qL_order_17 (ck_n rfl) rfl (fun xs ys s => eL_order_17 kb (ys.getD 0 0) s)
  have h0 : RsB mdL_order r kb (tL_order_0 kb) := row_B hA h13 qL_order_13 (ck_n rfl) rfl (fun xs ys s => eL_order_13 kb (ys.getD 0 0) s)
  exact row_B hA h0 qL_order_0 (And.intro trivial (And.intro trivial (And.intro trivial (And.intro trivial (And.intro trivial (And.intro (co_of mkX11_order (iX11_order hA)) (ck_n rfl))))))) rfl (fun xs ys s => eL_order_0 kb (xs.getD 0 0) (xs.getD 1 0) (xs.getD 2 0) (xs.getD 3 0) s)
theorem iL_order (hA : AOK) : Impl mdL_order gL_order := ent_B (kk := kL_order) (rr := rL_order) (f := fun kb => fun xs ys s => fL_order_0 kb (xs.getD 0 0) (xs.getD 1 0) (xs.getD 2 0) (xs.getD 3 0) s) (by decide +kernel) rfl (fun _ => rfl) (fun r kb => pL_order hA r kb) (fun kb => ⟨_, rfl⟩) 0 id (fun xs s => rfl) (fun xs => wkl_rf _)
-- FloatparadeLaw.begin(LFloatparade;III[J)I
theorem mkL_begin : MK mdL_begin false := MKb_ok (h1 := 910) (h2 := 69) (h3 := 909) (h4 := 0) (by decide +kernel)
theorem qL_begin_0 : blkb mdL_begin 0 0 bL_begin_0 [[], [], [], [], [], [], [911, 256, 270, 257, 338], [], [], []] = true := by decide +kernel
theorem qL_begin_15 : blkb mdL_begin 0 15 bL_begin_15 [[], [], []] = true := by decide +kernel
theorem qL_begin_19 : blkb mdL_begin 0 19 bL_begin_19 [[], [], []] = true := by decide +kernel
theorem qL_begin_23 : blkb mdL_begin 0 23 bL_begin_23 [[], []] = true := by decide +kernel
theorem pL_begin (hA : AOK) (r : Rt) (kb : Co) : RsB mdL_begin r kb (rL_begin kb) := by
  have h23 : RsB mdL_begin r kb (tL_begin_23 kb) := row_0
  have h19 : RsB mdL_begin r kb (tL_begin_19 kb) := row_B hA h23 qL_begin_23 (ck_n rfl) rfl (fun xs ys s => eL_begin_23 kb s)
  have h15 : RsB mdL_begin r kb (tL_begin_15 kb) := row_B hA h19 qL_begin_19 (ck_n rfl) rfl (fun xs ys s => eL_begin_19 kb (ys.getD 0 0) s)
  have h0 : RsB mdL_begin r kb (tL_begin_0 kb) := row_B hA h15 qL_begin_15 (ck_n rfl) rfl (fun xs ys s => eL_begin_15 kb (ys.getD 0 0) s)
  exact row_B hA h0 qL_begin_0 (And.intro trivial (And.intro trivial (And.intro trivial (And.intro trivial (And.intro trivial (And.intro trivial (And.intro (co_of mkX11_begin (iX11_begin hA)) (ck_n rfl)))))))) rfl (fun xs ys s => eL_begin_0 kb (xs.getD 0 0) (xs.getD 1 0) (xs.getD 2 0) (xs.getD 3 0) (xs.getD 4 0) s)
theorem iL_begin (hA : AOK) : Impl mdL_begin gL_begin := ent_B (kk := kL_begin) (rr := rL_begin) (f := fun kb => fun xs ys s => fL_begin_0 kb (xs.getD 0 0) (xs.getD 1 0) (xs.getD 2 0) (xs.getD 3 0) (xs.getD 4 0) s) (by decide +kernel) rfl (fun _ => rfl) (fun r kb => pL_begin hA r kb) (fun kb => ⟨_, rfl⟩) 0 id (fun xs s => rfl) (fun xs => wkl_rf _)
-- FloatparadeLaw.stop(LFloatparade;III[J)I
theorem mkL_stop : MK mdL_stop false := MKb_ok (h1 := 978) (h2 := 69) (h3 := 977) (h4 := 0) (by decide +kernel)
theorem qL_stop_0 : blkb mdL_stop 0 0 bL_stop_0 [[], [], [], [], [], [], [979, 256, 270, 257, 338, 478, 489], [], [], []] = true := by decide +kernel
theorem qL_stop_15 : blkb mdL_stop 0 15 bL_stop_15 [[], [], []] = true := by decide +kernel
theorem qL_stop_19 : blkb mdL_stop 0 19 bL_stop_19 [[], [], []] = true := by decide +kernel
theorem qL_stop_23 : blkb mdL_stop 0 23 bL_stop_23 [[], [], []] = true := by decide +kernel
theorem qL_stop_27 : blkb mdL_stop 0 27 bL_stop_27 [[], []] = true := by decide +kernel
theorem pL_stop (hA : AOK) (r : Rt) (kb : Co) : RsB mdL_stop r kb (rL_stop kb) := by
  have h27 : RsB mdL_stop r kb (tL_stop_27 kb) := row_0
  have h23 : RsB mdL_stop r kb (tL_stop_23 kb) := row_B hA h27 qL_stop_27 (ck_n rfl) rfl (fun xs ys s => eL_stop_27 kb s)
  have h19 : RsB mdL_stop r kb (tL_stop_19 kb) := row_B hA h23 qL_stop_23 (ck_n rfl) rfl (fun xs ys s => eL_stop_23 kb (ys.getD 0 0) s)
  have h15 : RsB mdL_stop r kb (tL_stop_15 kb) := row_B hA h19 qL_stop_19 (ck_n rfl) rfl (fun xs ys s => eL_stop_19 kb (ys.getD 0 0) s)
  have h0 : RsB mdL_stop r kb (tL_stop_0 kb) := row_B hA h15 qL_stop_15 (ck_n rfl) rfl (fun xs ys s => eL_stop_15 kb (ys.getD 0 0) s)
  exact row_B hA h0 qL_stop_0 (And.intro trivial (And.intro trivial (And.intro trivial (And.intro trivial (And.intro trivial (And.intro trivial (And.intro (co_of mkX11_stop (iX11_stop hA)) (ck_n rfl)))))))) rfl (fun xs ys s => eL_stop_0 kb (xs.getD 0 0) (xs.getD 1 0) (xs.getD 2 0) (xs.getD 3 0) (xs.getD 4 0) s)
theorem iL_stop (hA : AOK) : Impl mdL_stop gL_stop := ent_B (kk := kL_stop) (rr := rL_stop) (f := fun kb => fun xs ys s => fL_stop_0 kb (xs.getD 0 0) (xs.getD 1 0) (xs.getD 2 0) (xs.getD 3 0) (xs.getD 4 0) s) (by decide +kernel) rfl (fun _ => rfl) (fun r kb => pL_stop hA r kb) (fun kb => ⟨_, rfl⟩) 0 id (fun xs s => rfl) (fun xs => wkl_rf _)
-- FloatparadeLaw.ambulance(LFloatparade;I[J)I
theorem mkL_ambulance : MK mdL_ambulance false := MKb_ok (h1 := 1005) (h2 := 69) (h3 := 1004) (h4 := 0) (by decide +kernel)
theorem qL_ambulance_0 : blkb mdL_ambulance 0 0 bL_ambulance_0 [[], [], [], [], [1006, 478, 489], [], [], []] = true := by decide +kernel
theorem qL_ambulance_12 : blkb mdL_ambulance 0 12 bL_ambulance_12 [[], [], []] = true := by decide +kernel
theorem qL_ambulance_15 : blkb mdL_ambulance 0 15 bL_ambulance_15 [[], []] = true := by decide +kernel
theorem pL_ambulance (hA : AOK) (r : Rt) (kb : Co) : RsB mdL_ambulance r kb (rL_ambulance kb) := by
  have h15 : RsB mdL_ambulance r kb (tL_ambulance_15 kb) := row_0
  have h12 : RsB mdL_ambulance r kb (tL_ambulance_12 kb) := row_B hA h15 qL_ambulance_15 (ck_n rfl) rfl (fun xs ys s => eL_ambulance_15 kb s)
  have h0 : RsB mdL_ambulance r kb (tL_ambulance_0 kb) := row_B hA h12 qL_ambulance_12 (ck_n rfl) rfl (fun xs ys s => eL_ambulance_12 kb (ys.getD 0 0) s)
  exact row_B hA h0 qL_ambulance_0 (And.intro trivial (And.intro trivial (And.intro trivial (And.intro trivial (And.intro (co_of mkX11_ambulance (iX11_ambulance hA)) (ck_n rfl)))))) rfl (fun xs ys s => eL_ambulance_0 kb (xs.getD 0 0) (xs.getD 1 0) (xs.getD 2 0) s)
theorem iL_ambulance (hA : AOK) : Impl mdL_ambulance gL_ambulance := ent_B (kk := kL_ambulance) (rr := rL_ambulance) (f := fun kb => fun xs ys s => fL_ambulance_0 kb (xs.getD 0 0) (xs.getD 1 0) (xs.getD 2 0) s) (by decide +kernel) rfl (fun _ => rfl) (fun r kb => pL_ambulance hA r kb) (fun kb => ⟨_, rfl⟩) 0 id (fun xs s => rfl) (fun xs => wkl_rf _)
-- FloatparadeLaw.march(LFloatparade;II[J)I
theorem mkL_march : MK mdL_march false := MKb_ok (h1 := 1030) (h2 := 69) (h3 := 1029) (h4 := 0) (by decide +kernel)
theorem qL_march_0 : blkb mdL_march 0 0 bL_march_0 [[], [], [], [], [], [1031, 256, 270, 257, 338], [], [], []] = true := by decide +kernel
theorem qL_march_13 : blkb mdL_march 0 13 bL_march_13 [[], [], []] = true := by decide +kernel
theorem qL_march_17 : blkb mdL_march 0 17 bL_march_17 [[], [], []] = true := by decide +kernel
theorem qL_march_21 : blkb mdL_march 0 21 bL_march_21 [[], []] = true := by decide +kernel
theorem pL_march (hA : AOK) (r : Rt) (kb : Co) : RsB mdL_march r kb (rL_march kb) := by
  have h21 : RsB mdL_march r kb (tL_march_21 kb) := row_0
  have h17 : RsB mdL_march r kb (tL_march_17 kb) := row_B hA h21 qL_march_21 (ck_n rfl) rfl (fun xs ys s => eL_march_21 kb s)
  have h13 : RsB mdL_march r kb (tL_march_13 kb) := row_B hA h17 qL_march_17 (ck_n rfl) rfl (fun xs ys s => eL_march_17 kb (ys.getD 0 0) s)
  have h0 : RsB mdL_march r kb (tL_march_0 kb) := row_B hA h13 qL_march_13 (ck_n rfl) rfl (fun xs ys s => eL_march_13 kb (ys.getD 0 0) s)
  exact row_B hA h0 qL_march_0 (And.intro trivial (And.intro trivial (And.intro trivial (And.intro trivial (And.intro trivial (And.intro (co_of mkX11_march (iX11_march hA)) (ck_n rfl))))))) rfl (fun xs ys s => eL_march_0 kb (xs.getD 0 0) (xs.getD 1 0) (xs.getD 2 0) (xs.getD 3 0) s)
theorem iL_march (hA : AOK) : Impl mdL_march gL_march := ent_B (kk := kL_march) (rr := rL_march) (f := fun kb => fun xs ys s => fL_march_0 kb (xs.getD 0 0) (xs.getD 1 0) (xs.getD 2 0) (xs.getD 3 0) s) (by decide +kernel) rfl (fun _ => rfl) (fun r kb => pL_march hA r kb) (fun kb => ⟨_, rfl⟩) 0 id (fun xs s => rfl) (fun xs => wkl_rf _)
-- FloatparadeLaw.part(LFloatparade;III[J)I
theorem mkL_part : MK mdL_part false := MKb_ok (h1 := 1111) (h2 := 69) (h3 := 1110) (h4 := 0) (by decide +kernel)
theorem qL_part_0 : blkb mdL_part 0 0 bL_part_0 [[], [], [], [], [], [], [1112, 256, 270, 257, 338, 478, 489], [], [], []] = true := by decide +kernel
theorem qL_part_15 : blkb mdL_part 0 15 bL_part_15 [[], [], []] = true := by decide +kernel
theorem qL_part_19 : blkb mdL_part 0 19 bL_part_19 [[], [], []] = true := by decide +kernel
theorem qL_part_23 : blkb mdL_part 0 23 bL_part_23 [[], [], []] = true := by decide +kernel
theorem qL_part_27 : blkb mdL_part 0 27 bL_part_27 [[], []] = true := by decide +kernel
theorem pL_part (hA : AOK) (r : Rt) (kb : Co) : RsB mdL_part r kb (rL_part kb) := by
  have h27 : RsB mdL_part r kb (tL_part_27 kb) := row_0
  have h23 : RsB mdL_part r kb (tL_part_23 kb) := row_B hA h27 qL_part_27 (ck_n rfl) rfl (fun xs ys s => eL_part_27 kb s)
  have h19 : RsB mdL_part r kb (tL_part_19 kb) := row_B hA h23 qL_part_23 (ck_n rfl) rfl (fun xs ys s => eL_part_23 kb (ys.getD 0 0) s)
  have h15 : RsB mdL_part r kb (tL_part_15 kb) := row_B hA h19 qL_part_19 (ck_n rfl) rfl (fun xs ys s => eL_part_19 kb (ys.getD 0 0) s)
  have h0 : RsB mdL_part r kb (tL_part_0 kb) := row_B hA h15 qL_part_15 (ck_n rfl) rfl (fun xs ys s => eL_part_15 kb (ys.getD 0 0) s)
  exact row_B hA h0 qL_part_0 (And.intro trivial (And.intro trivial (And.intro trivial (And.intro trivial (And.intro trivial (And.intro trivial (And.intro (co_of mkX11_part (iX11_part hA)) (ck_n rfl)))))))) rfl (fun xs ys s => eL_part_0 kb (xs.getD 0 0) (xs.getD 1 0) (xs.getD 2 0) (xs.getD 3 0) (xs.getD 4 0) s)
theorem iL_part (hA : AOK) : Impl mdL_part gL_part := ent_B (kk := kL_part) (rr := rL_part) (f := fun kb => fun xs ys s => fL_part_0 kb (xs.getD 0 0) (xs.getD 1 0) (xs.getD 2 0) (xs.getD 3 0) (xs.getD 4 0) s) (by decide +kernel) rfl (fun _ => rfl) (fun r kb => pL_part hA r kb) (fun kb => ⟨_, rfl⟩) 0 id (fun xs s => rfl) (fun xs => wkl_rf _)
-- FloatparadeLaw.clock(LFloatparade;II[J)I
theorem mkL_clock : MK mdL_clock false := MKb_ok (h1 := 1126) (h2 := 69) (h3 := 1125) (h4 := 0) (by decide +kernel)
theorem qL_clock_0 : blkb mdL_clock 0 0 bL_clock_0 [[], [], [], [], [], [1127, 478, 489, 256, 270], [], [], []] = true := by decide +kernel
theorem qL_clock_13 : blkb mdL_clock 0 13 bL_clock_13 [[], [], []] = true := by decide +kernel
theorem qL_clock_17 : blkb mdL_clock 0 17 bL_clock_17 [[], [], []] = true := by decide +kernel
theorem qL_clock_21 : blkb mdL_clock 0 21 bL_clock_21 [[], []] = true := by decide +kernel
theorem pL_clock (hA : AOK) (r : Rt) (kb : Co) : RsB mdL_clock r kb (rL_clock kb) := by
  have h21 : RsB mdL_clock r kb (tL_clock_21 kb) := row_0
  have h17 : RsB mdL_clock r kb (tL_clock_17 kb) := row_B hA h21 qL_clock_21 (ck_n rfl) rfl (fun xs ys s => eL_clock_21 kb s)
  have h13 : RsB mdL_clock r kb (tL_clock_13 kb) := row_B hA h17 qL_clock_17 (ck_n rfl) rfl (fun xs ys s => eL_clock_17 kb (ys.getD 0 0) s)
  have h0 : RsB mdL_clock r kb (tL_clock_0 kb) := row_B hA h13 qL_clock_13 (ck_n rfl) rfl (fun xs ys s => eL_clock_13 kb (ys.getD 0 0) s)
  exact row_B hA h0 qL_clock_0 (And.intro trivial (And.intro trivial (And.intro trivial (And.intro trivial (And.intro trivial (And.intro (co_of mkX11_clock (iX11_clock hA)) (ck_n rfl))))))) rfl (fun xs ys s => eL_clock_0 kb (xs.getD 0 0) (xs.getD 1 0) (xs.getD 2 0) (xs.getD 3 0) s)
theorem iL_clock (hA : AOK) : Impl mdL_clock gL_clock := ent_B (kk := kL_clock) (rr := rL_clock) (f := fun kb => fun xs ys s => fL_clock_0 kb (xs.getD 0 0) (xs.getD 1 0) (xs.getD 2 0) (xs.getD 3 0) s) (by decide +kernel) rfl (fun _ => rfl) (fun r kb => pL_clock hA r kb) (fun kb => ⟨_, rfl⟩) 0 id (fun xs s => rfl) (fun xs => wkl_rf _)
-- FloatparadeLaw.note(LFloatparade;IIII[J)I
theorem mkL_note : MK mdL_note false := MKb_ok (h1 := 1135) (h2 := 69) (h3 := 1134) (h4 := 0) (by decide +kernel)
theorem qL_note_0 : blkb mdL_note 0 0 bL_note_0 [[], [], [], [], [], [], [], [1136, 478, 489, 256, 270, 257, 338], [], [], []] = true := by decide +kernel
theorem qL_note_17 : blkb mdL_note 0 17 bL_note_17 [[], [], []] = true := by decide +kernel
theorem qL_note_21 : blkb mdL_note 0 21 bL_note_21 [[], [], []] = true := by decide +kernel
theorem qL_note_25 : blkb mdL_note 0 25 bL_note_25 [[], [], []] = true := by decide +kernel
theorem qL_note_29 : blkb mdL_note 0 29 bL_note_29 [[], []] = true := by decide +kernel
theorem pL_note (hA : AOK) (r : Rt) (kb : Co) : RsB mdL_note r kb (rL_note kb) := by
  have h29 : RsB mdL_note r kb (tL_note_29 kb) := row_0
  have h25 : RsB mdL_note r kb (tL_note_25 kb) := row_B hA h29 qL_note_29 (ck_n rfl) rfl (fun xs ys s => eL_note_29 kb s)
  have h21 : RsB mdL_note r kb (tL_note_21 kb) := row_B hA h25 qL_note_25 (ck_n rfl) rfl (fun xs ys s => eL_note_25 kb (ys.getD 0 0) s)
  have h17 : RsB mdL_note r kb (tL_note_17 kb) := row_B hA h21 qL_note_21 (ck_n rfl) rfl (fun xs ys s => eL_note_21 kb (ys.getD 0 0) s)
  have h0 : RsB mdL_note r kb (tL_note_0 kb) := row_B hA h17 qL_note_17 (ck_n rfl) rfl (fun xs ys s => eL_note_17 kb (ys.getD 0 0) s)
  exact row_B hA h0 qL_note_0 (And.intro trivial (And.intro trivial (And.intro trivial (And.intro trivial (And.intro trivial (And.intro trivial (And.intro trivial (And.intro (co_of mkX11_note (iX11_note hA)) (ck_n rfl))))))))) rfl (fun xs ys s => eL_note_0 kb (xs.getD 0 0) (xs.getD 1 0) (xs.getD 2 0) (xs.getD 3 0) (xs.getD 4 0) (xs.getD 5 0) s)
theorem iL_note (hA : AOK) : Impl mdL_note gL_note := ent_B (kk := kL_note) (rr := rL_note) (f := fun kb => fun xs ys s => fL_note_0 kb (xs.getD 0 0) (xs.getD 1 0) (xs.getD 2 0) (xs.getD 3 0) (xs.getD 4 0) (xs.getD 5 0) s) (by decide +kernel) rfl (fun _ => rfl) (fun r kb => pL_note hA r kb) (fun kb => ⟨_, rfl⟩) 0 id (fun xs s => rfl) (fun xs => wkl_rf _)
-- FloatparadeLaw.penalty(LFloatparade;III[J)I
theorem mkL_penalty : MK mdL_penalty false := MKb_ok (h1 := 1162) (h2 := 69) (h3 := 1161) (h4 := 0) (by decide +kernel)
theorem qL_penalty_0 : blkb mdL_penalty 0 0 bL_penalty_0 [[], [], [], [], [], [], [1163, 478, 489, 256, 270, 257, 338], [], [], []] = true := by decide +kernel
theorem qL_penalty_15 : blkb mdL_penalty 0 15 bL_penalty_15 [[], [], []] = true := by decide +kernel
theorem qL_penalty_19 : blkb mdL_penalty 0 19 bL_penalty_19 [[], [], []] = true := by decide +kernel
theorem qL_penalty_23 : blkb mdL_penalty 0 23 bL_penalty_23 [[], [], []] = true := by decide +kernel
theorem qL_penalty_27 : blkb mdL_penalty 0 27 bL_penalty_27 [[], []] = true := by decide +kernel
theorem pL_penalty (hA : AOK) (r : Rt) (kb : Co) : RsB mdL_penalty r kb (rL_penalty kb) := by
  have h27 : RsB mdL_penalty r kb (tL_penalty_27 kb) := row_0
  have h23 : RsB mdL_penalty r kb (tL_penalty_23 kb) := row_B hA h27 qL_penalty_27 (ck_n rfl) rfl (fun xs ys s => eL_penalty_27 kb s)
  have h19 : RsB mdL_penalty r kb (tL_penalty_19 kb) := row_B hA h23 qL_penalty_23 (ck_n rfl) rfl (fun xs ys s => eL_penalty_23 kb (ys.getD 0 0) s)
  have h15 : RsB mdL_penalty r kb (tL_penalty_15 kb) := row_B hA h19 qL_penalty_19 (ck_n rfl) rfl (fun xs ys s => eL_penalty_19 kb (ys.getD 0 0) s)
  have h0 : RsB mdL_penalty r kb (tL_penalty_0 kb) := row_B hA h15 qL_penalty_15 (ck_n rfl) rfl (fun xs ys s => eL_penalty_15 kb (ys.getD 0 0) s)
  exact row_B hA h0 qL_penalty_0 (And.intro trivial (And.intro trivial (And.intro trivial (And.intro trivial (And.intro trivial (And.intro trivial (And.intro (co_of mkX11_penalty (iX11_penalty hA)) (ck_n rfl)))))))) rfl (fun xs ys s => eL_penalty_0 kb (xs.getD 0 0) (xs.getD 1 0) (xs.getD 2 0) (xs.getD 3 0) (xs.getD 4 0) s)
theorem iL_penalty (hA : AOK) : Impl mdL_penalty gL_penalty := ent_B (kk := kL_penalty) (rr := rL_penalty) (f := fun kb => fun xs ys s => fL_penalty_0 kb (xs.getD 0 0) (xs.getD 1 0) (xs.getD 2 0) (xs.getD 3 0) (xs.getD 4 0) s) (by decide +kernel) rfl (fun _ => rfl) (fun r kb => pL_penalty hA r kb) (fun kb => ⟨_, rfl⟩) 0 id (fun xs s => rfl) (fun xs => wkl_rf _)
-- FloatparadeLaw.appeal(LFloatparade;II[J)I
theorem mkL_appeal : MK mdL_appeal false := MKb_ok (h1 := 1176) (h2 := 69) (h3 := 1175) (h4 := 0) (by decide +kernel)
theorem qL_appeal_0 : blkb mdL_appeal 0 0 bL_appeal_0 [[], [], [], [], [], [1177, 478, 489, 257, 338], [], [], []] = true := by decide +kernel
theorem qL_appeal_13 : blkb mdL_appeal 0 13 bL_appeal_13 [[], [], []] = true := by decide +kernel
theorem qL_appeal_17 : blkb mdL_appeal 0 17 bL_appeal_17 [[], [], []] = true := by decide +kernel
theorem qL_appeal_21 : blkb mdL_appeal 0 21 bL_appeal_21 [[], []] = true := by decide +kernel
theorem pL_appeal (hA : AOK) (r : Rt) (kb : Co) : RsB mdL_appeal r kb (rL_appeal kb) := by
  have h21 : RsB mdL_appeal r kb (tL_appeal_21 kb) := row_0
  have h17 : RsB mdL_appeal r kb (tL_appeal_17 kb) := row_B hA h21 qL_appeal_21 (ck_n rfl) rfl (fun xs ys s => eL_appeal_21 kb s)
  have h13 : RsB mdL_appeal r kb (tL_appeal_13 kb) := row_B hA h17 qL_appeal_17 (ck_n rfl) rfl (fun xs ys s => eL_appeal_17 kb (ys.getD 0 0) s)
  have h0 : RsB mdL_appeal r kb (tL_appeal_0 kb) := row_B hA h13 qL_appeal_13 (ck_n rfl) rfl (fun xs ys s => eL_appeal_13 kb (ys.getD 0 0) s)
  exact row_B hA h0 qL_appeal_0 (And.intro trivial (And.intro trivial (And.intro trivial (And.intro trivial (And.intro trivial (And.intro (co_of mkX11_appeal (iX11_appeal hA)) (ck_n rfl))))))) rfl (fun xs ys s => eL_appeal_0 kb (xs.getD 0 0) (xs.getD 1 0) (xs.getD 2 0) (xs.getD 3 0) s)
theorem iL_appeal (hA : AOK) : Impl mdL_appeal gL_appeal := ent_B (kk := kL_appeal) (rr := rL_appeal) (f := fun kb => fun xs ys s => fL_appeal_0 kb (xs.getD 0 0) (xs.getD 1 0) (xs.getD 2 0) (xs.getD 3 0) s) (by decide +kernel) rfl (fun _ => rfl) (fun r kb => pL_appeal hA r kb) (fun kb => ⟨_, rfl⟩) 0 id (fun xs s => rfl) (fun xs => wkl_rf _)
-- FloatparadeLaw.draw(LFloatparade;I[J)I
theorem mkL_draw : MK mdL_draw false := MKb_ok (h1 := 1209) (h2 := 69) (h3 := 1208) (h4 := 0) (by decide +kernel)
theorem qL_draw_0 : blkb mdL_draw 0 0 bL_draw_0 [[], [], [], [], [1210, 256, 270], [], [], []] = true := by decide +kernel
theorem qL_draw_12 : blkb mdL_draw 0 12 bL_draw_12 [[], [], []] = true := by decide +kernel
theorem qL_draw_15 : blkb mdL_draw 0 15 bL_draw_15 [[], []] = true := by decide +kernel
theorem pL_draw (hA : AOK) (r : Rt) (kb : Co) : RsB mdL_draw r kb (rL_draw kb) := by
  have h15 : RsB mdL_draw r kb (tL_draw_15 kb) := row_0
  have h12 : RsB mdL_draw r kb (tL_draw_12 kb) := row_B hA h15 qL_draw_15 (ck_n rfl) rfl (fun xs ys s => eL_draw_15 kb s)
  have h0 : RsB mdL_draw r kb (tL_draw_0 kb) := row_B hA h12 qL_draw_12 (ck_n rfl) rfl (fun xs ys s => eL_draw_12 kb (ys.getD 0 0) s)
  exact row_B hA h0 qL_draw_0 (And.intro trivial (And.intro trivial (And.intro trivial (And.intro trivial (And.intro (co_of mkX11_draw (iX11_draw hA)) (ck_n rfl)))))) rfl (fun xs ys s => eL_draw_0 kb (xs.getD 0 0) (xs.getD 1 0) (xs.getD 2 0) s)
theorem iL_draw (hA : AOK) : Impl mdL_draw gL_draw := ent_B (kk := kL_draw) (rr := rL_draw) (f := fun kb => fun xs ys s => fL_draw_0 kb (xs.getD 0 0) (xs.getD 1 0) (xs.getD 2 0) s) (by decide +kernel) rfl (fun _ => rfl) (fun r kb => pL_draw hA r kb) (fun kb => ⟨_, rfl⟩) 0 id (fun xs s => rfl) (fun xs => wkl_rf _)
-- FloatparadeLaw.endYear(LFloatparade;[J)I
theorem mkL_endYear : MK mdL_endYear false := MKb_ok (h1 := 1217) (h2 := 69) (h3 := 1216) (h4 := 0) (by decide +kernel)
theorem qL_endYear_0 : blkb mdL_endYear 0 0 bL_endYear_0 [[], [], [], [1218, 257, 338], [], [], []] = true := by decide +kernel
theorem qL_endYear_11 : blkb mdL_endYear 0 11 bL_endYear_11 [[], [], []] = true := by decide +kernel
theorem qL_endYear_14 : blkb mdL_endYear 0 14 bL_endYear_14 [[], []] = true := by decide +kernel
theorem pL_endYear (hA : AOK) (r : Rt) (kb : Co) : RsB mdL_endYear r kb (rL_endYear kb) := by
  have h14 : RsB mdL_endYear r kb (tL_endYear_14 kb) := row_0
  have h11 : RsB mdL_endYear r kb (tL_endYear_11 kb) := row_B hA h14 qL_endYear_14 (ck_n rfl) rfl (fun xs ys s => eL_endYear_14 kb s)
  have h0 : RsB mdL_endYear r kb (tL_endYear_0 kb) := row_B hA h11 qL_endYear_11 (ck_n rfl) rfl (fun xs ys s => eL_endYear_11 kb (ys.getD 0 0) s)
  exact row_B hA h0 qL_endYear_0 (And.intro trivial (And.intro trivial (And.intro trivial (And.intro (co_of mkX11_endYear (iX11_endYear hA)) (ck_n rfl))))) rfl (fun xs ys s => eL_endYear_0 kb (xs.getD 0 0) (xs.getD 1 0) s)
theorem iL_endYear (hA : AOK) : Impl mdL_endYear gL_endYear := ent_B (kk := kL_endYear) (rr := rL_endYear) (f := fun kb => fun xs ys s => fL_endYear_0 kb (xs.getD 0 0) (xs.getD 1 0) s) (by decide +kernel) rfl (fun _ => rfl) (fun r kb => pL_endYear hA r kb) (fun kb => ⟨_, rfl⟩) 0 id (fun xs s => rfl) (fun xs => wkl_rf _)
-- FloatparadeLaw.about(LFloatparade;II[J)I
theorem mkL_about : MK mdL_about false := MKb_ok (h1 := 1270) (h2 := 69) (h3 := 1269) (h4 := 0) (by decide +kernel)
theorem qL_about_0 : blkb mdL_about 0 0 bL_about_0 [[], [], [], [], [], [1271, 478, 489, 256, 270], [], [], []] = true := by decide +kernel
theorem qL_about_13 : blkb mdL_about 0 13 bL_about_13 [[], [], []] = true := by decide +kernel
theorem qL_about_17 : blkb mdL_about 0 17 bL_about_17 [[], [], []] = true := by decide +kernel
theorem qL_about_21 : blkb mdL_about 0 21 bL_about_21 [[], []] = true := by decide +kernel
theorem pL_about (hA : AOK) (r : Rt) (kb : Co) : RsB mdL_about r kb (rL_about kb) := by
  have h21 : RsB mdL_about r kb (tL_about_21 kb) := row_0
  have h17 : RsB mdL_about r kb (tL_about_17 kb) := row_B hA h21 qL_about_21 (ck_n rfl) rfl (fun xs ys s => eL_about_21 kb s)
  have h13 : RsB mdL_about r kb (tL_about_13 kb) := row_B hA h17 qL_about_17 (ck_n rfl) rfl (fun xs ys s => eL_about_17 kb (ys.getD 0 0) s)
  have h0 : RsB mdL_about r kb (tL_about_0 kb) := row_B hA h13 qL_about_13 (ck_n rfl) rfl (fun xs ys s => eL_about_13 kb (ys.getD 0 0) s)
  exact row_B hA h0 qL_about_0 (And.intro trivial (And.intro trivial (And.intro trivial (And.intro trivial (And.intro trivial (And.intro (co_of mkX11_about (iX11_about hA)) (ck_n rfl))))))) rfl (fun xs ys s => eL_about_0 kb (xs.getD 0 0) (xs.getD 1 0) (xs.getD 2 0) (xs.getD 3 0) s)
theorem iL_about (hA : AOK) : Impl mdL_about gL_about := ent_B (kk := kL_about) (rr := rL_about) (f := fun kb => fun xs ys s => fL_about_0 kb (xs.getD 0 0) (xs.getD 1 0) (xs.getD 2 0) (xs.getD 3 0) s) (by decide +kernel) rfl (fun _ => rfl) (fun r kb => pL_about hA r kb) (fun kb => ⟨_, rfl⟩) 0 id (fun xs s => rfl) (fun xs => wkl_rf _)
-- FloatparadeLaw.notes(LFloatparade;II[J)I
theorem mkL_notes : MK mdL_notes false := MKb_ok (h1 := 1282) (h2 := 69) (h3 := 1281) (h4 := 0) (by decide +kernel)
theorem qL_notes_0 : blkb mdL_notes 0 0 bL_notes_0 [[], [], [], [], [], [1283, 478, 489, 256, 270], [], [], []] = true := by decide +kernel
theorem qL_notes_13 : blkb mdL_notes 0 13 bL_notes_13 [[], [], []] = true := by decide +kernel
theorem qL_notes_17 : blkb mdL_notes 0 17 bL_notes_17 [[], [], []] = true := by decide +kernel
theorem qL_notes_21 : blkb mdL_notes 0 21 bL_notes_21 [[], []] = true := by decide +kernel
theorem pL_notes (hA : AOK) (r : Rt) (kb : Co) : RsB mdL_notes r kb (rL_notes kb) := by
  have h21 : RsB mdL_notes r kb (tL_notes_21 kb) := row_0
  have h17 : RsB mdL_notes r kb (tL_notes_17 kb) := row_B hA h21 qL_notes_21 (ck_n rfl) rfl (fun xs ys s => eL_notes_21 kb s)
  have h13 : RsB mdL_notes r kb (tL_notes_13 kb) := row_B hA h17 qL_notes_17 (ck_n rfl) rfl (fun xs ys s => eL_notes_17 kb (ys.getD 0 0) s)
  have h0 : RsB mdL_notes r kb (tL_notes_0 kb) := row_B hA h13 qL_notes_13 (ck_n rfl) rfl (fun xs ys s => eL_notes_13 kb (ys.getD 0 0) s)
  exact row_B hA h0 qL_notes_0 (And.intro trivial (And.intro trivial (And.intro trivial (And.intro trivial (And.intro trivial (And.intro (co_of mkX11_notes (iX11_notes hA)) (ck_n rfl))))))) rfl (fun xs ys s => eL_notes_0 kb (xs.getD 0 0) (xs.getD 1 0) (xs.getD 2 0) (xs.getD 3 0) s)
theorem iL_notes (hA : AOK) : Impl mdL_notes gL_notes := ent_B (kk := kL_notes) (rr := rL_notes) (f := fun kb => fun xs ys s => fL_notes_0 kb (xs.getD 0 0) (xs.getD 1 0) (xs.getD 2 0) (xs.getD 3 0) s) (by decide +kernel) rfl (fun _ => rfl) (fun r kb => pL_notes hA r kb) (fun kb => ⟨_, rfl⟩) 0 id (fun xs s => rfl) (fun xs => wkl_rf _)
-- FloatparadeLaw.penaltyAt(LFloatparade;III[J)I
theorem mkL_penaltyAt : MK mdL_penaltyAt false := MKb_ok (h1 := 1291) (h2 := 69) (h3 := 1290) (h4 := 0) (by decide +kernel)
theorem qL_penaltyAt_0 : blkb mdL_penaltyAt 0 0 bL_penaltyAt_0 [[], [], [], [], [], [], [1292, 478, 489, 256, 270], [], [], []] = true := by decide +kernel
theorem qL_penaltyAt_15 : blkb mdL_penaltyAt 0 15 bL_penaltyAt_15 [[], [], []] = true := by decide +kernel
theorem qL_penaltyAt_19 : blkb mdL_penaltyAt 0 19 bL_penaltyAt_19 [[], [], []] = true := by decide +kernel
theorem qL_penaltyAt_23 : blkb mdL_penaltyAt 0 23 bL_penaltyAt_23 [[], []] = true := by decide +kernel
theorem pL_penaltyAt (hA : AOK) (r : Rt) (kb : Co) : RsB mdL_penaltyAt r kb (rL_penaltyAt kb) := by
  have h23 : RsB mdL_penaltyAt r kb (tL_penaltyAt_23 kb) := row_0
  have h19 : RsB mdL_penaltyAt r kb (tL_penaltyAt_19 kb) := row_B hA h23 qL_penaltyAt_23 (ck_n rfl) rfl (fun xs ys s => eL_penaltyAt_23 kb s)
  have h15 : RsB mdL_penaltyAt r kb (tL_penaltyAt_15 kb) := row_B hA h19 qL_penaltyAt_19 (ck_n rfl) rfl (fun xs ys s => eL_penaltyAt_19 kb (ys.getD 0 0) s)
  have h0 : RsB mdL_penaltyAt r kb (tL_penaltyAt_0 kb) := row_B hA h15 qL_penaltyAt_15 (ck_n rfl) rfl (fun xs ys s => eL_penaltyAt_15 kb (ys.getD 0 0) s)
  exact row_B hA h0 qL_penaltyAt_0 (And.intro trivial (And.intro trivial (And.intro trivial (And.intro trivial (And.intro trivial (And.intro trivial (And.intro (co_of mkX11_penaltyAt (iX11_penaltyAt hA)) (ck_n rfl)))))))) rfl (fun xs ys s => eL_penaltyAt_0 kb (xs.getD 0 0) (xs.getD 1 0) (xs.getD 2 0) (xs.getD 3 0) (xs.getD 4 0) s)
theorem iL_penaltyAt (hA : AOK) : Impl mdL_penaltyAt gL_penaltyAt := ent_B (kk := kL_penaltyAt) (rr := rL_penaltyAt) (f := fun kb => fun xs ys s => fL_penaltyAt_0 kb (xs.getD 0 0) (xs.getD 1 0) (xs.getD 2 0) (xs.getD 3 0) (xs.getD 4 0) s) (by decide +kernel) rfl (fun _ => rfl) (fun r kb => pL_penaltyAt hA r kb) (fun kb => ⟨_, rfl⟩) 0 id (fun xs s => rfl) (fun xs => wkl_rf _)
-- FloatparadeLaw.isDoubted(LFloatparade;II[J)I
theorem mkL_isDoubted : MK mdL_isDoubted false := MKb_ok (h1 := 1302) (h2 := 69) (h3 := 1301) (h4 := 0) (by decide +kernel)
theorem qL_isDoubted_0 : blkb mdL_isDoubted 0 0 bL_isDoubted_0 [[], [], [], [], [], [1303, 478, 489, 256, 270], [], [], []] = true := by decide +kernel
theorem qL_isDoubted_15 : blkb mdL_isDoubted 16 15 bL_isDoubted_15 [[]] = true := by decide +kernel
theorem qL_isDoubted_16 : blkb mdL_isDoubted 0 16 bL_isDoubted_16 [[], []] = true := by decide +kernel
theorem qL_isDoubted_20 : blkb mdL_isDoubted 0 20 bL_isDoubted_20 [[], [], []] = true := by decide +kernel
theorem qL_isDoubted_24 : blkb mdL_isDoubted 0 24 bL_isDoubted_24 [[], [], []] = true := by decide +kernel
theorem qL_isDoubted_28 : blkb mdL_isDoubted 0 28 bL_isDoubted_28 [[], []] = true := by decide +kernel
theorem pL_isDoubted (hA : AOK) (r : Rt) (kb : Co) : RsB mdL_isDoubted r kb (rL_isDoubted kb) := by
  have h28 : RsB mdL_isDoubted r kb (tL_isDoubted_28 kb) := row_0
  have h24 : RsB mdL_isDoubted r kb (tL_isDoubted_24 kb) := row_B hA h28 qL_isDoubted_28 (ck_n rfl) rfl (fun xs ys s => eL_isDoubted_28 kb s)
  have h20 : RsB mdL_isDoubted r kb (tL_isDoubted_20 kb) := row_B hA h24 qL_isDoubted_24 (ck_n rfl) rfl (fun xs ys s => eL_isDoubted_24 kb (ys.getD 0 0) s)
  have h16 : RsB mdL_isDoubted r kb (tL_isDoubted_16 kb) := row_B hA h20 qL_isDoubted_20 (ck_n rfl) rfl (fun xs ys s => eL_isDoubted_20 kb (ys.getD 0 0) s)
  have h15 : RsB mdL_isDoubted r kb (tL_isDoubted_15 kb) := row_B hA h16 qL_isDoubted_16 (ck_n rfl) rfl (fun xs ys s => eL_isDoubted_16 kb (ys.getD 0 0) (ys.getD 1 0) (ys.getD 2 0) s)
  have h0 : RsB mdL_isDoubted r kb (tL_isDoubted_0 kb) := row_B hA h15 qL_isDoubted_15 (ck_n rfl) rfl (fun xs ys s => eL_isDoubted_15 kb (ys.getD 0 0) (ys.getD 1 0) s)
  exact row_B hA h0 qL_isDoubted_0 (And.intro trivial (And.intro trivial (And.intro trivial (And.intro trivial (And.intro trivial (And.intro (co_of mkX11_isDoubted (iX11_isDoubted hA)) (ck_n rfl))))))) rfl (fun xs ys s => eL_isDoubted_0 kb (xs.getD 0 0) (xs.getD 1 0) (xs.getD 2 0) (xs.getD 3 0) s)
theorem iL_isDoubted (hA : AOK) : Impl mdL_isDoubted gL_isDoubted := ent_B (kk := kL_isDoubted) (rr := rL_isDoubted) (f := fun kb => fun xs ys s => fL_isDoubted_0 kb (xs.getD 0 0) (xs.getD 1 0) (xs.getD 2 0) (xs.getD 3 0) s) (by decide +kernel) rfl (fun _ => rfl) (fun r kb => pL_isDoubted hA r kb) (fun kb => ⟨_, rfl⟩) 0 id (fun xs s => rfl) (fun xs => wkl_rf _)
-- FloatparadeLaw.table(LFloatparade;II[J)I
theorem mkL_table : MK mdL_table false := MKb_ok (h1 := 1318) (h2 := 69) (h3 := 1317) (h4 := 0) (by decide +kernel)
theorem qL_table_0 : blkb mdL_table 0 0 bL_table_0 [[], [], [], [], [], [1319, 478, 489, 256, 270], [], [], []] = true := by decide +kernel
theorem qL_table_13 : blkb mdL_table 0 13 bL_table_13 [[], [], []] = true := by decide +kernel
theorem qL_table_17 : blkb mdL_table 0 17 bL_table_17 [[], [], []] = true := by decide +kernel
theorem qL_table_21 : blkb mdL_table 0 21 bL_table_21 [[], []] = true := by decide +kernel
theorem pL_table (hA : AOK) (r : Rt) (kb : Co) : RsB mdL_table r kb (rL_table kb) := by
  have h21 : RsB mdL_table r kb (tL_table_21 kb) := row_0
  have h17 : RsB mdL_table r kb (tL_table_17 kb) := row_B hA h21 qL_table_21 (ck_n rfl) rfl (fun xs ys s => eL_table_21 kb s)
  have h13 : RsB mdL_table r kb (tL_table_13 kb) := row_B hA h17 qL_table_17 (ck_n rfl) rfl (fun xs ys s => eL_table_17 kb (ys.getD 0 0) s)
  have h0 : RsB mdL_table r kb (tL_table_0 kb) := row_B hA h13 qL_table_13 (ck_n rfl) rfl (fun xs ys s => eL_table_13 kb (ys.getD 0 0) s)
  exact row_B hA h0 qL_table_0 (And.intro trivial (And.intro trivial (And.intro trivial (And.intro trivial (And.intro trivial (And.intro (co_of mkX11_table (iX11_table hA)) (ck_n rfl))))))) rfl (fun xs ys s => eL_table_0 kb (xs.getD 0 0) (xs.getD 1 0) (xs.getD 2 0) (xs.getD 3 0) s)
theorem iL_table (hA : AOK) : Impl mdL_table gL_table := ent_B (kk := kL_table) (rr := rL_table) (f := fun kb => fun xs ys s => fL_table_0 kb (xs.getD 0 0) (xs.getD 1 0) (xs.getD 2 0) (xs.getD 3 0) s) (by decide +kernel) rfl (fun _ => rfl) (fun r kb => pL_table hA r kb) (fun kb => ⟨_, rfl⟩) 0 id (fun xs s => rfl) (fun xs => wkl_rf _)
-- FloatparadeLaw.law([I)Z
theorem qL_law_20 : blkb mdL_law 23 20 bL_law_20 [[], []] = true := by decide +kernel
theorem qL_law_23 : blkb mdL_law 0 23 bL_law_23 [[], [], [], [], [], [], [], [], [], [], [], []] = true := by decide +kernel
theorem qL_law_188 : blkb mdL_law 0 188 bL_law_188 [[], [], [], [], [], [], [], [], [], [], [], [], [253], [], [], [], [], [], [], [], [], [], [], [], [], [1490], [], [], [1486], [], [], [], []] = true := by decide +kernel
theorem qL_law_236 : blkb mdL_law 0 236 bL_law_236 [[], [], [], [], [], [], [], [], [], [], []] = true := by decide +kernel
theorem qL_law_253 : blkb mdL_law 0 253 bL_law_253 [[]] = true := by decide +kernel
theorem qL_law_256 : blkb mdL_law 0 256 bL_law_256 [[], [], [], [], [], [], [], [], [], [], [], [], [], [], [], [], [], [], []] = true := by decide +kernel
theorem qL_law_282 : blkb mdL_law 283 282 bL_law_282 [[]] = true := by decide +kernel
theorem qL_law_283 : blkb mdL_law 0 283 bL_law_283 [[], [475], [], [], [], [], [], [], [], [], [], [], [], [], [], [], [], [], [], [], [], []] = true := by decide +kernel
theorem qL_law_315 : blkb mdL_law 316 315 bL_law_315 [[]] = true := by decide +kernel
theorem qL_law_316 : blkb mdL_law 0 316 bL_law_316 [[1504], [], [], [1486], [], [], [], []] = true := by decide +kernel
theorem qL_law_332 : blkb mdL_law 0 332 bL_law_332 [[], [], [], [], [], [], [], [], []] = true := by decide +kernel
theorem qL_law_349 : blkb mdL_law 350 349 bL_law_349 [[]] = true := by decide +kernel
theorem qL_law_350 : blkb mdL_law 0 350 bL_law_350 [[], [], [], []] = true := by decide +kernel
theorem qL_law_356 : blkb mdL_law 0 356 bL_law_356 [[]] = true := by decide +kernel
theorem qL_law_359 : blkb mdL_law 0 359 bL_law_359 [[], [], [], [], [], [], [], [], [], [], [], [], [], [], [], [], [], [512], [], [], [], [], [], [], [], [], [], [], [], [], [], [], [], [], [], [1512], [], [], [1486], [], [], [], []] = true := by decide +kernel
theorem qL_law_419 : blkb mdL_law 0 419 bL_law_419 [[], [], [], [], [], [], [], [], [], [], []] = true := by decide +kernel
theorem qL_law_436 : blkb mdL_law 0 436 bL_law_436 [[]] = true := by decide +kernel
theorem qL_law_439 : blkb mdL_law 0 439 bL_law_439 [[], [], [], [], [], [], [], [538], [], [], [], [], [], [], [], [1519], [], [], [1486], [], [], [], []] = true := by decide +kernel
theorem qL_law_475 : blkb mdL_law 0 475 bL_law_475 [[], [], [], [], [], [], [], [], [], [], []] = true := by decide +kernel
theorem qL_law_492 : blkb mdL_law 0 492 bL_law_492 [[]] = true := by decide +kernel
theorem qL_law_495 : blkb mdL_law 0 495 bL_law_495 [[], [], [], [], [], [], [], [], [], [], [], [], [], [], [], [], [], [559], [], [], [], [], [], [], [], [], [], [], [], [], [], [], [], [], [], [1523], [], [], [1486], [], [], [], []] = true := by decide +kernel
theorem qL_law_555 : blkb mdL_law 0 555 bL_law_555 [[], [], [], [], [], [], [], [], [], [], []] = true := by decide +kernel
theorem qL_law_572 : blkb mdL_law 0 572 bL_law_572 [[]] = true := by decide +kernel
theorem qL_law_575 : blkb mdL_law 0 575 bL_law_575 [[], [], [], [], [], [], [], [587], [], [], [], [], [], [], [], [1535], [], [], [1486], [], [], [], []] = true := by decide +kernel
theorem qL_law_611 : blkb mdL_law 0 611 bL_law_611 [[], [], [], [], [], [], [], [], [], [], []] = true := by decide +kernel
theorem qL_law_628 : blkb mdL_law 0 628 bL_law_628 [[]] = true := by decide +kernel
theorem qL_law_631 : blkb mdL_law 0 631 bL_law_631 [[], [], [], [], [], [], [], [], [], [], [], [], [], [], [], [], [], [], [], [], [], [], [], [], [], [], [], [], [], [], [], [], [600], [], [], [], [], [], [], [], [], [], [], [], [], [], [], [], [], [], [], [], [], [], [], [], [], [], [], [], [], [], [], [], [], [1539], [], [], [1486], [], [], [], []] = true := by decide +kernel
theorem qL_law_729 : blkb mdL_law 0 729 bL_law_729 [[], [], [], [], [], [], [], [], [], [], []] = true := by decide +kernel
theorem qL_law_746 : blkb mdL_law 0 746 bL_law_746 [[]] = true := by decide +kernel
theorem qL_law_749 : blkb mdL_law 0 749 bL_law_749 [[], [], [], [], [], [], [], [], [], [], [], [657], [], [], [], [], [], [], [], [], [], [], [], [], [1550], [], [1486], [], [], [], []] = true := by decide +kernel
theorem qL_law_794 : blkb mdL_law 0 794 bL_law_794 [[]] = true := by decide +kernel
theorem qL_law_797 : blkb mdL_law 0 797 bL_law_797 [[], [], [], [], [], [], [], [], [], [], [], [], [678], [], [], [], [], [], [], [], [], [], [], [], [], [1558], [], [], [1486], [], [], [], []] = true := by decide +kernel
theorem qL_law_845 : blkb mdL_law 0 845 bL_law_845 [[], [], [], [], [], [], [], [], [], [], []] = true := by decide +kernel
theorem qL_law_862 : blkb mdL_law 0 862 bL_law_862 [[]] = true := by decide +kernel
theorem qL_law_865 : blkb mdL_law 0 865 bL_law_865 [[], [], [], [], [], [], [], [], [], [], [], [], [], []] = true := by decide +kernel
theorem qL_law_885 : blkb mdL_law 886 885 bL_law_885 [[]] = true := by decide +kernel
theorem qL_law_886 : blkb mdL_law 0 886 bL_law_886 [[], [715], [], [], [], [], [], [], [], [], [], [], [], [], [], [], []] = true := by decide +kernel
theorem qL_law_912 : blkb mdL_law 913 912 bL_law_912 [[]] = true := by decide +kernel
theorem qL_law_913 : blkb mdL_law 0 913 bL_law_913 [[1578], [], [], [1486], [], [], [], []] = true := by decide +kernel
theorem qL_law_929 : blkb mdL_law 0 929 bL_law_929 [[], [], [], [], [], [], [], [], []] = true := by decide +kernel
theorem qL_law_946 : blkb mdL_law 947 946 bL_law_946 [[]] = true := by decide +kernel
theorem qL_law_947 : blkb mdL_law 0 947 bL_law_947 [[], [], [], []] = true := by decide +kernel
theorem qL_law_953 : blkb mdL_law 0 953 bL_law_953 [[]] = true := by decide +kernel
theorem qL_law_956 : blkb mdL_law 0 956 bL_law_956 [[], [], [], [], [], [], [], [], [], [], [], [], [], [], [], [], [], [], [], [], [], [], [], [], [], [], [], [730], [], [], [], [], [], [], [], [], [], [], [], [], [], [], [], [], [], [], [], [], [], [], [], [], [], [], [], [1582], [], [], [1486], [], [], [], []] = true := by decide +kernel
theorem qL_law_1040 : blkb mdL_law 0 1040 bL_law_1040 [[], [], [], [], [], [], [], [], [], [], []] = true := by decide +kernel
theorem qL_law_1057 : blkb mdL_law 0 1057 bL_law_1057 [[]] = true := by decide +kernel
theorem qL_law_1060 : blkb mdL_law 0 1060 bL_law_1060 [[], [], [], [], [], [], [], [], [], [], [], [], [], [], [], [], [], [], [], [], [], [], [], [], [], [], [], [], [], [], [], [], [772], [], [], [], [], [], [], [], [], [], [], [], [], [], [], [], [], [], [], [], [], [], [], [], [], [], [], [], [], [], [], [], [], [1589], [], [], [1486], [], [], [], []] = true := by decide +kernel
theorem qL_law_1158 : blkb mdL_law 0 1158 bL_law_1158 [[], [], [], [], [], [], [], [], [], [], []] = true := by decide +kernel
theorem qL_law_1175 : blkb mdL_law 0 1175 bL_law_1175 [[]] = true := by decide +kernel
theorem qL_law_1178 : blkb mdL_law 0 1178 bL_law_1178 [[], [], [], [], [], [], [], [], [], [], [], [], [793], [], [], [], [], [], [], [], [], [], [], [], [], [1597], [], [], [1486], [], [], [], []] = true := by decide +kernel
theorem qL_law_1226 : blkb mdL_law 0 1226 bL_law_1226 [[], [], [], [], [], [], [], [], []] = true := by decide +kernel
theorem qL_law_1243 : blkb mdL_law 1244 1243 bL_law_1243 [[]] = true := by decide +kernel
theorem qL_law_1244 : blkb mdL_law 0 1244 bL_law_1244 [[], [], [], []] = true := by decide +kernel
theorem qL_law_1250 : blkb mdL_law 0 1250 bL_law_1250 [[]] = true := by decide +kernel
theorem qL_law_1253 : blkb mdL_law 0 1253 bL_law_1253 [[], [], [], [], [], [], [], [], [], [], [], [], [812], [], [], [], [], [], [], [], [], [], [], [], [], [1605], [], [], [1486], [], [], [], []] = true := by decide +kernel
theorem qL_law_1301 : blkb mdL_law 0 1301 bL_law_1301 [[], [], [], [], [], [], [], [], [], [], []] = true := by decide +kernel
theorem qL_law_1318 : blkb mdL_law 0 1318 bL_law_1318 [[]] = true := by decide +kernel
theorem qL_law_1321 : blkb mdL_law 0 1321 bL_law_1321 [[], [], [], [], [], [], [], [], [], [], [], [], [874], [], [], [], [], [], [], [], [], [], [], [], [], [1633], [], [], [1486], [], [], [], []] = true := by decide +kernel
theorem qL_law_1369 : blkb mdL_law 0 1369 bL_law_1369 [[], [], [], [], [], [], [], [], []] = true := by decide +kernel
theorem qL_law_1386 : blkb mdL_law 1387 1386 bL_law_1386 [[]] = true := by decide +kernel
theorem qL_law_1387 : blkb mdL_law 0 1387 bL_law_1387 [[], [], [], []] = true := by decide +kernel
theorem qL_law_1393 : blkb mdL_law 0 1393 bL_law_1393 [[]] = true := by decide +kernel
theorem qL_law_1396 : blkb mdL_law 0 1396 bL_law_1396 [[], [], [], [], [], [], [], [], [], [], [], [], [896], [], [], [], [], [], [], [], [], [], [], [], [], [1645], [], [], [1486], [], [], [], []] = true := by decide +kernel
theorem qL_law_1444 : blkb mdL_law 0 1444 bL_law_1444 [[], [], [], [], [], [], [], [], [], [], []] = true := by decide +kernel
theorem qL_law_1461 : blkb mdL_law 0 1461 bL_law_1461 [[]] = true := by decide +kernel
theorem qL_law_1464 : blkb mdL_law 0 1464 bL_law_1464 [[], [], [], [], [], [], [], [], [], [], [], [], [], [], [], [], [], [908], [], [], [], [], [], [], [], [], [], [], [], [], [], [], [], [], [], [1649], [], [], [1486], [], [], [], []] = true := by decide +kernel
theorem qL_law_1524 : blkb mdL_law 0 1524 bL_law_1524 [[], [], [], [], [], [], [], [], [], [], []] = true := by decide +kernel
theorem qL_law_1541 : blkb mdL_law 0 1541 bL_law_1541 [[]] = true := by decide +kernel
theorem qL_law_1544 : blkb mdL_law 0 1544 bL_law_1544 [[], [], [], [], [], [], [], [], [], [], [], [], [], [], [], [], [], [976], [], [], [], [], [], [], [], [], [], [], [], [], [], [], [], [], [], [1657], [], [], [1486], [], [], [], []] = true := by decide +kernel
theorem qL_law_1604 : blkb mdL_law 0 1604 bL_law_1604 [[], [], [], [], [], [], [], [], [], [], []] = true := by decide +kernel
theorem qL_law_1621 : blkb mdL_law 0 1621 bL_law_1621 [[]] = true := by decide +kernel
theorem qL_law_1624 : blkb mdL_law 0 1624 bL_law_1624 [[], [], [], [], [], [], [], [], []] = true := by decide +kernel
theorem qL_law_1638 : blkb mdL_law 1639 1638 bL_law_1638 [[]] = true := by decide +kernel
theorem qL_law_1639 : blkb mdL_law 0 1639 bL_law_1639 [[249], [], [], [], [], [], [], [], [], []] = true := by decide +kernel
theorem qL_law_1656 : blkb mdL_law 1657 1656 bL_law_1656 [[]] = true := by decide +kernel
theorem qL_law_1657 : blkb mdL_law 0 1657 bL_law_1657 [[1669], [], [], []] = true := by decide +kernel
theorem qL_law_1665 : blkb mdL_law 0 1665 bL_law_1665 [[], [], [], [], [], [], [], [1003], [], [], [], [], [], [], [], [1673], [], [], [1486], [], [], [], []] = true := by decide +kernel
theorem qL_law_1701 : blkb mdL_law 0 1701 bL_law_1701 [[], [], [], [], [], [], [], [], [], [], []] = true := by decide +kernel
theorem qL_law_1718 : blkb mdL_law 0 1718 bL_law_1718 [[]] = true := by decide +kernel
theorem qL_law_1721 : blkb mdL_law 0 1721 bL_law_1721 [[], [], [], [], [], [], [], [], [], [], [], [], [1028], [], [], [], [], [], [], [], [], [], [], [], [], [1681], [], [], [1486], [], [], [], []] = true := by decide +kernel
theorem qL_law_1769 : blkb mdL_law 0 1769 bL_law_1769 [[], [], [], [], [], [], [], [], [], [], []] = true := by decide +kernel
theorem qL_law_1786 : blkb mdL_law 0 1786 bL_law_1786 [[]] = true := by decide +kernel
theorem qL_law_1789 : blkb mdL_law 0 1789 bL_law_1789 [[], [], [], [], [], [], [], [], [], [], [], [], [], [], [], [], [], [1109], [], [], [], [], [], [], [], [], [], [], [], [], [], [], [], [], [], [1709], [], [], [1486], [], [], [], []] = true := by decide +kernel
theorem qL_law_1849 : blkb mdL_law 0 1849 bL_law_1849 [[], [], [], [], [], [], [], [], [], [], []] = true := by decide +kernel
theorem qL_law_1866 : blkb mdL_law 0 1866 bL_law_1866 [[]] = true := by decide +kernel
theorem qL_law_1869 : blkb mdL_law 0 1869 bL_law_1869 [[], [], [], [], [], [], [], [], [], [], [], [], [1124], [], [], [], [], [], [], [], [], [], [], [], [], [1713], [], [], [1486], [], [], [], []] = true := by decide +kernel
theorem qL_law_1917 : blkb mdL_law 0 1917 bL_law_1917 [[], [], [], [], [], [], [], [], [], [], []] = true := by decide +kernel
theorem qL_law_1934 : blkb mdL_law 0 1934 bL_law_1934 [[]] = true := by decide +kernel
theorem qL_law_1937 : blkb mdL_law 0 1937 bL_law_1937 [[], [], [], [], [], [], [], [], [], [], [], [], [], [], [], [], [], [], [], [], [], [], [1133], [], [], [], [], [], [], [], [], [], [], [], [], [], [], [], [], [], [], [], [], [], [], [1717], [], [], [1486], [], [], [], []] = true := by decide +kernel
theorem qL_law_2009 : blkb mdL_law 0 2009 bL_law_2009 [[], [], [], [], [], [], [], [], [], [], []] = true := by decide +kernel
theorem qL_law_2026 : blkb mdL_law 0 2026 bL_law_2026 [[]] = true := by decide +kernel
theorem qL_law_2029 : blkb mdL_law 0 2029 bL_law_2029 [[], [], [], [], [], [], [], [], [], [], [], [], [], [], [], [], [], [1160], [], [], [], [], [], [], [], [], [], [], [], [], [], [], [], [], [], [1725], [], [], [1486], [], [], [], []] = true := by decide +kernel
theorem qL_law_2089 : blkb mdL_law 0 2089 bL_law_2089 [[], [], [], [], [], [], [], [], [], [], []] = true := by decide +kernel
theorem qL_law_2106 : blkb mdL_law 0 2106 bL_law_2106 [[]] = true := by decide +kernel
theorem qL_law_2109 : blkb mdL_law 0 2109 bL_law_2109 [[], [], [], [], [], [], [], [], [], [], [], [], [1174], [], [], [], [], [], [], [], [], [], [], [], [], [1729], [], [], [1486], [], [], [], []] = true := by decide +kernel
theorem qL_law_2157 : blkb mdL_law 0 2157 bL_law_2157 [[], [], [], [], [], [], [], [], [], [], []] = true := by decide +kernel
theorem qL_law_2174 : blkb mdL_law 0 2174 bL_law_2174 [[]] = true := by decide +kernel
theorem qL_law_2177 : blkb mdL_law 0 2177 bL_law_2177 [[], [], [], [], [], [], [], [1207], [], [], [], [], [], [], [], [1745], [], [], [1486], [], [], [], []] = true := by decide +kernel
theorem qL_law_2213 : blkb mdL_law 0 2213 bL_law_2213 [[], [], [], [], [], [], [], [], [], [], []] = true := by decide +kernel
theorem qL_law_2230 : blkb mdL_law 0 2230 bL_law_2230 [[]] = true := by decide +kernel
theorem qL_law_2233 : blkb mdL_law 0 2233 bL_law_2233 [[], [], [1215], [], [], [1749], [], [], [1486], [], [], [], []] = true := by decide +kernel
theorem qL_law_2257 : blkb mdL_law 0 2257 bL_law_2257 [[], [], [], [], [], [], [], [], [], [], []] = true := by decide +kernel
theorem qL_law_2274 : blkb mdL_law 0 2274 bL_law_2274 [[]] = true := by decide +kernel
theorem qL_law_2277 : blkb mdL_law 0 2277 bL_law_2277 [[], [], [], [], [], [], [], [], [], [], [], [], [1268], [], [], [], [], [], [], [], [], [], [], [], [], [1765], [], [], [1486], [], [], [], []] = true := by decide +kernel
theorem qL_law_2325 : blkb mdL_law 0 2325 bL_law_2325 [[], [], [], [], [], [], [], [], [], [], []] = true := by decide +kernel
theorem qL_law_2342 : blkb mdL_law 0 2342 bL_law_2342 [[]] = true := by decide +kernel
theorem qL_law_2345 : blkb mdL_law 0 2345 bL_law_2345 [[], [], [], [], [], [], [], [], [], [], [], [], [1280], [], [], [], [], [], [], [], [], [], [], [], [], [1773], [], [], [1486], [], [], [], []] = true := by decide +kernel
theorem qL_law_2393 : blkb mdL_law 0 2393 bL_law_2393 [[], [], [], [], [], [], [], [], [], [], []] = true := by decide +kernel
theorem qL_law_2410 : blkb mdL_law 0 2410 bL_law_2410 [[]] = true := by decide +kernel
theorem qL_law_2413 : blkb mdL_law 0 2413 bL_law_2413 [[], [], [], [], [], [], [], [], [], [], [], [], [], [], [], [], [], [1289], [], [], [], [], [], [], [], [], [], [], [], [], [], [], [], [], [], [1777], [], [], [1486], [], [], [], []] = true := by decide +kernel
theorem qL_law_2473 : blkb mdL_law 0 2473 bL_law_2473 [[], [], [], [], [], [], [], [], [], [], []] = true := by decide +kernel
theorem qL_law_2490 : blkb mdL_law 0 2490 bL_law_2490 [[]] = true := by decide +kernel
theorem qL_law_2493 : blkb mdL_law 0 2493 bL_law_2493 [[], [], [], [], [], [], [], [], [], [], [], [], [1300], [], [], [], [], [], [], [], [], [], [], [], [], [1781], [], [], [1486], [], [], [], []] = true := by decide +kernel
theorem qL_law_2541 : blkb mdL_law 0 2541 bL_law_2541 [[], [], [], [], [], [], [], [], []] = true := by decide +kernel
theorem qL_law_2558 : blkb mdL_law 2559 2558 bL_law_2558 [[]] = true := by decide +kernel
theorem qL_law_2559 : blkb mdL_law 0 2559 bL_law_2559 [[], [], [], []] = true := by decide +kernel
theorem qL_law_2565 : blkb mdL_law 0 2565 bL_law_2565 [[]] = true := by decide +kernel
theorem qL_law_2568 : blkb mdL_law 0 2568 bL_law_2568 [[], [], [], [], [], [], [], [], [], [], [], [], [1316], [], [], [], [], [], [], [], [], [], [], [], [], [1793], [], [], [1486], [], [], [], []] = true := by decide +kernel
theorem qL_law_2616 : blkb mdL_law 0 2616 bL_law_2616 [[], [], [], [], [], [], [], [], [], [], []] = true := by decide +kernel
theorem qL_law_2633 : blkb mdL_law 0 2633 bL_law_2633 [[]] = true := by decide +kernel
theorem qL_law_2636 : blkb mdL_law 0 2636 bL_law_2636 [[], []] = true := by decide +kernel
theorem qL_law_2642 : blkb mdL_law 0 2642 bL_law_2642 [[], []] = true := by decide +kernel
theorem pL_law (hA : AOK) (r : Rt) (kb : Co) : RsB mdL_law r kb (rL_law kb) := by
  have h2642 : RsB mdL_law r kb (tL_law_2642 kb) := row_0
  have h2636 : RsB mdL_law r kb (tL_law_2636 kb) := row_B hA h2642 qL_law_2642 (ck_n rfl) rfl (fun xs ys s => eL_law_2642 kb s)
  have h2633 : RsB mdL_law r kb (tL_law_2633 kb) := row_B hA h2636 qL_law_2636 (ck_n rfl) rfl (fun xs ys s => eL_law_2636 kb (xs.getD 0 0) (xs.getD 1 0) (xs.getD 2 0) (xs.getD 3 0) (xs.getD 4 0) s)
  have h2616 : RsB mdL_law r kb (tL_law_2616 kb) := row_B hA h2633 qL_law_2633 (ck_n rfl) rfl (fun xs ys s => eL_law_2633 kb (xs.getD 0 0) (xs.getD 1 0) (xs.getD 2 0) (xs.getD 3 0) (xs.getD 4 0) s)
  have h2568 : RsB mdL_law r kb (tL_law_2568 kb) := row_B hA h2616 qL_law_2616 (ck_n rfl) rfl (fun xs ys s => eL_law_2616 kb (xs.getD 0 0) (xs.getD 1 0) (xs.getD 2 0) (xs.getD 3 0) (xs.getD 4 0) (xs.getD 5 0) (xs.getD 6 0) s)
  have h2565 : RsB mdL_law r kb (tL_law_2565 kb) := row_B hA h2568 qL_law_2568 (And.intro trivial (And.intro trivial (And.intro trivial (And.intro trivial (And.intro trivial (And.intro trivial (And.intro trivial (And.intro trivial (And.intro trivial (And.intro trivial (And.intro trivial (And.intro trivial (And.intro (co_of mkL_table (iL_table hA)) (And.intro trivial (And.intro trivial (And.intro trivial (And.intro trivial (And.intro trivial (And.intro trivial (And.intro trivial (And.intro trivial (And.intro trivial (And.intro trivial (And.intro trivial (And.intro trivial (And.intro (co_of mkX12_table (iX12_table hA)) (And.intro trivial (And.intro trivial (And.intro (co_of mkX12_thrown (iX12_thrown hA)) (ck_n rfl)))))))))))))))))))))))))))))) rfl (fun xs ys s => eL_law_2568 kb (xs.getD 0 0) (xs.getD 1 0) (xs.getD 2 0) (xs.getD 3 0) (xs.getD 4 0) s)
  have h2559 : RsB mdL_law r kb (tL_law_2559 kb) := row_B hA h2565 qL_law_2565 (ck_n rfl) rfl (fun xs ys s => eL_law_2565 kb (xs.getD 0 0) (xs.getD 1 0) (xs.getD 2 0) (xs.getD 3 0) (xs.getD 4 0) s)
  have h2558 : RsB mdL_law r kb (tL_law_2558 kb) := row_B hA h2559 qL_law_2559 (ck_n rfl) rfl (fun xs ys s => eL_law_2559 kb (xs.getD 0 0) (xs.getD 1 0) (xs.getD 2 0) (xs.getD 3 0) (xs.getD 4 0) (ys.getD 0 0) (ys.getD 1 0) s)
  have h2541 : RsB mdL_law r kb (tL_law_2541 kb) := row_B hA h2558 qL_law_2558 (ck_n rfl) rfl (fun xs ys s => eL_law_2558 kb (xs.getD 0 0) (xs.getD 1 0) (xs.getD 2 0) (xs.getD 3 0) (xs.getD 4 0) (ys.getD 0 0) s)
  have h2493 : RsB mdL_law r kb (tL_law_2493 kb) := row_B hA h2541 qL_law_2541 (ck_n rfl) rfl (fun xs ys s => eL_law_2541 kb (xs.getD 0 0) (xs.getD 1 0) (xs.getD 2 0) (xs.getD 3 0) (xs.getD 4 0) (xs.getD 5 0) (xs.getD 6 0) s)
  have h2490 : RsB mdL_law r kb (tL_law_2490 kb) := row_B hA h2493 qL_law_2493 (And.intro trivial (And.intro trivial (And.intro trivial (And.intro trivial (And.intro trivial (And.intro trivial (And.intro trivial (And.intro trivial (And.intro trivial (And.intro trivial (And.intro trivial (And.intro trivial (And.intro (co_of mkL_isDoubted (iL_isDoubted hA)) (And.intro trivial (And.intro trivial (And.intro trivial (And.intro trivial (And.intro trivial (And.intro trivial (And.intro trivial (And.intro trivial (And.intro trivial (And.intro trivial (And.intro trivial (And.intro trivial (And.intro (co_of mkX12_isDoubted (iX12_isDoubted hA)) (And.intro trivial (And.intro trivial (And.intro (co_of mkX12_thrown (iX12_thrown hA)) (ck_n rfl)))))))))))))))))))))))))))))) rfl (fun xs ys s => eL_law_2493 kb (xs.getD 0 0) (xs.getD 1 0) (xs.getD 2 0) (xs.getD 3 0) (xs.getD 4 0) s)
  have h2473 : RsB mdL_law r kb (tL_law_2473 kb) := row_B hA h2490 qL_law_2490 (ck_n rfl) rfl (fun xs ys s => eL_law_2490 kb (xs.getD 0 0) (xs.getD 1 0) (xs.getD 2 0) (xs.getD 3 0) (xs.getD 4 0) s)
  have h2413 : RsB mdL_law r kb (tL_law_2413 kb) := row_B hA h2473 qL_law_2473 (ck_n rfl) rfl (fun xs ys s => eL_law_2473 kb (xs.getD 0 0) (xs.getD 1 0) (xs.getD 2 0) (xs.getD 3 0) (xs.getD 4 0) (xs.getD 5 0) (xs.getD 6 0) s)
  have h2410 : RsB mdL_law r kb (tL_law_2410 kb) := row_B hA h2413 qL_law_2413 (And.intro trivial (And.intro trivial (And.intro trivial (And.intro trivial (And.intro trivial (And.intro trivial (And.intro trivial (And.intro trivial (And.intro trivial (And.intro trivial (And.intro trivial (And.intro trivial (And.intro trivial (And.intro trivial (And.intro trivial (And.intro trivial (And.intro trivial (And.intro (co_of mkL_penaltyAt (iL_penaltyAt hA)) (And.intro trivial (And.intro trivial (And.intro trivial (And.intro trivial (And.intro trivial (And.intro trivial (And.intro trivial (And.intro trivial (And.intro trivial (And.intro trivial (And.intro trivial (And.intro trivial (And.intro trivial (And.intro trivial (And.intro trivial (And.intro trivial (And.intro trivial (And.intro (co_of mkX12_penaltyAt (iX12_penaltyAt hA)) (And.intro trivial (And.intro trivial (And.intro (co_of mkX12_thrown (iX12_thrown hA)) (ck_n rfl)))))))))))))))))))))))))))))))))))))))) rfl (fun xs ys s => eL_law_2413 kb (xs.getD 0 0) (xs.getD 1 0) (xs.getD 2 0) (xs.getD 3 0) (xs.getD 4 0) s)
  have h2393 : RsB mdL_law r kb (tL_law_2393 kb) := row_B hA h2410 qL_law_2410 (ck_n rfl) rfl (fun xs ys s => eL_law_2410 kb (xs.getD 0 0) (xs.getD 1 0) (xs.getD 2 0) (xs.getD 3 0) (xs.getD 4 0) s)
  have h2345 : RsB mdL_law r kb (tL_law_2345 kb) := row_B hA h2393 qL_law_2393 (ck_n rfl) rfl (fun xs ys s => eL_law_2393 kb (xs.getD 0 0) (xs.getD 1 0) (xs.getD 2 0) (xs.getD 3 0) (xs.getD 4 0) (xs.getD 5 0) (xs.getD 6 0) s)
  have h2342 : RsB mdL_law r kb (tL_law_2342 kb) := row_B hA h2345 qL_law_2345 (And.intro trivial (And.intro trivial (And.intro trivial (And.intro trivial (And.intro trivial (And.intro trivial (And.intro trivial (And.intro trivial (And.intro trivial (And.intro trivial (And.intro trivial (And.intro trivial (And.intro (co_of mkL_notes (iL_notes hA)) (And.intro trivial (And.intro trivial (And.intro trivial (And.intro trivial (And.intro trivial (And.intro trivial (And.intro trivial (And.intro trivial (And.intro trivial (And.intro trivial (And.intro trivial (And.intro trivial (And.intro (co_of mkX12_notes (iX12_notes hA)) (And.intro trivial (And.intro trivial (And.intro (co_of mkX12_thrown (iX12_thrown hA)) (ck_n rfl)))))))))))))))))))))))))))))) rfl (fun xs ys s => eL_law_2345 kb (xs.getD 0 0) (xs.getD 1 0) (xs.getD 2 0) (xs.getD 3 0) (xs.getD 4 0) s)
  have h2325 : RsB mdL_law r kb (tL_law_2325 kb) := row_B hA h2342 qL_law_2342 (ck_n rfl) rfl (fun xs ys s => eL_law_2342 kb (xs.getD 0 0) (xs.getD 1 0) (xs.getD 2 0) (xs.getD 3 0) (xs.getD 4 0) s)
  have h2277 : RsB mdL_law r kb (tL_law_2277 kb) := row_B hA h2325 qL_law_2325 (ck_n rfl) rfl (fun xs ys s => eL_law_2325 kb (xs.getD 0 0) (xs.getD 1 0) (xs.getD 2 0) (xs.getD 3 0) (xs.getD 4 0) (xs.getD 5 0) (xs.getD 6 0) s)
  have h2274 : RsB mdL_law r kb (tL_law_2274 kb) := row_B hA h2277 qL_law_2277 (And.intro trivial (And.intro trivial (And.intro trivial (And.intro trivial (And.intro trivial (And.intro trivial (And.intro trivial (And.intro trivial (And.intro trivial (And.intro trivial (And.intro trivial (And.intro trivial (And.intro (co_of mkL_about (iL_about hA)) (And.intro trivial (And.intro trivial (And.intro trivial (And.intro trivial (And.intro trivial (And.intro trivial (And.intro trivial (And.intro trivial (And.intro trivial (And.intro trivial (And.intro trivial (And.intro trivial (And.intro (co_of mkX12_about (iX12_about hA)) (And.intro trivial (And.intro trivial (And.intro (co_of mkX12_thrown (iX12_thrown hA)) (ck_n rfl)))))))))))))))))))))))))))))) rfl (fun xs ys s => eL_law_2277 kb (xs.getD 0 0) (xs.getD 1 0) (xs.getD 2 0) (xs.getD 3 0) (xs.getD 4 0) s)
  have h2257 : RsB mdL_law r kb (tL_law_2257 kb) := row_B hA h2274 qL_law_2274 (ck_n rfl) rfl (fun xs ys s => eL_law_2274 kb (xs.getD 0 0) (xs.getD 1 0) (xs.getD 2 0) (xs.getD 3 0) (xs.getD 4 0) s)
  have h2233 : RsB mdL_law r kb (tL_law_2233 kb) := row_B hA h2257 qL_law_2257 (ck_n rfl) rfl (fun xs ys s => eL_law_2257 kb (xs.getD 0 0) (xs.getD 1 0) (xs.getD 2 0) (xs.getD 3 0) (xs.getD 4 0) (xs.getD 5 0) (xs.getD 6 0) s)
  have h2230 : RsB mdL_law r kb (tL_law_2230 kb) := row_B hA h2233 qL_law_2233 (And.intro trivial (And.intro trivial (And.intro (co_of mkL_endYear (iL_endYear hA)) (And.intro trivial (And.intro trivial (And.intro (co_of mkX12_endYear (iX12_endYear hA)) (And.intro trivial (And.intro trivial (And.intro (co_of mkX12_thrown (iX12_thrown hA)) (ck_n rfl)))))))))) rfl (fun xs ys s => eL_law_2233 kb (xs.getD 0 0) (xs.getD 1 0) (xs.getD 2 0) (xs.getD 3 0) (xs.getD 4 0) s)
  have h2213 : RsB mdL_law r kb (tL_law_2213 kb) := row_B hA h2230 qL_law_2230 (ck_n rfl) rfl (fun xs ys s => eL_law_2230 kb (xs.getD 0 0) (xs.getD 1 0) (xs.getD 2 0) (xs.getD 3 0) (xs.getD 4 0) s)
  have h2177 : RsB mdL_law r kb (tL_law_2177 kb) := row_B hA h2213 qL_law_2213 (ck_n rfl) rfl (fun xs ys s => eL_law_2213 kb (xs.getD 0 0) (xs.getD 1 0) (xs.getD 2 0) (xs.getD 3 0) (xs.getD 4 0) (xs.getD 5 0) (xs.getD 6 0) s)
  have h2174 : RsB mdL_law r kb (tL_law_2174 kb) := row_B hA h2177 qL_law_2177 (And.intro trivial (And.intro trivial (And.intro trivial (And.intro trivial (And.intro trivial (And.intro trivial (And.intro trivial (And.intro (co_of mkL_draw (iL_draw hA)) (And.intro trivial (And.intro trivial (And.intro trivial (And.intro trivial (And.intro trivial (And.intro trivial (And.intro trivial (And.intro (co_of mkX12_draw (iX12_draw hA)) (And.intro trivial (And.intro trivial (And.intro (co_of mkX12_thrown (iX12_thrown hA)) (ck_n rfl)))))))))))))))))))) rfl (fun xs ys s => eL_law_2177 kb (xs.getD 0 0) (xs.getD 1 0) (xs.getD 2 0) (xs.getD 3 0) (xs.getD 4 0) s)
  have h2157 : RsB mdL_law r kb (tL_law_2157 kb) := row_B hA h2174 qL_law_2174 (ck_n rfl) rfl (fun xs ys s => eL_law_2174 kb (xs.getD 0 0) (xs.getD 1 0) (xs.getD 2 0) (xs.getD 3 0) (xs.getD 4 0) s)
  have h2109 : RsB mdL_law r kb (tL_law_2109 kb) := row_B hA h2157 qL_law_2157 (ck_n rfl) rfl (fun xs ys s => eL_law_2157 kb (xs.getD 0 0) (xs.getD 1 0) (xs.getD 2 0) (xs.getD 3 0) (xs.getD 4 0) (xs.getD 5 0) (xs.getD 6 0) s)
  have h2106 : RsB mdL_law r kb (tL_law_2106 kb) := row_B hA h2109 qL_law_2109 (And.intro trivial (And.intro trivial (And.intro trivial (And.intro trivial (And.intro trivial (And.intro trivial (And.intro trivial (And.intro trivial (And.intro trivial (And.intro trivial (And.intro trivial (And.intro trivial (And.intro (co_of mkL_appeal (iL_appeal hA)) (And.intro trivial (And.intro trivial (And.intro trivial (And.intro trivial (And.intro trivial (And.intro trivial (And.intro trivial (And.intro trivial (And.intro trivial (And.intro trivial (And.intro trivial (And.intro trivial (And.intro (co_of mkX12_appeal (iX12_appeal hA)) (And.intro trivial (And.intro trivial (And.intro (co_of mkX12_thrown (iX12_thrown hA)) (ck_n rfl)))))))))))))))))))))))))))))) rfl (fun xs ys s => eL_law_2109 kb (xs.getD 0 0) (xs.getD 1 0) (xs.getD 2 0) (xs.getD 3 0) (xs.getD 4 0) s)
  have h2089 : RsB mdL_law r kb (tL_law_2089 kb) := row_B hA h2106 qL_law_2106 (ck_n rfl) rfl (fun xs ys s => eL_law_2106 kb (xs.getD 0 0) (xs.getD 1 0) (xs.getD 2 0) (xs.getD 3 0) (xs.getD 4 0) s)
  have h2029 : RsB mdL_law r kb (tL_law_2029 kb) := row_B hA h2089 qL_law_2089 (ck_n rfl) rfl (fun xs ys s => eL_law_2089 kb (xs.getD 0 0) (xs.getD 1 0) (xs.getD 2 0) (xs.getD 3 0) (xs.getD 4 0) (xs.getD 5 0) (xs.getD 6 0) s)
  have h2026 : RsB mdL_law r kb (tL_law_2026 kb) := row_B hA h2029 qL_law_2029 (And.intro trivial (And.intro trivial (And.intro trivial (And.intro trivial (And.intro trivial (And.intro trivial (And.intro trivial (And.intro trivial (And.intro trivial (And.intro trivial (And.intro trivial (And.intro trivial (And.intro trivial (And.intro trivial (And.intro trivial (And.intro trivial (And.intro trivial (And.intro (co_of mkL_penalty (iL_penalty hA)) (And.intro trivial (And.intro trivial (And.intro trivial (And.intro trivial (And.intro trivial (And.intro trivial (And.intro trivial (And.intro trivial (And.intro trivial (And.intro trivial (And.intro trivial (And.intro trivial (And.intro trivial (And.intro trivial (And.intro trivial (And.intro trivial (And.intro trivial (And.intro (co_of mkX12_penalty (iX12_penalty hA)) (And.intro trivial (And.intro trivial (And.intro (co_of mkX12_thrown (iX12_thrown hA)) (ck_n rfl)))))))))))))))))))))))))))))))))))))))) rfl (fun xs ys s => eL_law_2029 kb (xs.getD 0 0) (xs.getD 1 0) (xs.getD 2 0) (xs.getD 3 0) (xs.getD 4 0) s)
  have h2009 : RsB mdL_law r kb (tL_law_2009 kb) := row_B hA h2026 qL_law_2026 (ck_n rfl) rfl (fun xs ys s => eL_law_2026 kb (xs.getD 0 0) (xs.getD 1 0) (xs.getD 2 0) (xs.getD 3 0) (xs.getD 4 0) s)
  have h1937 : RsB mdL_law r kb (tL_law_1937 kb) := row_B hA h2009 qL_law_2009 (ck_n rfl) rfl (fun xs ys s => eL_law_2009 kb (xs.getD 0 0) (xs.getD 1 0) (xs.getD 2 0) (xs.getD 3 0) (xs.getD 4 0) (xs.getD 5 0) (xs.getD 6 0) s)
  have h1934 : RsB mdL_law r kb (tL_law_1934 kb) := row_B hA h1937 qL_law_1937 (And.intro trivial (And.intro trivial (And.intro trivial (And.intro trivial (And.intro trivial (And.intro trivial (And.intro trivial (And.intro trivial (And.intro trivial (And.intro trivial (And.intro trivial (And.intro trivial (And.intro trivial (And.intro trivial (And.intro trivial (And.intro trivial (And.intro trivial (And.intro trivial (And.intro trivial (And.intro trivial (And.intro trivial (And.intro trivial (And.intro (co_of mkL_note (iL_note hA)) (And.intro trivial (And.intro trivial (And.intro trivial (And.intro trivial (And.intro trivial (And.intro trivial (And.intro trivial (And.intro trivial (And.intro trivial (And.intro trivial (And.intro trivial (And.intro trivial (And.intro trivial (And.intro trivial (And.intro trivial (And.intro trivial (And.intro trivial (And.intro trivial (And.intro trivial (And.intro trivial (And.intro trivial (And.intro trivial (And.intro (co_of mkX12_note (iX12_note hA)) (And.intro trivial (And.intro trivial (And.intro (co_of mkX12_thrown (iX12_thrown hA)) (ck_n rfl)))))))))))))))))))))))))))))))))))))))))))))))))) rfl (fun xs ys s => eL_law_1937 kb (xs.getD 0 0) (xs.getD 1 0) (xs.getD 2 0) (xs.getD 3 0) (xs.getD 4 0) s)
  have h1917 : RsB mdL_law r kb (tL_law_1917 kb) := row_B hA h1934 qL_law_1934 (ck_n rfl) rfl (fun xs ys s => eL_law_1934 kb (xs.getD 0 0) (xs.getD 1 0) (xs.getD 2 0) (xs.getD 3 0) (xs.getD 4 0) s)
  have h1869 : RsB mdL_law r kb (tL_law_1869 kb) := row_B hA h1917 qL_law_1917 (ck_n rfl) rfl (fun xs ys s => eL_law_1917 kb (xs.getD 0 0) (xs.getD 1 0) (xs.getD 2 0) (xs.getD 3 0) (xs.getD 4 0) (xs.getD 5 0) (xs.getD 6 0) s)
  have h1866 : RsB mdL_law r kb (tL_law_1866 kb) := row_B hA h1869 qL_law_1869 (And.intro trivial (And.intro trivial (And.intro trivial (And.intro trivial (And.intro trivial (And.intro trivial (And.intro trivial (And.intro trivial (And.intro trivial (And.intro trivial (And.intro trivial (And.intro trivial (And.intro (co_of mkL_clock (iL_clock hA)) (And.intro trivial (And.intro trivial (And.intro trivial (And.intro trivial (And.intro trivial (And.intro trivial (And.intro trivial (And.intro trivial (And.intro trivial (And.intro trivial (And.intro trivial (And.intro trivial (And.intro (co_of mkX12_clock (iX12_clock hA)) (And.intro trivial (And.intro trivial (And.intro (co_of mkX12_thrown (iX12_thrown hA)) (ck_n rfl)))))))))))))))))))))))))))))) rfl (fun xs ys s => eL_law_1869 kb (xs.getD 0 0) (xs.getD 1 0) (xs.getD 2 0) (xs.getD 3 0) (xs.getD 4 0) s)
  have h1849 : RsB mdL_law r kb (tL_law_1849 kb) := row_B hA h1866 qL_law_1866 (ck_n rfl) rfl (fun xs ys s => eL_law_1866 kb (xs.getD 0 0) (xs.getD 1 0) (xs.getD 2 0) (xs.getD 3 0) (xs.getD 4 0) s)
  have h1789 : RsB mdL_law r kb (tL_law_1789 kb) := row_B hA h1849 qL_law_1849 (ck_n rfl) rfl (fun xs ys s => eL_law_1849 kb (xs.getD 0 0) (xs.getD 1 0) (xs.getD 2 0) (xs.getD 3 0) (xs.getD 4 0) (xs.getD 5 0) (xs.getD 6 0) s)
  have h1786 : RsB mdL_law r kb (tL_law_1786 kb) := row_B hA h1789 qL_law_1789 (And.intro trivial (And.intro trivial (And.intro trivial (And.intro trivial (And.intro trivial (And.intro trivial (And.intro trivial (And.intro trivial (And.intro trivial (And.intro trivial (And.intro trivial (And.intro trivial (And.intro trivial (And.intro trivial (And.intro trivial (And.intro trivial (And.intro trivial (And.intro (co_of mkL_part (iL_part hA)) (And.intro trivial (And.intro trivial (And.intro trivial (And.intro trivial (And.intro trivial (And.intro trivial (And.intro trivial (And.intro trivial (And.intro trivial (And.intro trivial (And.intro trivial (And.intro trivial (And.intro trivial (And.intro trivial (And.intro trivial (And.intro trivial (And.intro trivial (And.intro (co_of mkX12_part (iX12_part hA)) (And.intro trivial (And.intro trivial (And.intro (co_of mkX12_thrown (iX12_thrown hA)) (ck_n rfl)))))))))))))))))))))))))))))))))))))))) rfl (fun xs ys s => eL_law_1789 kb (xs.getD 0 0) (xs.getD 1 0) (xs.getD 2 0) (xs.getD 3 0) (xs.getD 4 0) s)
  have h1769 : RsB mdL_law r kb (tL_law_1769 kb) := row_B hA h1786 qL_law_1786 (ck_n rfl) rfl (fun xs ys s => eL_law_1786 kb (xs.getD 0 0) (xs.getD 1 0) (xs.getD 2 0) (xs.getD 3 0) (xs.getD 4 0) s)
  have h1721 : RsB mdL_law r kb (tL_law_1721 kb) := row_B hA h1769 qL_law_1769 (ck_n rfl) rfl (fun xs ys s => eL_law_1769 kb (xs.getD 0 0) (xs.getD 1 0) (xs.getD 2 0) (xs.getD 3 0) (xs.getD 4 0) (xs.getD 5 0) (xs.getD 6 0) s)
  have h1718 : RsB mdL_law r kb (tL_law_1718 kb) := row_B hA h1721 qL_law_1721 (And.intro trivial (And.intro trivial (And.intro trivial (And.intro trivial (And.intro trivial (And.intro trivial (And.intro trivial (And.intro trivial (And.intro trivial (And.intro trivial (And.intro trivial (And.intro trivial (And.intro (co_of mkL_march (iL_march hA)) (And.intro trivial (And.intro trivial (And.intro trivial (And.intro trivial (And.intro trivial (And.intro trivial (And.intro trivial (And.intro trivial (And.intro trivial (And.intro trivial (And.intro trivial (And.intro trivial (And.intro (co_of mkX12_march (iX12_march hA)) (And.intro trivial (And.intro trivial (And.intro (co_of mkX12_thrown (iX12_thrown hA)) (ck_n rfl)))))))))))))))))))))))))))))) rfl (fun xs ys s => eL_law_1721 kb (xs.getD 0 0) (xs.getD 1 0) (xs.getD 2 0) (xs.getD 3 0) (xs.getD 4 0) s)
  have h1701 : RsB mdL_law r kb (tL_law_1701 kb) := row_B hA h1718 qL_law_1718 (ck_n rfl) rfl (fun xs ys s => eL_law_1718 kb (xs.getD 0 0) (xs.getD 1 0) (xs.getD 2 0) (xs.getD 3 0) (xs.getD 4 0) s)
  have h1665 : RsB mdL_law r kb (tL_law_1665 kb) := row_B hA h1701 qL_law_1701 (ck_n rfl) rfl (fun xs ys s => eL_law_1701 kb (xs.getD 0 0) (xs.getD 1 0) (xs.getD 2 0) (xs.getD 3 0) (xs.getD 4 0) (xs.getD 5 0) (xs.getD 6 0) s)
  have h1657 : RsB mdL_law r kb (tL_law_1657 kb) := row_B hA h1665 qL_law_1665 (And.intro trivial (And.intro trivial (And.intro trivial (And.intro trivial (And.intro trivial (And.intro trivial (And.intro trivial (And.intro (co_of mkL_ambulance (iL_ambulance hA)) (And.intro trivial (And.intro trivial (And.intro trivial (And.intro trivial (And.intro trivial (And.intro trivial (And.intro trivial (And.intro (co_of mkX12_ambulance (iX12_ambulance hA)) (And.intro trivial (And.intro trivial (And.intro (co_of mkX12_thrown (iX12_thrown hA)) (ck_n rfl)))))))))))))))))))) rfl (fun xs ys s => eL_law_1665 kb (xs.getD 0 0) (xs.getD 1 0) (xs.getD 2 0) (xs.getD 3 0) (xs.getD 4 0) s)
  have h1656 : RsB mdL_law r kb (tL_law_1656 kb) := row_B hA h1657 qL_law_1657 (And.intro (co_of mkX12_rain (iX12_rain hA)) (ck_n rfl)) rfl (fun xs ys s => eL_law_1657 kb (xs.getD 0 0) (xs.getD 1 0) (xs.getD 2 0) (xs.getD 3 0) (xs.getD 4 0) (ys.getD 0 0) (ys.getD 1 0) (ys.getD 2 0) s)
  have h1639 : RsB mdL_law r kb (tL_law_1639 kb) := row_B hA h1656 qL_law_1656 (ck_n rfl) rfl (fun xs ys s => eL_law_1656 kb (xs.getD 0 0) (xs.getD 1 0) (xs.getD 2 0) (xs.getD 3 0) (xs.getD 4 0) (ys.getD 0 0) (ys.getD 1 0) s)
  have h1638 : RsB mdL_law r kb (tL_law_1638 kb) := row_B hA h1639 qL_law_1639 (And.intro (co_of mkX11_rain (iX11_rain hA)) (ck_n rfl)) rfl (fun xs ys s => eL_law_1639 kb (xs.getD 0 0) (xs.getD 1 0) (xs.getD 2 0) (xs.getD 3 0) (xs.getD 4 0) (ys.getD 0 0) (ys.getD 1 0) s)
  have h1624 : RsB mdL_law r kb (tL_law_1624 kb) := row_B hA h1638 qL_law_1638 (ck_n rfl) rfl (fun xs ys s => eL_law_1638 kb (xs.getD 0 0) (xs.getD 1 0) (xs.getD 2 0) (xs.getD 3 0) (xs.getD 4 0) (ys.getD 0 0) s)
  have h1621 : RsB mdL_law r kb (tL_law_1621 kb) := row_B hA h1624 qL_law_1624 (ck_n rfl) rfl (fun xs ys s => eL_law_1624 kb (xs.getD 0 0) (xs.getD 1 0) (xs.getD 2 0) (xs.getD 3 0) (xs.getD 4 0) s)
  have h1604 : RsB mdL_law r kb (tL_law_1604 kb) := row_B hA h1621 qL_law_1621 (ck_n rfl) rfl (fun xs ys s => eL_law_1621 kb (xs.getD 0 0) (xs.getD 1 0) (xs.getD 2 0) (xs.getD 3 0) (xs.getD 4 0) s)
  have h1544 : RsB mdL_law r kb (tL_law_1544 kb) := row_B hA h1604 qL_law_1604 (ck_n rfl) rfl (fun xs ys s => eL_law_1604 kb (xs.getD 0 0) (xs.getD 1 0) (xs.getD 2 0) (xs.getD 3 0) (xs.getD 4 0) (xs.getD 5 0) (xs.getD 6 0) s)
  have h1541 : RsB mdL_law r kb (tL_law_1541 kb) := row_B hA h1544 qL_law_1544 (And.intro trivial (And.intro trivial (And.intro trivial (And.intro trivial (And.intro trivial (And.intro trivial (And.intro trivial (And.intro trivial (And.intro trivial (And.intro trivial (And.intro trivial (And.intro trivial (And.intro trivial (And.intro trivial (And.intro trivial (And.intro trivial (And.intro trivial (And.intro (co_of mkL_stop (iL_stop hA)) (And.intro trivial (And.intro trivial (And.intro trivial (And.intro trivial (And.intro trivial (And.intro trivial (And.intro trivial (And.intro trivial (And.intro trivial (And.intro trivial (And.intro trivial (And.intro trivial (And.intro trivial (And.intro trivial (And.intro trivial (And.intro trivial (And.intro trivial (And.intro (co_of mkX12_stop (iX12_stop hA)) (And.intro trivial (And.intro trivial (And.intro (co_of mkX12_thrown (iX12_thrown hA)) (ck_n rfl)))))))))))))))))))))))))))))))))))))))) rfl (fun xs ys s => eL_law_1544 kb (xs.getD 0 0) (xs.getD 1 0) (xs.getD 2 0) (xs.getD 3 0) (xs.getD 4 0) s)
  have h1524 : RsB mdL_law r kb (tL_law_1524 kb) := row_B hA h1541 qL_law_1541 (ck_n rfl) rfl (fun xs ys s => eL_law_1541 kb (xs.getD 0 0) (xs.getD 1 0) (xs.getD 2 0) (xs.getD 3 0) (xs.getD 4 0) s)
  have h1464 : RsB mdL_law r kb (tL_law_1464 kb) := row_B hA h1524 qL_law_1524 (ck_n rfl) rfl (fun xs ys s => eL_law_1524 kb (xs.getD 0 0) (xs.getD 1 0) (xs.getD 2 0) (xs.getD 3 0) (xs.getD 4 0) (xs.getD 5 0) (xs.getD 6 0) s)
  have h1461 : RsB mdL_law r kb (tL_law_1461 kb) := row_B hA h1464 qL_law_1464 (And.intro trivial (And.intro trivial (And.intro trivial (And.intro trivial (And.intro trivial (And.intro trivial (And.intro trivial (And.intro trivial (And.intro trivial (And.intro trivial (And.intro trivial (And.intro trivial (And.intro trivial (And.intro trivial (And.intro trivial (And.intro trivial (And.intro trivial (And.intro (co_of mkL_begin (iL_begin hA)) (And.intro trivial (And.intro trivial (And.intro trivial (And.intro trivial (And.intro trivial (And.intro trivial (And.intro trivial (And.intro trivial (And.intro trivial (And.intro trivial (And.intro trivial (And.intro trivial (And.intro trivial (And.intro trivial (And.intro trivial (And.intro trivial (And.intro trivial (And.intro (co_of mkX12_begin (iX12_begin hA)) (And.intro trivial (And.intro trivial (And.intro (co_of mkX12_thrown (iX12_thrown hA)) (ck_n rfl)))))))))))))))))))))))))))))))))))))))) rfl (fun xs ys s => eL_law_1464 kb (xs.getD 0 0) (xs.getD 1 0) (xs.getD 2 0) (xs.getD 3 0) (xs.getD 4 0) s)
  have h1444 : RsB mdL_law r kb (tL_law_1444 kb) := row_B hA h1461 qL_law_1461 (ck_n rfl) rfl (fun xs ys s => eL_law_1461 kb (xs.getD 0 0) (xs.getD 1 0) (xs.getD 2 0) (xs.getD 3 0) (xs.getD 4 0) s)
  have h1396 : RsB mdL_law r kb (tL_law_1396 kb) := row_B hA h1444 qL_law_1444 (ck_n rfl) rfl (fun xs ys s => eL_law_1444 kb (xs.getD 0 0) (xs.getD 1 0) (xs.getD 2 0) (xs.getD 3 0) (xs.getD 4 0) (xs.getD 5 0) (xs.getD 6 0) s)
  have h1393 : RsB mdL_law r kb (tL_law_1393 kb) := row_B hA h1396 qL_law_1396 (And.intro trivial (And.intro trivial (And.intro trivial (And.intro trivial (And.intro trivial (And.intro trivial (And.intro trivial (And.intro trivial (And.intro trivial (And.intro trivial (And.intro trivial (And.intro trivial (And.intro (co_of mkL_order (iL_order hA)) (And.intro trivial (And.intro trivial (And.intro trivial (And.intro trivial (And.intro trivial (And.intro trivial (And.intro trivial (And.intro trivial (And.intro trivial (And.intro trivial (And.intro trivial (And.intro trivial (And.intro (co_of mkX12_order (iX12_order hA)) (And.intro trivial (And.intro trivial (And.intro (co_of mkX12_thrown (iX12_thrown hA)) (ck_n rfl)))))))))))))))))))))))))))))) rfl (fun xs ys s => eL_law_1396 kb (xs.getD 0 0) (xs.getD 1 0) (xs.getD 2 0) (xs.getD 3 0) (xs.getD 4 0) s)
  have h1387 : RsB mdL_law r kb (tL_law_1387 kb) := row_B hA h1393 qL_law_1393 (ck_n rfl) rfl (fun xs ys s => eL_law_1393 kb (xs.getD 0 0) (xs.getD 1 0) (xs.getD 2 0) (xs.getD 3 0) (xs.getD 4 0) s)
  have h1386 : RsB mdL_law r kb (tL_law_1386 kb) := row_B hA h1387 qL_law_1387 (ck_n rfl) rfl (fun xs ys s => eL_law_1387 kb (xs.getD 0 0) (xs.getD 1 0) (xs.getD 2 0) (xs.getD 3 0) (xs.getD 4 0) (ys.getD 0 0) (ys.getD 1 0) s)
  have h1369 : RsB mdL_law r kb (tL_law_1369 kb) := row_B hA h1386 qL_law_1386 (ck_n rfl) rfl (fun xs ys s => eL_law_1386 kb (xs.getD 0 0) (xs.getD 1 0) (xs.getD 2 0) (xs.getD 3 0) (xs.getD 4 0) (ys.getD 0 0) s)
  have h1321 : RsB mdL_law r kb (tL_law_1321 kb) := row_B hA h1369 qL_law_1369 (ck_n rfl) rfl (fun xs ys s => eL_law_1369 kb (xs.getD 0 0) (xs.getD 1 0) (xs.getD 2 0) (xs.getD 3 0) (xs.getD 4 0) (xs.getD 5 0) (xs.getD 6 0) s)
  have h1318 : RsB mdL_law r kb (tL_law_1318 kb) := row_B hA h1321 qL_law_1321 (And.intro trivial (And.intro trivial (And.intro trivial (And.intro trivial (And.intro trivial (And.intro trivial (And.intro trivial (And.intro trivial (And.intro trivial (And.intro trivial (And.intro trivial (And.intro trivial (And.intro (co_of mkL_change (iL_change hA)) (And.intro trivial (And.intro trivial (And.intro trivial (And.intro trivial (And.intro trivial (And.intro trivial (And.intro trivial (And.intro trivial (And.intro trivial (And.intro trivial (And.intro trivial (And.intro trivial (And.intro (co_of mkX12_change (iX12_change hA)) (And.intro trivial (And.intro trivial (And.intro (co_of mkX12_thrown (iX12_thrown hA)) (ck_n rfl)))))))))))))))))))))))))))))) rfl (fun xs ys s => eL_law_1321 kb (xs.getD 0 0) (xs.getD 1 0) (xs.getD 2 0) (xs.getD 3 0) (xs.getD 4 0) s)
  have h1301 : RsB mdL_law r kb (tL_law_1301 kb) := row_B hA h1318 qL_law_1318 (ck_n rfl) rfl (fun xs ys s => eL_law_1318 kb (xs.getD 0 0) (xs.getD 1 0) (xs.getD 2 0) (xs.getD 3 0) (xs.getD 4 0) s)
  have h1253 : RsB mdL_law r kb (tL_law_1253 kb) := row_B hA h1301 qL_law_1301 (ck_n rfl) rfl (fun xs ys s => eL_law_1301 kb (xs.getD 0 0) (xs.getD 1 0) (xs.getD 2 0) (xs.getD 3 0) (xs.getD 4 0) (xs.getD 5 0) (xs.getD 6 0) s)
  have h1250 : RsB mdL_law r kb (tL_law_1250 kb) := row_B hA h1253 qL_law_1253 (And.intro trivial (And.intro trivial (And.intro trivial (And.intro trivial (And.intro trivial (And.intro trivial (And.intro trivial (And.intro trivial (And.intro trivial (And.intro trivial (And.intro trivial (And.intro trivial (And.intro (co_of mkL_enter (iL_enter hA)) (And.intro trivial (And.intro trivial (And.intro trivial (And.intro trivial (And.intro trivial (And.intro trivial (And.intro trivial (And.intro trivial (And.intro trivial (And.intro trivial (And.intro trivial (And.intro trivial (And.intro (co_of mkX12_enter (iX12_enter hA)) (And.intro trivial (And.intro trivial (And.intro (co_of mkX12_thrown (iX12_thrown hA)) (ck_n rfl)))))))))))))))))))))))))))))) rfl (fun xs ys s => eL_law_1253 kb (xs.getD 0 0) (xs.getD 1 0) (xs.getD 2 0) (xs.getD 3 0) (xs.getD 4 0) s)
  have h1244 : RsB mdL_law r kb (tL_law_1244 kb) := row_B hA h1250 qL_law_1250 (ck_n rfl) rfl (fun xs ys s => eL_law_1250 kb (xs.getD 0 0) (xs.getD 1 0) (xs.getD 2 0) (xs.getD 3 0) (xs.getD 4 0) s)
  have h1243 : RsB mdL_law r kb (tL_law_1243 kb) := row_B hA h1244 qL_law_1244 (ck_n rfl) rfl (fun xs ys s => eL_law_1244 kb (xs.getD 0 0) (xs.getD 1 0) (xs.getD 2 0) (xs.getD 3 0) (xs.getD 4 0) (ys.getD 0 0) (ys.getD 1 0) s)
  have h1226 : RsB mdL_law r kb (tL_law_1226 kb) := row_B hA h1243 qL_law_1243 (ck_n rfl) rfl (fun xs ys s => eL_law_1243 kb (xs.getD 0 0) (xs.getD 1 0) (xs.getD 2 0) (xs.getD 3 0) (xs.getD 4 0) (ys.getD 0 0) s)
  have h1178 : RsB mdL_law r kb (tL_law_1178 kb) := row_B hA h1226 qL_law_1226 (ck_n rfl) rfl (fun xs ys s => eL_law_1226 kb (xs.getD 0 0) (xs.getD 1 0) (xs.getD 2 0) (xs.getD 3 0) (xs.getD 4 0) (xs.getD 5 0) (xs.getD 6 0) s)
  have h1175 : RsB mdL_law r kb (tL_law_1175 kb) := row_B hA h1178 qL_law_1178 (And.intro trivial (And.intro trivial (And.intro trivial (And.intro trivial (And.intro trivial (And.intro trivial (And.intro trivial (And.intro trivial (And.intro trivial (And.intro trivial (And.intro trivial (And.intro trivial (And.intro (co_of mkL_fits (iL_fits hA)) (And.intro trivial (And.intro trivial (And.intro trivial (And.intro trivial (And.intro trivial (And.intro trivial (And.intro trivial (And.intro trivial (And.intro trivial (And.intro trivial (And.intro trivial (And.intro trivial (And.intro (co_of mkX12_fits (iX12_fits hA)) (And.intro trivial (And.intro trivial (And.intro (co_of mkX12_thrown (iX12_thrown hA)) (ck_n rfl)))))))))))))))))))))))))))))) rfl (fun xs ys s => eL_law_1178 kb (xs.getD 0 0) (xs.getD 1 0) (xs.getD 2 0) (xs.getD 3 0) (xs.getD 4 0) s)
  have h1158 : RsB mdL_law r kb (tL_law_1158 kb) := row_B hA h1175 qL_law_1175 (ck_n rfl) rfl (fun xs ys s => eL_law_1175 kb (xs.getD 0 0) (xs.getD 1 0) (xs.getD 2 0) (xs.getD 3 0) (xs.getD 4 0) s)
  have h1060 : RsB mdL_law r kb (tL_law_1060 kb) := row_B hA h1158 qL_law_1158 (ck_n rfl) rfl (fun xs ys s => eL_law_1158 kb (xs.getD 0 0) (xs.getD 1 0) (xs.getD 2 0) (xs.getD 3 0) (xs.getD 4 0) (xs.getD 5 0) (xs.getD 6 0) s)
  have h1057 : RsB mdL_law r kb (tL_law_1057 kb) := row_B hA h1060 qL_law_1060 (And.intro trivial (And.intro trivial (And.intro trivial (And.intro trivial (And.intro trivial (And.intro trivial (And.intro trivial (And.intro trivial (And.intro trivial (And.intro trivial (And.intro trivial (And.intro trivial (And.intro trivial (And.intro trivial (And.intro trivial (And.intro trivial (And.intro trivial (And.intro trivial (And.intro trivial (And.intro trivial (And.intro trivial (And.intro trivial (And.intro trivial (And.intro trivial (And.intro trivial (And.intro trivial (And.intro trivial (And.intro trivial (And.intro trivial (And.intro trivial (And.intro trivial (And.intro trivial (And.intro (co_of mkL_cut (iL_cut hA)) (And.intro trivial (And.intro trivial (And.intro trivial (And.intro trivial (And.intro trivial (And.intro trivial (And.intro trivial (And.intro trivial (And.intro trivial (And.intro trivial (And.intro trivial (And.intro trivial (And.intro trivial (And.intro trivial (And.intro trivial (And.intro trivial (And.intro trivial (And.intro trivial (And.intro trivial (And.intro trivial (And.intro trivial (And.intro trivial (And.intro trivial (And.intro trivial (And.intro trivial (And.intro trivial (And.intro trivial (And.intro trivial (And.intro trivial (And.intro trivial (And.intro trivial (And.intro trivial (And.intro (co_of mkX12_cut (iX12_cut hA)) (And.intro trivial (And.intro trivial (And.intro (co_of mkX12_thrown (iX12_thrown hA)) (ck_n rfl)))))))))))))))))))))))))))))))))))))))))))))))))))))))))))))))))))))) rfl (fun xs ys s => eL_law_1060 kb (xs.getD 0 0) (xs.getD 1 0) (xs.getD 2 0) (xs.getD 3 0) (xs.getD 4 0) s)
  have h1040 : RsB mdL_law r kb (tL_law_1040 kb) := row_B hA h1057 qL_law_1057 (ck_n rfl) rfl (fun xs ys s => eL_law_1057 kb (xs.getD 0 0) (xs.getD 1 0) (xs.getD 2 0) (xs.getD 3 0) (xs.getD 4 0) s)
  have h956 : RsB mdL_law r kb (tL_law_956 kb) := row_B hA h1040 qL_law_1040 (ck_n rfl) rfl (fun xs ys s => eL_law_1040 kb (xs.getD 0 0) (xs.getD 1 0) (xs.getD 2 0) (xs.getD 3 0) (xs.getD 4 0) (xs.getD 5 0) (xs.getD 6 0) s)
  have h953 : RsB mdL_law r kb (tL_law_953 kb) := row_B hA h956 qL_law_956 (And.intro trivial (And.intro trivial (And.intro trivial (And.intro trivial (And.intro trivial (And.intro trivial (And.intro trivial (And.intro trivial (And.intro trivial (And.intro trivial (And.intro trivial (And.intro trivial (And.intro trivial (And.intro trivial (And.intro trivial (And.intro trivial (And.intro trivial (And.intro trivial (And.intro trivial (And.intro trivial (And.intro trivial (And.intro trivial (And.intro trivial (And.intro trivial (And.intro trivial (And.intro trivial (And.intro trivial (And.intro (co_of mkL_build (iL_build hA)) (And.intro trivial (And.intro trivial (And.intro trivial (And.intro trivial (And.intro trivial (And.intro trivial (And.intro trivial (And.intro trivial (And.intro trivial (And.intro trivial (And.intro trivial (And.intro trivial (And.intro trivial (And.intro trivial (And.intro trivial (And.intro trivial (And.intro trivial (And.intro trivial (And.intro trivial (And.intro trivial (And.intro trivial (And.intro trivial (And.intro trivial (And.intro trivial (And.intro trivial (And.intro trivial (And.intro trivial (And.intro (co_of mkX12_build (iX12_build hA)) (And.intro trivial (And.intro trivial (And.intro (co_of mkX12_thrown (iX12_thrown hA)) (ck_n rfl)))))))))))))))))))))))))))))))))))))))))))))))))))))))))))) rfl (fun xs ys s => eL_law_956 kb (xs.getD 0 0) (xs.getD 1 0) (xs.getD 2 0) (xs.getD 3 0) (xs.getD 4 0) s)
  have h947 : RsB mdL_law r kb (tL_law_947 kb) := row_B hA h953 qL_law_953 (ck_n rfl) rfl (fun xs ys s => eL_law_953 kb (xs.getD 0 0) (xs.getD 1 0) (xs.getD 2 0) (xs.getD 3 0) (xs.getD 4 0) s)
  have h946 : RsB mdL_law r kb (tL_law_946 kb) := row_B hA h947 qL_law_947 (ck_n rfl) rfl (fun xs ys s => eL_law_947 kb (xs.getD 0 0) (xs.getD 1 0) (xs.getD 2 0) (xs.getD 3 0) (xs.getD 4 0) (ys.getD 0 0) (ys.getD 1 0) s)
  have h929 : RsB mdL_law r kb (tL_law_929 kb) := row_B hA h946 qL_law_946 (ck_n rfl) rfl (fun xs ys s => eL_law_946 kb (xs.getD 0 0) (xs.getD 1 0) (xs.getD 2 0) (xs.getD 3 0) (xs.getD 4 0) (ys.getD 0 0) s)
  have h913 : RsB mdL_law r kb (tL_law_913 kb) := row_B hA h929 qL_law_929 (ck_n rfl) rfl (fun xs ys s => eL_law_929 kb (xs.getD 0 0) (xs.getD 1 0) (xs.getD 2 0) (xs.getD 3 0) (xs.getD 4 0) (xs.getD 5 0) (xs.getD 6 0) s)
  have h912 : RsB mdL_law r kb (tL_law_912 kb) := row_B hA h913 qL_law_913 (And.intro (co_of mkX12_jury (iX12_jury hA)) (And.intro trivial (And.intro trivial (And.intro (co_of mkX12_thrown (iX12_thrown hA)) (ck_n rfl))))) rfl (fun xs ys s => eL_law_913 kb (xs.getD 0 0) (xs.getD 1 0) (xs.getD 2 0) (xs.getD 3 0) (xs.getD 4 0) (xs.getD 5 0) (ys.getD 0 0) (ys.getD 1 0) (ys.getD 2 0) s)
  have h886 : RsB mdL_law r kb (tL_law_886 kb) := row_B hA h912 qL_law_912 (ck_n rfl) rfl (fun xs ys s => eL_law_912 kb (xs.getD 0 0) (xs.getD 1 0) (xs.getD 2 0) (xs.getD 3 0) (xs.getD 4 0) (xs.getD 5 0) (ys.getD 0 0) (ys.getD 1 0) s)
  have h885 : RsB mdL_law r kb (tL_law_885 kb) := row_B hA h886 qL_law_886 (And.intro trivial (And.intro (co_of mkL_jury (iL_jury hA)) (ck_n rfl))) rfl (fun xs ys s => eL_law_886 kb (xs.getD 0 0) (xs.getD 1 0) (xs.getD 2 0) (xs.getD 3 0) (xs.getD 4 0) (ys.getD 0 0) (ys.getD 1 0) (ys.getD 2 0) s)
  have h865 : RsB mdL_law r kb (tL_law_865 kb) := row_B hA h885 qL_law_885 (ck_n rfl) rfl (fun xs ys s => eL_law_885 kb (xs.getD 0 0) (xs.getD 1 0) (xs.getD 2 0) (xs.getD 3 0) (xs.getD 4 0) (ys.getD 0 0) (ys.getD 1 0) s)
  have h862 : RsB mdL_law r kb (tL_law_862 kb) := row_B hA h865 qL_law_865 (ck_n rfl) rfl (fun xs ys s => eL_law_865 kb (xs.getD 0 0) (xs.getD 1 0) (xs.getD 2 0) (xs.getD 3 0) (xs.getD 4 0) s)
  have h845 : RsB mdL_law r kb (tL_law_845 kb) := row_B hA h862 qL_law_862 (ck_n rfl) rfl (fun xs ys s => eL_law_862 kb (xs.getD 0 0) (xs.getD 1 0) (xs.getD 2 0) (xs.getD 3 0) (xs.getD 4 0) s)
  have h797 : RsB mdL_law r kb (tL_law_797 kb) := row_B hA h845 qL_law_845 (ck_n rfl) rfl (fun xs ys s => eL_law_845 kb (xs.getD 0 0) (xs.getD 1 0) (xs.getD 2 0) (xs.getD 3 0) (xs.getD 4 0) (xs.getD 5 0) (xs.getD 6 0) s)
  have h794 : RsB mdL_law r kb (tL_law_794 kb) := row_B hA h797 qL_law_797 (And.intro trivial (And.intro trivial (And.intro trivial (And.intro trivial (And.intro trivial (And.intro trivial (And.intro trivial (And.intro trivial (And.intro trivial (And.intro trivial (And.intro trivial (And.intro trivial (And.intro (co_of mkL_goOn (iL_goOn hA)) (And.intro trivial (And.intro trivial (And.intro trivial (And.intro trivial (And.intro trivial (And.intro trivial (And.intro trivial (And.intro trivial (And.intro trivial (And.intro trivial (And.intro trivial (And.intro trivial (And.intro (co_of mkX12_goOn (iX12_goOn hA)) (And.intro trivial (And.intro trivial (And.intro (co_of mkX12_thrown (iX12_thrown hA)) (ck_n rfl)))))))))))))))))))))))))))))) rfl (fun xs ys s => eL_law_797 kb (xs.getD 0 0) (xs.getD 1 0) (xs.getD 2 0) (xs.getD 3 0) (xs.getD 4 0) s)
  have h749 : RsB mdL_law r kb (tL_law_749 kb) := row_B hA h794 qL_law_794 (ck_n rfl) rfl (fun xs ys s => eL_law_794 kb (xs.getD 0 0) (xs.getD 1 0) (xs.getD 2 0) (xs.getD 3 0) (xs.getD 4 0) s)
  have h746 : RsB mdL_law r kb (tL_law_746 kb) := row_B hA h749 qL_law_749 (And.intro trivial (And.intro trivial (And.intro trivial (And.intro trivial (And.intro trivial (And.intro trivial (And.intro trivial (And.intro trivial (And.intro trivial (And.intro trivial (And.intro trivial (And.intro (co_of mkL_route (iL_route hA)) (And.intro trivial (And.intro trivial (And.intro trivial (And.intro trivial (And.intro trivial (And.intro trivial (And.intro trivial (And.intro trivial (And.intro trivial (And.intro trivial (And.intro trivial (And.intro trivial (And.intro (co_of mkX12_route (iX12_route hA)) (And.intro trivial (And.intro (co_of mkX12_thrown (iX12_thrown hA)) (ck_n rfl)))))))))))))))))))))))))))) rfl (fun xs ys s => eL_law_749 kb (xs.getD 0 0) (xs.getD 1 0) (xs.getD 2 0) (xs.getD 3 0) (xs.getD 4 0) s)
  have h729 : RsB mdL_law r kb (tL_law_729 kb) := row_B hA h746 qL_law_746 (ck_n rfl) rfl (fun xs ys s => eL_law_746 kb (xs.getD 0 0) (xs.getD 1 0) (xs.getD 2 0) (xs.getD 3 0) (xs.getD 4 0) s)
  have h631 : RsB mdL_law r kb (tL_law_631 kb) := row_B hA h729 qL_law_729 (ck_n rfl) rfl (fun xs ys s => eL_law_729 kb (xs.getD 0 0) (xs.getD 1 0) (xs.getD 2 0) (xs.getD 3 0) (xs.getD 4 0) (xs.getD 5 0) (xs.getD 6 0) s)
  have h628 : RsB mdL_law r kb (tL_law_628 kb) := row_B hA h631 qL_law_631 (And.intro trivial (And.intro trivial (And.intro trivial (And.intro trivial (And.intro trivial (And.intro trivial (And.intro trivial (And.intro trivial (And.intro trivial (And.intro trivial (And.intro trivial (And.intro trivial (And.intro trivial (And.intro trivial (And.intro trivial (And.intro trivial (And.intro trivial (And.intro trivial (And.intro trivial (And.intro trivial (And.intro trivial (And.intro trivial (And.intro trivial (And.intro trivial (And.intro trivial (And.intro trivial (And.intro trivial (And.intro trivial (And.intro trivial (And.intro trivial (And.intro trivial (And.intro trivial (And.intro (co_of mkL_street (iL_street hA)) (And.intro trivial (And.intro trivial (And.intro trivial (And.intro trivial (And.intro trivial (And.intro trivial (And.intro trivial (And.intro trivial (And.intro trivial (And.intro trivial (And.intro trivial (And.intro trivial (And.intro trivial (And.intro trivial (And.intro trivial (And.intro trivial (And.intro trivial (And.intro trivial (And.intro trivial (And.intro trivial (And.intro trivial (And.intro trivial (And.intro trivial (And.intro trivial (And.intro trivial (And.intro trivial (And.intro trivial (And.intro trivial (And.intro trivial (And.intro trivial (And.intro trivial (And.intro trivial (And.intro (co_of mkX12_street (iX12_street hA)) (And.intro trivial (And.intro trivial (And.intro (co_of mkX12_thrown (iX12_thrown hA)) (ck_n rfl)))))))))))))))))))))))))))))))))))))))))))))))))))))))))))))))))))))) rfl (fun xs ys s => eL_law_631 kb (xs.getD 0 0) (xs.getD 1 0) (xs.getD 2 0) (xs.getD 3 0) (xs.getD 4 0) s)
  have h611 : RsB mdL_law r kb (tL_law_611 kb) := row_B hA h628 qL_law_628 (ck_n rfl) rfl (fun xs ys s => eL_law_628 kb (xs.getD 0 0) (xs.getD 1 0) (xs.getD 2 0) (xs.getD 3 0) (xs.getD 4 0) s)
  have h575 : RsB mdL_law r kb (tL_law_575 kb) := row_B hA h611 qL_law_611 (ck_n rfl) rfl (fun xs ys s => eL_law_611 kb (xs.getD 0 0) (xs.getD 1 0) (xs.getD 2 0) (xs.getD 3 0) (xs.getD 4 0) (xs.getD 5 0) (xs.getD 6 0) s)
  have h572 : RsB mdL_law r kb (tL_law_572 kb) := row_B hA h575 qL_law_575 (And.intro trivial (And.intro trivial (And.intro trivial (And.intro trivial (And.intro trivial (And.intro trivial (And.intro trivial (And.intro (co_of mkL_round (iL_round hA)) (And.intro trivial (And.intro trivial (And.intro trivial (And.intro trivial (And.intro trivial (And.intro trivial (And.intro trivial (And.intro (co_of mkX12_round (iX12_round hA)) (And.intro trivial (And.intro trivial (And.intro (co_of mkX12_thrown (iX12_thrown hA)) (ck_n rfl)))))))))))))))))))) rfl (fun xs ys s => eL_law_575 kb (xs.getD 0 0) (xs.getD 1 0) (xs.getD 2 0) (xs.getD 3 0) (xs.getD 4 0) s)
  have h555 : RsB mdL_law r kb (tL_law_555 kb) := row_B hA h572 qL_law_572 (ck_n rfl) rfl (fun xs ys s => eL_law_572 kb (xs.getD 0 0) (xs.getD 1 0) (xs.getD 2 0) (xs.getD 3 0) (xs.getD 4 0) s)
  have h495 : RsB mdL_law r kb (tL_law_495 kb) := row_B hA h555 qL_law_555 (ck_n rfl) rfl (fun xs ys s => eL_law_555 kb (xs.getD 0 0) (xs.getD 1 0) (xs.getD 2 0) (xs.getD 3 0) (xs.getD 4 0) (xs.getD 5 0) (xs.getD 6 0) s)
  have h492 : RsB mdL_law r kb (tL_law_492 kb) := row_B hA h495 qL_law_495 (And.intro trivial (And.intro trivial (And.intro trivial (And.intro trivial (And.intro trivial (And.intro trivial (And.intro trivial (And.intro trivial (And.intro trivial (And.intro trivial (And.intro trivial (And.intro trivial (And.intro trivial (And.intro trivial (And.intro trivial (And.intro trivial (And.intro trivial (And.intro (co_of mkL_vote (iL_vote hA)) (And.intro trivial (And.intro trivial (And.intro trivial (And.intro trivial (And.intro trivial (And.intro trivial (And.intro trivial (And.intro trivial (And.intro trivial (And.intro trivial (And.intro trivial (And.intro trivial (And.intro trivial (And.intro trivial (And.intro trivial (And.intro trivial (And.intro trivial (And.intro (co_of mkX12_vote (iX12_vote hA)) (And.intro trivial (And.intro trivial (And.intro (co_of mkX12_thrown (iX12_thrown hA)) (ck_n rfl)))))))))))))))))))))))))))))))))))))))) rfl (fun xs ys s => eL_law_495 kb (xs.getD 0 0) (xs.getD 1 0) (xs.getD 2 0) (xs.getD 3 0) (xs.getD 4 0) s)
  have h475 : RsB mdL_law r kb (tL_law_475 kb) := row_B hA h492 qL_law_492 (ck_n rfl) rfl (fun xs ys s => eL_law_492 kb (xs.getD 0 0) (xs.getD 1 0) (xs.getD 2 0) (xs.getD 3 0) (xs.getD 4 0) s)
  have h439 : RsB mdL_law r kb (tL_law_439 kb) := row_B hA h475 qL_law_475 (ck_n rfl) rfl (fun xs ys s => eL_law_475 kb (xs.getD 0 0) (xs.getD 1 0) (xs.getD 2 0) (xs.getD 3 0) (xs.getD 4 0) (xs.getD 5 0) (xs.getD 6 0) s)
  have h436 : RsB mdL_law r kb (tL_law_436 kb) := row_B hA h439 qL_law_439 (And.intro trivial (And.intro trivial (And.intro trivial (And.intro trivial (And.intro trivial (And.intro trivial (And.intro trivial (And.intro (co_of mkL_song (iL_song hA)) (And.intro trivial (And.intro trivial (And.intro trivial (And.intro trivial (And.intro trivial (And.intro trivial (And.intro trivial (And.intro (co_of mkX12_song (iX12_song hA)) (And.intro trivial (And.intro trivial (And.intro (co_of mkX12_thrown (iX12_thrown hA)) (ck_n rfl)))))))))))))))))))) rfl (fun xs ys s => eL_law_439 kb (xs.getD 0 0) (xs.getD 1 0) (xs.getD 2 0) (xs.getD 3 0) (xs.getD 4 0) s)
  have h419 : RsB mdL_law r kb (tL_law_419 kb) := row_B hA h436 qL_law_436 (ck_n rfl) rfl (fun xs ys s => eL_law_436 kb (xs.getD 0 0) (xs.getD 1 0) (xs.getD 2 0) (xs.getD 3 0) (xs.getD 4 0) s)
  have h359 : RsB mdL_law r kb (tL_law_359 kb) := row_B hA h419 qL_law_419 (ck_n rfl) rfl (fun xs ys s => eL_law_419 kb (xs.getD 0 0) (xs.getD 1 0) (xs.getD 2 0) (xs.getD 3 0) (xs.getD 4 0) (xs.getD 5 0) (xs.getD 6 0) s)
  have h356 : RsB mdL_law r kb (tL_law_356 kb) := row_B hA h359 qL_law_359 (And.intro trivial (And.intro trivial (And.intro trivial (And.intro trivial (And.intro trivial (And.intro trivial (And.intro trivial (And.intro trivial (And.intro trivial (And.intro trivial (And.intro trivial (And.intro trivial (And.intro trivial (And.intro trivial (And.intro trivial (And.intro trivial (And.intro trivial (And.intro (co_of mkL_theme (iL_theme hA)) (And.intro trivial (And.intro trivial (And.intro trivial (And.intro trivial (And.intro trivial (And.intro trivial (And.intro trivial (And.intro trivial (And.intro trivial (And.intro trivial (And.intro trivial (And.intro trivial (And.intro trivial (And.intro trivial (And.intro trivial (And.intro trivial (And.intro trivial (And.intro (co_of mkX12_theme (iX12_theme hA)) (And.intro trivial (And.intro trivial (And.intro (co_of mkX12_thrown (iX12_thrown hA)) (ck_n rfl)))))))))))))))))))))))))))))))))))))))) rfl (fun xs ys s => eL_law_359 kb (xs.getD 0 0) (xs.getD 1 0) (xs.getD 2 0) (xs.getD 3 0) (xs.getD 4 0) s)
  have h350 : RsB mdL_law r kb (tL_law_350 kb) := row_B hA h356 qL_law_356 (ck_n rfl) rfl (fun xs ys s => eL_law_356 kb (xs.getD 0 0) (xs.getD 1 0) (xs.getD 2 0) (xs.getD 3 0) (xs.getD 4 0) s)
  have h349 : RsB mdL_law r kb (tL_law_349 kb) := row_B hA h350 qL_law_350 (ck_n rfl) rfl (fun xs ys s => eL_law_350 kb (xs.getD 0 0) (xs.getD 1 0) (xs.getD 2 0) (xs.getD 3 0) (xs.getD 4 0) (ys.getD 0 0) (ys.getD 1 0) s)
  have h332 : RsB mdL_law r kb (tL_law_332 kb) := row_B hA h349 qL_law_349 (ck_n rfl) rfl (fun xs ys s => eL_law_349 kb (xs.getD 0 0) (xs.getD 1 0) (xs.getD 2 0) (xs.getD 3 0) (xs.getD 4 0) (ys.getD 0 0) s)
  have h316 : RsB mdL_law r kb (tL_law_316 kb) := row_B hA h332 qL_law_332 (ck_n rfl) rfl (fun xs ys s => eL_law_332 kb (xs.getD 0 0) (xs.getD 1 0) (xs.getD 2 0) (xs.getD 3 0) (xs.getD 4 0) (xs.getD 5 0) (xs.getD 6 0) s)
  have h315 : RsB mdL_law r kb (tL_law_315 kb) := row_B hA h316 qL_law_316 (And.intro (co_of mkX12_feud (iX12_feud hA)) (And.intro trivial (And.intro trivial (And.intro (co_of mkX12_thrown (iX12_thrown hA)) (ck_n rfl))))) rfl (fun xs ys s => eL_law_316 kb (xs.getD 0 0) (xs.getD 1 0) (xs.getD 2 0) (xs.getD 3 0) (xs.getD 4 0) (xs.getD 5 0) (ys.getD 0 0) (ys.getD 1 0) (ys.getD 2 0) (ys.getD 3 0) s)
  have h283 : RsB mdL_law r kb (tL_law_283 kb) := row_B hA h315 qL_law_315 (ck_n rfl) rfl (fun xs ys s => eL_law_315 kb (xs.getD 0 0) (xs.getD 1 0) (xs.getD 2 0) (xs.getD 3 0) (xs.getD 4 0) (xs.getD 5 0) (ys.getD 0 0) (ys.getD 1 0) (ys.getD 2 0) s)
  have h282 : RsB mdL_law r kb (tL_law_282 kb) := row_B hA h283 qL_law_283 (And.intro trivial (And.intro (co_of mkL_feud (iL_feud hA)) (ck_n rfl))) rfl (fun xs ys s => eL_law_283 kb (xs.getD 0 0) (xs.getD 1 0) (xs.getD 2 0) (xs.getD 3 0) (xs.getD 4 0) (ys.getD 0 0) (ys.getD 1 0) (ys.getD 2 0) (ys.getD 3 0) s)
  have h256 : RsB mdL_law r kb (tL_law_256 kb) := row_B hA h282 qL_law_282 (ck_n rfl) rfl (fun xs ys s => eL_law_282 kb (xs.getD 0 0) (xs.getD 1 0) (xs.getD 2 0) (xs.getD 3 0) (xs.getD 4 0) (ys.getD 0 0) (ys.getD 1 0) (ys.getD 2 0) s)
  have h253 : RsB mdL_law r kb (tL_law_253 kb) := row_B hA h256 qL_law_256 (ck_n rfl) rfl (fun xs ys s => eL_law_256 kb (xs.getD 0 0) (xs.getD 1 0) (xs.getD 2 0) (xs.getD 3 0) (xs.getD 4 0) s)
  have h236 : RsB mdL_law r kb (tL_law_236 kb) := row_B hA h253 qL_law_253 (ck_n rfl) rfl (fun xs ys s => eL_law_253 kb (xs.getD 0 0) (xs.getD 1 0) (xs.getD 2 0) (xs.getD 3 0) (xs.getD 4 0) s)
  have h188 : RsB mdL_law r kb (tL_law_188 kb) := row_B hA h236 qL_law_236 (ck_n rfl) rfl (fun xs ys s => eL_law_236 kb (xs.getD 0 0) (xs.getD 1 0) (xs.getD 2 0) (xs.getD 3 0) (xs.getD 4 0) (xs.getD 5 0) (xs.getD 6 0) s)
  have h23 : RsB mdL_law r kb (tL_law_23 kb) := row_B hA h188 qL_law_188 (And.intro trivial (And.intro trivial (And.intro trivial (And.intro trivial (And.intro trivial (And.intro trivial (And.intro trivial (And.intro trivial (And.intro trivial (And.intro trivial (And.intro trivial (And.intro trivial (And.intro (co_of mkL_society (iL_society hA)) (And.intro trivial (And.intro trivial (And.intro trivial (And.intro trivial (And.intro trivial (And.intro trivial (And.intro trivial (And.intro trivial (And.intro trivial (And.intro trivial (And.intro trivial (And.intro trivial (And.intro (co_of mkX12_society (iX12_society hA)) (And.intro trivial (And.intro trivial (And.intro (co_of mkX12_thrown (iX12_thrown hA)) (ck_n rfl)))))))))))))))))))))))))))))) rfl (fun xs ys s => eL_law_188 kb (xs.getD 0 0) (xs.getD 1 0) (xs.getD 2 0) (xs.getD 3 0) (xs.getD 4 0) s)
  have h20 : RsB mdL_law r kb (tL_law_20 kb) := row_B hA h23 qL_law_23 (ck_n rfl) rfl (fun xs ys s => eL_law_23 kb (xs.getD 0 0) (xs.getD 1 0) (xs.getD 2 0) (xs.getD 3 0) (xs.getD 4 0) s)
  exact row_B hA h20 qL_law_20 (ck_n rfl) rfl (fun xs ys s => eL_law_20 kb (xs.getD 0 0) (xs.getD 1 0) (xs.getD 2 0) (xs.getD 3 0) s)
