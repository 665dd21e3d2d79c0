/-! the law's loop -/
theorem gt_L {L i : Nat} (hL : L ≤ 3072) (hi : i ≤ 4000) (h : L < i + 6) : nI L - 6 < nI i := by
  rcases Nat.lt_or_ge L 6 with q | q
  · have e : ∀ n, n < 6 → nI n - 6 < 0 := by decide
    exact Int32.lt_of_lt_of_le (e L q) (nI_pos' (by omega))
  · have e := nI_sub (L - 6) 6
    rw [show L - 6 + 6 = L by omega] at e
    have e : nI L - 6 = nI (L - 6) := e
    rw [e]
    exact nI_lt (by omega) (by omega)
set_option maxHeartbeats 4000000 in
set_option maxRecDepth 100000 in
theorem law_step {p : Program} {l : Launch} {e : Env} {s : State} {m : MethodId} {below : List Frame} {meth : Method} {c : Code} {w : fW} {b L i : Nat} {xs : Nat → Int32} (hl0 : l.stackTraces = false) (hX : fX (wC w) s s.heap) (G : LG p s m b meth c w L xs) (hr : meth.sig.returnType = ret) (hlk : meth.locks = false) (hiL : i ≤ L + 6) (hnext : i + 6 ≤ L → LI Rel p l e s m b below meth c w (i + 6) 23) : LI Rel p l e s m b below meth c w i 23 := by
  intro μ ν H locs ls cl sl hLH
  obtain ⟨hR, hPC, hPM, ho, hS, hl, hcl, hsl⟩ := id hLH
  obtain ⟨⟨hx, hb, -⟩, -, hXs, hbl, hAD, h0, hL⟩ := id G
  refine lv_iload hx hb dL_law_23 (lv_at hl 4 rfl) ?_
  refine lv_aload_n hx hb dL_law_25 rfl (lv_at hl 0 rfl) ?_
  refine va_slen hx hb hXs hbl (Nat.not_le.mpr hbl) hS dL_law_26 ?_
  refine lv_bipush (v := 6) hx hb dL_law_27 (by decide) ?_
  refine lv_isub hx hb dL_law_29 ?_
  refine lv_icmp_gt (tgt := 1546) hx hb dL_law_30 (by decide) (fun _ => ?_) (fun cg => ?_)
  · refine lv_iconst (v := 1) hx hb dL_law_1546 (by decide) ?_
    refine va_forget (fun q hq => hS.2.2 q hq) ?_
    refine w_widen (k := 601024) (n := 7293034) (by omega) (by omega) ?_
    exact lw_ret hx hb hr hlk dL_law_1547
  · have hi : i + 6 ≤ L := by
      rcases Nat.lt_or_ge L (i + 6) with q | q
      · exact absurd (gt_L hL (by omega) q) cg
      · exact q
    have next := hnext hi
    refine lv_aload_n hx hb dL_law_33 rfl (lv_at hl 0 rfl) ?_
    refine lv_iload hx hb dL_law_34 (lv_at hl 4 rfl) ?_
    refine va_sld hx hb hXs hbl (Nat.not_le.mpr hbl) hS (vp_in_nI (by omega) (by omega)) dL_law_36 ?_
    rw [nI_clamp (by omega)]
    refine lv_bipush (v := 63) hx hb dL_law_37 (by decide) ?_
    refine lv_iand hx hb dL_law_39 ?_
    generalize xs i &&& 63 = v
    by_cases c0 : v = 0
    · refine lv_tableIn (off := 172) (tgt := 212) hx hb dL_law_40 (by rw [c0]; decide) (by rw [c0]; decide) (by rw [c0]; rfl) (by decide) ?_
      exact lc_0 G hi sim_feed next μ ν H locs ls cl sl hLH
    by_cases c1 : v = 1
    · refine lv_tableIn (off := 245) (tgt := 285) hx hb dL_law_40 (by rw [c1]; decide) (by rw [c1]; decide) (by rw [c1]; rfl) (by decide) ?_
      exact lc_1 G hi sim_text next μ ν H locs ls cl sl hLH
    by_cases c2 : v = 2
    · refine lv_tableIn (off := 270) (tgt := 310) hx hb dL_law_40 (by rw [c2]; decide) (by rw [c2]; decide) (by rw [c2]; rfl) (by decide) ?_
      exact lc_2 G hi sim_fault next μ ν H locs ls cl sl hLH
    by_cases c3 : v = 3
    · refine lv_tableIn (off := 295) (tgt := 335) hx hb dL_law_40 (by rw [c3]; decide) (by rw [c3]; decide) (by rw [c3]; rfl) (by decide) ?_
      exact lc_3 G hi sim_named next μ ν H locs ls cl sl hLH
    by_cases c4 : v = 4
    · refine lv_tableIn (off := 332) (tgt := 372) hx hb dL_law_40 (by rw [c4]; decide) (by rw [c4]; decide) (by rw [c4]; rfl) (by decide) ?_
      exact lc_4 hl0 hX G hi sim_thing next μ ν H locs ls cl sl hLH
    by_cases c5 : v = 5
    · refine lv_tableIn (off := 400) (tgt := 440) hx hb dL_law_40 (by rw [c5]; decide) (by rw [c5]; decide) (by rw [c5]; rfl) (by decide) ?_
      exact lc_5 G hi sim_room next μ ν H locs ls cl sl hLH
    by_cases c6 : v = 6
    · refine lv_tableIn (off := 437) (tgt := 477) hx hb dL_law_40 (by rw [c6]; decide) (by rw [c6]; decide) (by rw [c6]; rfl) (by decide) ?_
      exact lc_6 G hi sim_dead next μ ν H locs ls cl sl hLH
    by_cases c7 : v = 7
    · refine lv_tableIn (off := 474) (tgt := 514) hx hb dL_law_40 (by rw [c7]; decide) (by rw [c7]; decide) (by rw [c7]; rfl) (by decide) ?_
      exact lc_7 G hi sim_door next μ ν H locs ls cl sl hLH
    by_cases c8 : v = 8
    · refine lv_tableIn (off := 511) (tgt := 551) hx hb dL_law_40 (by rw [c8]; decide) (by rw [c8]; decide) (by rw [c8]; rfl) (by decide) ?_
      exact lc_8 G hi sim_gauge next μ ν H locs ls cl sl hLH
    by_cases c9 : v = 9
    · refine lv_tableIn (off := 536) (tgt := 576) hx hb dL_law_40 (by rw [c9]; decide) (by rw [c9]; decide) (by rw [c9]; rfl) (by decide) ?_
      exact lc_9 G hi sim_liking next μ ν H locs ls cl sl hLH
    by_cases c10 : v = 10
    · refine lv_tableIn (off := 573) (tgt := 613) hx hb dL_law_40 (by rw [c10]; decide) (by rw [c10]; decide) (by rw [c10]; rfl) (by decide) ?_
      exact lc_10 G hi sim_law next μ ν H locs ls cl sl hLH
    by_cases c11 : v = 11
    · refine lv_tableIn (off := 623) (tgt := 663) hx hb dL_law_40 (by rw [c11]; decide) (by rw [c11]; decide) (by rw [c11]; rfl) (by decide) ?_
      exact lc_11 G hi sim_hang next μ ν H locs ls cl sl hLH
    by_cases c12 : v = 12
    · refine lv_tableIn (off := 660) (tgt := 700) hx hb dL_law_40 (by rw [c12]; decide) (by rw [c12]; decide) (by rw [c12]; rfl) (by decide) ?_
      exact lc_12 G hi sim_rope next μ ν H locs ls cl sl hLH
    by_cases c13 : v = 13
    · refine lv_tableIn (off := 713) (tgt := 753) hx hb dL_law_40 (by rw [c13]; decide) (by rw [c13]; decide) (by rw [c13]; rfl) (by decide) ?_
      exact lc_13 G hi sim_dust next μ ν H locs ls cl sl hLH
    by_cases c14 : v = 14
    · refine lv_tableIn (off := 738) (tgt := 778) hx hb dL_law_40 (by rw [c14]; decide) (by rw [c14]; decide) (by rw [c14]; rfl) (by decide) ?_
      exact lc_14 G hi sim_go next μ ν H locs ls cl sl hLH
    by_cases c15 : v = 15
    · refine lv_tableIn (off := 763) (tgt := 803) hx hb dL_law_40 (by rw [c15]; decide) (by rw [c15]; decide) (by rw [c15]; rfl) (by decide) ?_
      exact lc_15 G hi sim_ahead next μ ν H locs ls cl sl hLH
    by_cases c16 : v = 16
    · refine lv_tableIn (off := 812) (tgt := 852) hx hb dL_law_40 (by rw [c16]; decide) (by rw [c16]; decide) (by rw [c16]; rfl) (by decide) ?_
      exact lc_16 G hi sim_comes next μ ν H locs ls cl sl hLH
    by_cases c17 : v = 17
    · refine lv_tableIn (off := 825) (tgt := 865) hx hb dL_law_40 (by rw [c17]; decide) (by rw [c17]; decide) (by rw [c17]; rfl) (by decide) ?_
      exact lc_17 G hi sim_sits next μ ν H locs ls cl sl hLH
    by_cases c18 : v = 18
    · refine lv_tableIn (off := 850) (tgt := 890) hx hb dL_law_40 (by rw [c18]; decide) (by rw [c18]; decide) (by rw [c18]; rfl) (by decide) ?_
      exact lc_18 G hi sim_quiet next μ ν H locs ls cl sl hLH
    by_cases c19 : v = 19
    · refine lv_tableIn (off := 863) (tgt := 903) hx hb dL_law_40 (by rw [c19]; decide) (by rw [c19]; decide) (by rw [c19]; rfl) (by decide) ?_
      exact lc_19 G hi sim_leastMoved next μ ν H locs ls cl sl hLH
    by_cases c20 : v = 20
    · refine lv_tableIn (off := 912) (tgt := 952) hx hb dL_law_40 (by rw [c20]; decide) (by rw [c20]; decide) (by rw [c20]; rfl) (by decide) ?_
      exact lc_20 G hi sim_hanging next μ ν H locs ls cl sl hLH
    by_cases c21 : v = 21
    · refine lv_tableIn (off := 937) (tgt := 977) hx hb dL_law_40 (by rw [c21]; decide) (by rw [c21]; decide) (by rw [c21]; rfl) (by decide) ?_
      exact lc_21 G hi sim_steer next μ ν H locs ls cl sl hLH
    by_cases c22 : v = 22
    · refine lv_tableIn (off := 974) (tgt := 1014) hx hb dL_law_40 (by rw [c22]; decide) (by rw [c22]; decide) (by rw [c22]; rfl) (by decide) ?_
      exact lc_22 G hi sim_rests next μ ν H locs ls cl sl hLH
    by_cases c23 : v = 23
    · refine lv_tableIn (off := 987) (tgt := 1027) hx hb dL_law_40 (by rw [c23]; decide) (by rw [c23]; decide) (by rw [c23]; rfl) (by decide) ?_
      exact lc_23 G hi sim_rest next μ ν H locs ls cl sl hLH
    by_cases c24 : v = 24
    · refine lv_tableIn (off := 1012) (tgt := 1052) hx hb dL_law_40 (by rw [c24]; decide) (by rw [c24]; decide) (by rw [c24]; rfl) (by decide) ?_
      exact lc_24 G hi sim_way next μ ν H locs ls cl sl hLH
    by_cases c25 : v = 25
    · refine lv_tableIn (off := 1049) (tgt := 1089) hx hb dL_law_40 (by rw [c25]; decide) (by rw [c25]; decide) (by rw [c25]; rfl) (by decide) ?_
      exact lc_25 G hi sim_likely next μ ν H locs ls cl sl hLH
    by_cases c26 : v = 26
    · refine lv_tableIn (off := 1111) (tgt := 1151) hx hb dL_law_40 (by rw [c26]; decide) (by rw [c26]; decide) (by rw [c26]; rfl) (by decide) ?_
      exact lc_26 G hi sim_tickets next μ ν H locs ls cl sl hLH
    by_cases c27 : v = 27
    · refine lv_tableIn (off := 1136) (tgt := 1176) hx hb dL_law_40 (by rw [c27]; decide) (by rw [c27]; decide) (by rw [c27]; rfl) (by decide) ?_
      exact lc_27 G hi sim_shunned next μ ν H locs ls cl sl hLH
    by_cases c28 : v = 28
    · refine lv_tableIn (off := 1149) (tgt := 1189) hx hb dL_law_40 (by rw [c28]; decide) (by rw [c28]; decide) (by rw [c28]; rfl) (by decide) ?_
      exact lc_28 G hi sim_loved next μ ν H locs ls cl sl hLH
    by_cases c29 : v = 29
    · refine lv_tableIn (off := 1174) (tgt := 1214) hx hb dL_law_40 (by rw [c29]; decide) (by rw [c29]; decide) (by rw [c29]; rfl) (by decide) ?_
      exact lc_29 G hi sim_note next μ ν H locs ls cl sl hLH
    by_cases c30 : v = 30
    · refine lv_tableIn (off := 1251) (tgt := 1291) hx hb dL_law_40 (by rw [c30]; decide) (by rw [c30]; decide) (by rw [c30]; rfl) (by decide) ?_
      exact lc_30 G hi sim_out next μ ν H locs ls cl sl hLH
    by_cases c31 : v = 31
    · refine lv_tableIn (off := 1276) (tgt := 1316) hx hb dL_law_40 (by rw [c31]; decide) (by rw [c31]; decide) (by rw [c31]; rfl) (by decide) ?_
      exact lc_31 G hi sim_known next μ ν H locs ls cl sl hLH
    by_cases c32 : v = 32
    · refine lv_tableIn (off := 1301) (tgt := 1341) hx hb dL_law_40 (by rw [c32]; decide) (by rw [c32]; decide) (by rw [c32]; rfl) (by decide) ?_
      exact lc_32 G hi sim_tastes next μ ν H locs ls cl sl hLH
    by_cases c33 : v = 33
    · refine lv_tableIn (off := 1326) (tgt := 1366) hx hb dL_law_40 (by rw [c33]; decide) (by rw [c33]; decide) (by rw [c33]; rfl) (by decide) ?_
      exact lc_33 G hi sim_chance next μ ν H locs ls cl sl hLH
    by_cases c34 : v = 34
    · refine lv_tableIn (off := 1387) (tgt := 1427) hx hb dL_law_40 (by rw [c34]; decide) (by rw [c34]; decide) (by rw [c34]; rfl) (by decide) ?_
      exact lc_34 G hi sim_tried next μ ν H locs ls cl sl hLH
    by_cases c35 : v = 35
    · refine lv_tableIn (off := 1436) (tgt := 1476) hx hb dL_law_40 (by rw [c35]; decide) (by rw [c35]; decide) (by rw [c35]; rfl) (by decide) ?_
      exact lc_35 G hi sim_undo next μ ν H locs ls cl sl hLH
    by_cases c36 : v = 36
    · refine lv_tableIn (off := 1449) (tgt := 1489) hx hb dL_law_40 (by rw [c36]; decide) (by rw [c36]; decide) (by rw [c36]; rfl) (by decide) ?_
      exact lc_36 G hi sim_keep next μ ν H locs ls cl sl hLH
    by_cases c37 : v = 37
    · refine lv_tableIn (off := 1462) (tgt := 1502) hx hb dL_law_40 (by rw [c37]; decide) (by rw [c37]; decide) (by rw [c37]; rfl) (by decide) ?_
      exact lc_37 G hi sim_back next μ ν H locs ls cl sl hLH
    by_cases c38 : v = 38
    · refine lv_tableIn (off := 1475) (tgt := 1515) hx hb dL_law_40 (by rw [c38]; decide) (by rw [c38]; decide) (by rw [c38]; rfl) (by decide) ?_
      exact lc_38 G hi sim_count next μ ν H locs ls cl sl hLH
    have hout : v.toInt < 0 ∨ 38 < v.toInt := tb_out v 0 38 (fun u h1 h2 => by
      rcases (show u = 0 ∨ u = 1 ∨ u = 2 ∨ u = 3 ∨ u = 4 ∨ u = 5 ∨ u = 6 ∨ u = 7 ∨ u = 8 ∨ u = 9 ∨ u = 10 ∨ u = 11 ∨ u = 12 ∨ u = 13 ∨ u = 14 ∨ u = 15 ∨ u = 16 ∨ u = 17 ∨ u = 18 ∨ u = 19 ∨ u = 20 ∨ u = 21 ∨ u = 22 ∨ u = 23 ∨ u = 24 ∨ u = 25 ∨ u = 26 ∨ u = 27 ∨ u = 28 ∨ u = 29 ∨ u = 30 ∨ u = 31 ∨ u = 32 ∨ u = 33 ∨ u = 34 ∨ u = 35 ∨ u = 36 ∨ u = 37 ∨ u = 38 by omega) with rfl | rfl | rfl | rfl | rfl | rfl | rfl | rfl | rfl | rfl | rfl | rfl | rfl | rfl | rfl | rfl | rfl | rfl | rfl | rfl | rfl | rfl | rfl | rfl | rfl | rfl | rfl | rfl | rfl | rfl | rfl | rfl | rfl | rfl | rfl | rfl | rfl | rfl | rfl
      · exact c0
      · exact c1
      · exact c2
      · exact c3
      · exact c4
      · exact c5
      · exact c6
      · exact c7
      · exact c8
      · exact c9
      · exact c10
      · exact c11
      · exact c12
      · exact c13
      · exact c14
      · exact c15
      · exact c16
      · exact c17
      · exact c18
      · exact c19
      · exact c20
      · exact c21
      · exact c22
      · exact c23
      · exact c24
      · exact c25
      · exact c26
      · exact c27
      · exact c28
      · exact c29
      · exact c30
      · exact c31
      · exact c32
      · exact c33
      · exact c34
      · exact c35
      · exact c36
      · exact c37
      · exact c38)
    refine lv_tableOut (tgt := 1540) hx hb dL_law_40 hout (by decide) ?_
    exact l_next G next hR hPC hPM ho hS hl hcl hsl
theorem law_loop {p : Program} {l : Launch} {e : Env} {s : State} {m : MethodId} {below : List Frame} {meth : Method} {c : Code} {w : fW} {b L : Nat} {xs : Nat → Int32} (hl0 : l.stackTraces = false) (hX : fX (wC w) s s.heap) (G : LG p s m b meth c w L xs) (hr : meth.sig.returnType = ret) (hlk : meth.locks = false) : ∀ (n i : Nat), i ≤ L + 6 → L + 1 ≤ i + n → LI Rel p l e s m b below meth c w i 23
  | 0, i, hi, hn => law_step hl0 hX G hr hlk hi (fun h => absurd h (by omega))
  | n + 1, i, hi, hn => law_step hl0 hX G hr hlk hi (fun h => law_loop hl0 hX G hr hlk n (i + 6) (by omega) (by omega))
