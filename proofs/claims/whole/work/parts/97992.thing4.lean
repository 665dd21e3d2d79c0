/-! thing, the class' own method -/
set_option maxRecDepth 100000 in
theorem cd_X10_thing : Cond.code yX10_thing cX10_thing 3 (some .int) ∈ gw := List.mem_filter.mpr ⟨by decide +kernel, rfl⟩
theorem fl_X10_135 : FL RX10 135 2 6 := ⟨(RX2, TX2, 16), rfl, by decide, rfl, List.mem_filter.mpr ⟨by decide +kernel, rfl⟩, iu_X2⟩
theorem fl_X10_138 : FL RX10 138 2 7 := ⟨(RX2, TX2, 16), rfl, by decide, rfl, List.mem_filter.mpr ⟨by decide +kernel, rfl⟩, iu_X2⟩
def rm_X10_thing : Room := { frames := 6, cells := 1, slots := 6, locals := 90 }
theorem x30_0 : decode prog_30_method_4_code 0 = .ok (.aload_n 0, 1) := by decide +kernel
theorem x30_1 : decode prog_30_method_4_code 1 = .ok (.aload_n 1, 1) := by decide +kernel
theorem x30_2 : decode prog_30_method_4_code 2 = .ok (.invokespecial 13, 3) := by decide +kernel
theorem x30_5 : decode prog_30_method_4_code 5 = .ok (.return_, 1) := by decide +kernel
theorem xfit0 : Bundle.fit xIO = true := by decide +kernel
theorem xfit1 : Bundle.fit xNS = true := by decide +kernel
theorem xfitn : ∀ n ∈ xNm, Bundle.fit n = true := by decide +kernel
set_option maxHeartbeats 4000000 in
set_option maxRecDepth 100000 in
theorem m_X10_thing (l : Launch) (hl0 : l.stackTraces = false) (w : fW) (hJ : fJ w) (hw : w.2.2.2 = sd 0) (v0 : Nat) (v1 : Int32) (v2 : Int32) (hk0 : kd v0 = (4, 10)) (μ : fMem) {k : Nat} {r : Int32} {μr : fMem} (h : f_X10_thing v0 v1 v2 μ = some ((k, r), μr)) : vx_Met l yX10_thing (.code yX10_thing cX10_thing 3 (some .int) :: gw) rm_X10_thing (tPc w [.ref (w.2.2.1 v0), .int v1, .int v2] μ) (tQ w k r μr) (tX w k μr) 1 6 (fA w) := by
  refine xmet_of hJ (by decide) ?_ (Nat.le_of_ble_eq_true rfl)
  generalize ([.ref (w.2.2.1 v0), .int v1, .int v2] : List Value).toArray = args
  intro p e s m below meth c ls C hr hP hX hnt hl hS
  obtain ⟨hx, hb, hml, hown, hts, hK, -, hlk, hT⟩ := id C
  have hl : lv_has ls 3 [(0, .ref (w.2.2.1 v0)), (1, .int v1), (2, .int v2)] := hl
  unfold f_X10_thing at h
  refine lv_aload_n hx hb dX10_thing_0 rfl (lv_at hl 0 rfl) ?_
  refine r_getRx C hP (iw hw (fi_10 hk0)) hk0 fl_X10_22 rfl (zw hw) dX10_thing_1 (fun x1 ex1 => ?_)
  replace h := vl_ok ex1 h
  obtain ⟨g2, h⟩ := gd_ok h
  refine lv_iconst (v := (2)) hx hb dX10_thing_4 (by decide) ?_
  refine lv_iload_n hx hb dX10_thing_5 rfl (lv_at hl 1 rfl) ?_
  obtain ⟨r4, μ3, h5, h⟩ := bd_ok h
  refine go_i (callV_run (As := [.int (2 : Int32), .int v1]) (rest := []) C hl hP (hS.wide hJ).2.1 (iw hw (fi_2 g2)) g2 (m_X2_has l w hJ hw x1 (2 : Int32) v1 g2 μ h5) mv_X10_121 ⟨rfl, rfl, by decide, by decide⟩ rfl rfl (Nat.le_of_ble_eq_true rfl) ⟨Nat.zero_le _, Nat.zero_le _⟩ dX10_thing_6) hS (fun H locs hP hS => ?_)
  refine lv_if_ne (tgt := 22) hx hb dX10_thing_9 (by decide) (fun c6 => ?_) (fun c6 => ?_)
  · replace h := if_f c6 h
    refine lv_iload_n hx hb dX10_thing_22 rfl (lv_at hl 2 rfl) ?_
    by_cases c7 : v2 = 0
    · replace h := if_t c7 h
      refine lv_tableIn (off := 33) (tgt := 56) hx hb dX10_thing_23 (by rw [c7]; decide) (by rw [c7]; decide) (by rw [c7]; rfl) (by decide) ?_
      refine lv_aload_n hx hb dX10_thing_56 rfl (lv_at hl 0 rfl) ?_
      refine r_getF (off := 66) C hP (iw hw (fi_10 hk0)) hk0 fl_X10_36 rfl rfl (zw hw) dX10_thing_57 ?_
      refine r_getF (off := 1) C hP (iw hw (ff_10_4 hk0).2) (ff_10_4 hk0).1 fl_X10_132 rfl rfl (zw hw) dX10_thing_60 ?_
      refine lv_iload_n hx hb dX10_thing_63 rfl (lv_at hl 1 rfl) ?_
      obtain ⟨g8, h⟩ := gd_ok h
      refine r_iald C hP (iw hw (ff_7_0 (ff_10_4 hk0).1).2) (ff_7_0 (ff_10_4 hk0).1).1 g8 dX10_thing_64 ?_
      exact t_iret C hr hP hS h dX10_thing_65
    replace h := if_f c7 h
    by_cases c9 : v2 = 1
    · replace h := if_t c9 h
      refine lv_tableIn (off := 43) (tgt := 66) hx hb dX10_thing_23 (by rw [c9]; decide) (by rw [c9]; decide) (by rw [c9]; rfl) (by decide) ?_
      refine lv_aload_n hx hb dX10_thing_66 rfl (lv_at hl 0 rfl) ?_
      refine r_getRx C hP (iw hw (fi_10 hk0)) hk0 fl_X10_22 rfl (zw hw) dX10_thing_67 (fun x5 ex5 => ?_)
      replace h := vl_ok ex5 h
      obtain ⟨g5, h⟩ := gd_ok h
      refine r_getF (off := 9) C hP (iw hw (fi_2 g5)) g5 fl_X10_135 rfl rfl (zw hw) dX10_thing_70 ?_
      refine lv_iload_n hx hb dX10_thing_73 rfl (lv_at hl 1 rfl) ?_
      obtain ⟨g8, h⟩ := gd_ok h
      refine r_iald C hP (iw hw (ff_2_6 g5).2) (ff_2_6 g5).1 g8 dX10_thing_74 ?_
      exact t_iret C hr hP hS h dX10_thing_75
    replace h := if_f c9 h
    by_cases c14 : v2 = 2
    · replace h := if_t c14 h
      refine lv_tableIn (off := 53) (tgt := 76) hx hb dX10_thing_23 (by rw [c14]; decide) (by rw [c14]; decide) (by rw [c14]; rfl) (by decide) ?_
      refine lv_aload_n hx hb dX10_thing_76 rfl (lv_at hl 0 rfl) ?_
      refine r_getRx C hP (iw hw (fi_10 hk0)) hk0 fl_X10_22 rfl (zw hw) dX10_thing_77 (fun x5 ex5 => ?_)
      replace h := vl_ok ex5 h
      obtain ⟨g5, h⟩ := gd_ok h
      refine r_getF (off := 10) C hP (iw hw (fi_2 g5)) g5 fl_X10_138 rfl rfl (zw hw) dX10_thing_80 ?_
      refine lv_iload_n hx hb dX10_thing_83 rfl (lv_at hl 1 rfl) ?_
      obtain ⟨g8, h⟩ := gd_ok h
      refine r_iald C hP (iw hw (ff_2_7 g5).2) (ff_2_7 g5).1 g8 dX10_thing_84 ?_
      exact t_iret C hr hP hS h dX10_thing_85
    replace h := if_f c14 h
    by_cases c15 : v2 = 3
    · replace h := if_t c15 h
      refine lv_tableIn (off := 63) (tgt := 86) hx hb dX10_thing_23 (by rw [c15]; decide) (by rw [c15]; decide) (by rw [c15]; rfl) (by decide) ?_
      refine lv_aload_n hx hb dX10_thing_86 rfl (lv_at hl 0 rfl) ?_
      refine r_getF (off := 66) C hP (iw hw (fi_10 hk0)) hk0 fl_X10_36 rfl rfl (zw hw) dX10_thing_87 ?_
      refine r_getF (off := 2) C hP (iw hw (ff_10_4 hk0).2) (ff_10_4 hk0).1 fl_X10_141 rfl rfl (zw hw) dX10_thing_90 ?_
      refine lv_iload_n hx hb dX10_thing_93 rfl (lv_at hl 1 rfl) ?_
      obtain ⟨g8, h⟩ := gd_ok h
      refine r_iald C hP (iw hw (ff_7_1 (ff_10_4 hk0).1).2) (ff_7_1 (ff_10_4 hk0).1).1 g8 dX10_thing_94 ?_
      exact t_iret C hr hP hS h dX10_thing_95
    replace h := if_f c15 h
    by_cases c16 : v2 = 4
    · replace h := if_t c16 h
      refine lv_tableIn (off := 73) (tgt := 96) hx hb dX10_thing_23 (by rw [c16]; decide) (by rw [c16]; decide) (by rw [c16]; rfl) (by decide) ?_
      refine lv_aload_n hx hb dX10_thing_96 rfl (lv_at hl 0 rfl) ?_
      refine r_getF (off := 66) C hP (iw hw (fi_10 hk0)) hk0 fl_X10_36 rfl rfl (zw hw) dX10_thing_97 ?_
      refine r_getF (off := 3) C hP (iw hw (ff_10_4 hk0).2) (ff_10_4 hk0).1 fl_X10_144 rfl rfl (zw hw) dX10_thing_100 ?_
      refine lv_iload_n hx hb dX10_thing_103 rfl (lv_at hl 1 rfl) ?_
      obtain ⟨g8, h⟩ := gd_ok h
      refine r_iald C hP (iw hw (ff_7_2 (ff_10_4 hk0).1).2) (ff_7_2 (ff_10_4 hk0).1).1 g8 dX10_thing_104 ?_
      exact t_iret C hr hP hS h dX10_thing_105
    replace h := if_f c16 h
    cases h
    have ho : v2.toInt < 0 ∨ 4 < v2.toInt := tb_out v2 0 4 (fun v h1 h2 => by
      rcases (show v = 0 ∨ v = 1 ∨ v = 2 ∨ v = 3 ∨ v = 4 by omega) with rfl | rfl | rfl | rfl | rfl
      · exact c7
      · exact c9
      · exact c14
      · exact c15
      · exact c16)
    refine lv_tableOut (tgt := 106) hx hb dX10_thing_23 ho (by decide) ?_
    obtain ⟨a4, h4⟩ := hX.2.2.2.1
    exact vx_throwSX hx hb hl0 x30_0 x30_1 x30_2 x30_5 (own := RX10) (cls := xNS) (names := xNm) (A := fG w) hown xfit1 xfitn (hX.use1 _ (List.mem_cons_self)) (hX.use1 _ (List.mem_cons_of_mem _ List.mem_cons_self)) h4 (fun x hx => hX.use1 x (List.mem_cons_of_mem _ (List.mem_cons_of_mem _ hx))) xo1 hX.1 hX.2.1 (hS.wide hJ) (hl.1.trans hml.symm) dX10_thing_106 dX10_thing_109 dX10_thing_110 dX10_thing_112 dX10_thing_115 (fun x hx => (hnt x hx).elim) (by decide) (by decide) (by decide) (by decide) hlk (t_post hJ hK hP hS (Or.inr ⟨rfl, rfl⟩)) hS.2.2 (by decide) (by decide)
  · replace h := if_t c6 h
    cases h
    obtain ⟨a3, h3⟩ := hX.2.2.1
    exact vx_throwS hx hb hl0 (own := RX10) (cls := xIO) (names := xNm) (A := fG w) hown xfit0 xfitn (hX.use0 _ (List.mem_cons_self)) (hX.use0 _ (List.mem_cons_of_mem _ List.mem_cons_self)) h3 (fun x hx => hX.use0 x (List.mem_cons_of_mem _ (List.mem_cons_of_mem _ hx))) xo0 hX.1 hX.2.1 (hS.wide hJ) (hl.1.trans hml.symm) dX10_thing_12 dX10_thing_15 dX10_thing_16 dX10_thing_18 dX10_thing_21 (fun x hx => (hnt x hx).elim) (by decide) (by decide) (by decide) (by decide) hlk (t_post hJ hK hP hS (Or.inl ⟨rfl, rfl⟩)) hS.2.2 (by decide) (by decide)
