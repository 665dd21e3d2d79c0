def f_X10_gauge (v0 : Nat) (v1 : Int32) (μ : fMem) : Option (Int32 × fMem) :=
  if v1 < 0 then some ((-1 : Int32), μ) else if v1 ≤ (9999 : Int32) then vl (μ.2.2 v0 2) fun x3 => gd (kd x3 = (4, 2)) (bd (f_X2_glassOf x3 v1 μ) fun r6 μ5 => some (r6, μ5)) else some ((-1 : Int32), μ)
def rm_X10_gauge : Room := { frames := 2, cells := 0, slots := 0, locals := 43 }
set_option maxHeartbeats 4000000 in
set_option maxRecDepth 100000 in
theorem m_X10_gauge (l : Launch) (w : fW) (hJ : fJ w) (hw : w.2.2.2 = sd 0) (v0 : Nat) (v1 : Int32) (hk0 : kd v0 = (4, 10)) (μ : fMem) {r : Int32} {μr : fMem} (h : f_X10_gauge v0 v1 μ = some (r, μr)) : Met l yX10_gauge (.code yX10_gauge cX10_gauge 2 (some .int) :: gw) rm_X10_gauge (fPc w [.ref (w.2.2.1 v0), .int v1] μ) (fQi w r μr) 0 0 (fA w) := by
  refine met_of hJ (by decide) ?_ (Nat.le_of_ble_eq_true rfl)
  generalize ([.ref (w.2.2.1 v0), .int v1] : List Value).toArray = args
  intro p e s m below meth c ls C hr hP hl hS
  obtain ⟨hx, hb, hml, hown, hts, hK, -, hlk, hT⟩ := id C
  have hl : lv_has ls 2 [(0, .ref (w.2.2.1 v0)), (1, .int v1)] := hl
  unfold f_X10_gauge at h
  refine lv_iload_n hx hb dX10_gauge_0 rfl (lv_at hl 1 rfl) ?_
  refine lv_if_lt (tgt := 11) hx hb dX10_gauge_1 (by decide) (fun c1 => ?_) (fun c1 => ?_)
  · replace h := if_t c1 h
    refine lv_iconst (v := (-1)) hx hb dX10_gauge_11 (by decide) ?_
    refine lv_goto (tgt := 23) hx hb dX10_gauge_12 (by decide) ?_
    exact r_iret C hr hP hS h dX10_gauge_23
  · replace h := if_f c1 h
    refine lv_iload_n hx hb dX10_gauge_4 rfl (lv_at hl 1 rfl) ?_
    refine lv_sipush (v := (9999)) hx hb dX10_gauge_5 (by decide) ?_
    refine lv_icmp_le (tgt := 15) hx hb dX10_gauge_8 (by decide) (fun c2 => ?_) (fun c2 => ?_)
    · replace h := if_t c2 h
      refine lv_aload_n hx hb dX10_gauge_15 rfl (lv_at hl 0 rfl) ?_
      refine r_getRx C hP (iw hw (fi_10 hk0)) hk0 fl_X10_22 rfl (zw hw) dX10_gauge_16 (fun x3 ex3 => ?_)
      replace h := vl_ok ex3 h
      obtain ⟨g4, h⟩ := gd_ok h
      refine lv_iload_n hx hb dX10_gauge_19 rfl (lv_at hl 1 rfl) ?_
      obtain ⟨r6, μ5, h7, h⟩ := bd_ok h
      refine go_i (callV_run (As := [.int v1]) (rest := []) C hl hP (hS.wide hJ).2.1 (iw hw (fi_2 g4)) g4 (m_X2_glassOf l w hJ hw x3 v1 g4 μ h7) mv_X10_186 ⟨rfl, rfl, by decide, by decide⟩ rfl rfl (Nat.le_of_ble_eq_true rfl) ⟨Nat.zero_le _, Nat.zero_le _⟩ dX10_gauge_20) hS (fun H locs hP hS => ?_)
      exact r_iret C hr hP hS h dX10_gauge_23
    · replace h := if_f c2 h
      refine lv_iconst (v := (-1)) hx hb dX10_gauge_11 (by decide) ?_
      refine lv_goto (tgt := 23) hx hb dX10_gauge_12 (by decide) ?_
      exact r_iret C hr hP hS h dX10_gauge_23

def f_X10_liking (v0 : Nat) (v1 : Int32) (v2 : Int32) (μ : fMem) : Option (Int32 × fMem) :=
  vl (μ.2.2 v0 2) fun x1 => gd (kd x1 = (4, 2)) (bd (f_X2_has x1 (3 : Int32) v1 μ) fun r4 μ3 => if r4 = 0 then some ((-1 : Int32), μ3) else vl (μ3.2.2 v0 2) fun x7 => gd (kd x7 = (4, 2)) (bd (f_X2_has x7 (2 : Int32) v2 μ3) fun r10 μ9 => if r10 = 0 then some ((-1 : Int32), μ9) else vl (μ9.2.2 v0 2) fun x13 => gd (kd x13 = (4, 2)) (bd (f_X0_begin (v0 + 84) x13 (v0 + 66) μ9) fun r16 μ15 => gd (ixo v2 8) (bd (f_X0_likes (v0 + 84) v1 v2 (μ15.1 ((v0 + 66) + 1) (Int32.toNatClampNeg v2)) μ15) fun r20 μ19 => some (r20, μ19)))))
def rm_X10_liking : Room := { frames := 4, cells := 0, slots := 0, locals := 131 }
set_option maxHeartbeats 4000000 in
set_option maxRecDepth 100000 in
theorem m_X10_liking (l : Launch) (w : fW) (hJ : fJ w) (hw : w.2.2.2 = sd 0) (v0 : Nat) (v1 : Int32) (v2 : Int32) (hk0 : kd v0 = (4, 10)) (μ : fMem) {r : Int32} {μr : fMem} (h : f_X10_liking v0 v1 v2 μ = some (r, μr)) : Met l yX10_liking (.code yX10_liking cX10_liking 3 (some .int) :: gw) rm_X10_liking (fPc w [.ref (w.2.2.1 v0), .int v1, .int v2] μ) (fQi w r μr) 0 0 (fA w) := by
  refine met_of hJ (by decide) ?_ (Nat.le_of_ble_eq_true rfl)
  generalize ([.ref (w.2.2.1 v0), .int v1, .int v2] : List Value).toArray = args
  intro p e s m below meth c ls C hr hP hl hS
  obtain ⟨hx, hb, hml, hown, hts, hK, -, hlk, hT⟩ := id C
  have hl : lv_has ls 3 [(0, .ref (w.2.2.1 v0)), (1, .int v1), (2, .int v2)] := hl
  unfold f_X10_liking at h
  refine lv_aload_n hx hb dX10_liking_0 rfl (lv_at hl 0 rfl) ?_
  refine r_getRx C hP (iw hw (fi_10 hk0)) hk0 fl_X10_22 rfl (zw hw) dX10_liking_1 (fun x1 ex1 => ?_)
  replace h := vl_ok ex1 h
  obtain ⟨g2, h⟩ := gd_ok h
  refine lv_iconst (v := (3)) hx hb dX10_liking_4 (by decide) ?_
  refine lv_iload_n hx hb dX10_liking_5 rfl (lv_at hl 1 rfl) ?_
  obtain ⟨r4, μ3, h5, h⟩ := bd_ok h
  refine go_i (callV_run (As := [.int (3 : Int32), .int v1]) (rest := []) C hl hP (hS.wide hJ).2.1 (iw hw (fi_2 g2)) g2 (m_X2_has l w hJ hw x1 (3 : Int32) v1 g2 μ h5) mv_X10_121 ⟨rfl, rfl, by decide, by decide⟩ rfl rfl (Nat.le_of_ble_eq_true rfl) ⟨Nat.zero_le _, Nat.zero_le _⟩ dX10_liking_6) hS (fun H locs hP hS => ?_)
  refine lv_if_eq (tgt := 24) hx hb dX10_liking_9 (by decide) (fun c6 => ?_) (fun c6 => ?_)
  · replace h := if_t c6 h
    refine lv_iconst (v := (-1)) hx hb dX10_liking_24 (by decide) ?_
    exact r_iret C hr hP hS h dX10_liking_25
  · replace h := if_f c6 h
    refine lv_aload_n hx hb dX10_liking_12 rfl (lv_at hl 0 rfl) ?_
    refine r_getRx C hP (iw hw (fi_10 hk0)) hk0 fl_X10_22 rfl (zw hw) dX10_liking_13 (fun x7 ex7 => ?_)
    replace h := vl_ok ex7 h
    obtain ⟨g8, h⟩ := gd_ok h
    refine lv_iconst (v := (2)) hx hb dX10_liking_16 (by decide) ?_
    refine lv_iload_n hx hb dX10_liking_17 rfl (lv_at hl 2 rfl) ?_
    obtain ⟨r10, μ9, h11, h⟩ := bd_ok h
    refine go_i (callV_run (As := [.int (2 : Int32), .int v2]) (rest := []) C hl hP (hS.wide hJ).2.1 (iw hw (fi_2 g8)) g8 (m_X2_has l w hJ hw x7 (2 : Int32) v2 g8 μ3 h11) mv_X10_121 ⟨rfl, rfl, by decide, by decide⟩ rfl rfl (Nat.le_of_ble_eq_true rfl) ⟨Nat.zero_le _, Nat.zero_le _⟩ dX10_liking_18) hS (fun H locs hP hS => ?_)
    refine lv_if_ne (tgt := 26) hx hb dX10_liking_21 (by decide) (fun c12 => ?_) (fun c12 => ?_)
    · replace h := if_f c12 h
      refine lv_aload_n hx hb dX10_liking_26 rfl (lv_at hl 0 rfl) ?_
      refine r_getF (off := 84) C hP (iw hw (fi_10 hk0)) hk0 fl_X10_53 rfl rfl (zw hw) dX10_liking_27 ?_
      refine lv_aload_n hx hb dX10_liking_30 rfl (lv_at hl 0 rfl) ?_
      refine r_getRx C hP (iw hw (fi_10 hk0)) hk0 fl_X10_22 rfl (zw hw) dX10_liking_31 (fun x13 ex13 => ?_)
      replace h := vl_ok ex13 h
      obtain ⟨g14, h⟩ := gd_ok h
      refine lv_aload_n hx hb dX10_liking_34 rfl (lv_at hl 0 rfl) ?_
      refine r_getF (off := 66) C hP (iw hw (fi_10 hk0)) hk0 fl_X10_36 rfl rfl (zw hw) dX10_liking_35 ?_
      obtain ⟨r16, μ15, h17, h⟩ := bd_ok h
      refine go_v (callV_run (As := [.ref (w.2.2.1 x13), .ref (w.2.2.1 (v0 + 66))]) (rest := []) C hl hP (hS.wide hJ).2.1 (iw hw (ff_10_8 hk0).2) (ff_10_8 hk0).1 (m_X0_begin l w hJ hw (v0 + 84) x13 (v0 + 66) (ff_10_8 hk0).1 g14 (ff_10_4 hk0).1 μ9 h17) mv_X10_189 ⟨rfl, rfl, by decide, by decide⟩ rfl rfl (Nat.le_of_ble_eq_true rfl) ⟨Nat.zero_le _, Nat.zero_le _⟩ dX10_liking_38) hS (fun H locs hP hS => ?_)
      refine lv_aload_n hx hb dX10_liking_41 rfl (lv_at hl 0 rfl) ?_
      refine r_getF (off := 84) C hP (iw hw (fi_10 hk0)) hk0 fl_X10_53 rfl rfl (zw hw) dX10_liking_42 ?_
      refine lv_iload_n hx hb dX10_liking_45 rfl (lv_at hl 1 rfl) ?_
      refine lv_iload_n hx hb dX10_liking_46 rfl (lv_at hl 2 rfl) ?_
      refine lv_aload_n hx hb dX10_liking_47 rfl (lv_at hl 0 rfl) ?_
      refine r_getF (off := 66) C hP (iw hw (fi_10 hk0)) hk0 fl_X10_36 rfl rfl (zw hw) dX10_liking_48 ?_
      refine r_getF (off := 1) C hP (iw hw (ff_10_4 hk0).2) (ff_10_4 hk0).1 fl_X10_132 rfl rfl (zw hw) dX10_liking_51 ?_
      refine lv_iload_n hx hb dX10_liking_54 rfl (lv_at hl 2 rfl) ?_
      obtain ⟨g18, h⟩ := gd_ok h
      refine r_iald C hP (iw hw (ff_7_0 (ff_10_4 hk0).1).2) (ff_7_0 (ff_10_4 hk0).1).1 g18 dX10_liking_55 ?_
      obtain ⟨r20, μ19, h21, h⟩ := bd_ok h
      refine go_i (callV_run (As := [.int v1, .int v2, .int (μ15.1 ((v0 + 66) + 1) (Int32.toNatClampNeg v2))]) (rest := []) C hl hP (hS.wide hJ).2.1 (iw hw (ff_10_8 hk0).2) (ff_10_8 hk0).1 (m_X0_likes l w hJ hw (v0 + 84) v1 v2 (μ15.1 ((v0 + 66) + 1) (Int32.toNatClampNeg v2)) (ff_10_8 hk0).1 μ15 h21) mv_X10_193 ⟨rfl, rfl, by decide, by decide⟩ rfl rfl (Nat.le_of_ble_eq_true rfl) ⟨Nat.zero_le _, Nat.zero_le _⟩ dX10_liking_56) hS (fun H locs hP hS => ?_)
      exact r_iret C hr hP hS h dX10_liking_59
    · replace h := if_t c12 h
      refine lv_iconst (v := (-1)) hx hb dX10_liking_24 (by decide) ?_
      exact r_iret C hr hP hS h dX10_liking_25

def f_X10_law_j46 (v0 : Nat) (v1 : Int32) (v2 : Int32) (v3 : Int32) (μ : fMem) : Option (Int64 × fMem) :=
  vl (μ.2.2 v0 2) fun x16 => gd (kd x16 = (4, 2)) (bd (f_X0_begin (v0 + 84) x16 (v0 + 66) μ) fun r19 μ18 => if v1 = (2 : Int32) then bd (f_X0_value (v0 + 84) v1 v2 (-1 : Int32) (-1 : Int32) μ18) fun r27 μ26 => some (r27, μ26) else gd (ixo v3 8) (bd (f_X0_value (v0 + 84) v1 v2 v3 (μ18.1 ((v0 + 66) + 1) (Int32.toNatClampNeg v3)) μ18) fun r24 μ23 => some (r24, μ23)))
def f_X10_law (v0 : Nat) (v1 : Int32) (v2 : Int32) (v3 : Int32) (μ : fMem) : Option (Int64 × fMem) :=
  if v1 < 0 then some ((-9223372036854775808 : Int64), μ) else if (2 : Int32) < v1 then some ((-9223372036854775808 : Int64), μ) else vl (μ.2.2 v0 2) fun x3 => gd (kd x3 = (4, 2)) (bd (f_X2_has x3 (3 : Int32) v2 μ) fun r6 μ5 => if r6 = 0 then some ((-9223372036854775808 : Int64), μ5) else if v1 = (2 : Int32) then f_X10_law_j46 v0 v1 v2 v3 μ5 else vl (μ5.2.2 v0 2) fun x10 => gd (kd x10 = (4, 2)) (bd (f_X2_has x10 (2 : Int32) v3 μ5) fun r13 μ12 => if r13 = 0 then some ((-9223372036854775808 : Int64), μ12) else f_X10_law_j46 v0 v1 v2 v3 μ12))
def rm_X10_law : Room := { frames := 4, cells := 0, slots := 0, locals := 86 }
set_option maxHeartbeats 4000000 in
set_option maxRecDepth 100000 in
theorem m_X10_law (l : Launch) (w : fW) (hJ : fJ w) (hw : w.2.2.2 = sd 0) (v0 : Nat) (v1 : Int32) (v2 : Int32) (v3 : Int32) (hk0 : kd v0 = (4, 10)) (μ : fMem) {r : Int64} {μr : fMem} (h : f_X10_law v0 v1 v2 v3 μ = some (r, μr)) : Met l yX10_law (.code yX10_law cX10_law 4 (some .long) :: gw) rm_X10_law (fPc w [.ref (w.2.2.1 v0), .int v1, .int v2, .int v3] μ) (fQl w r μr) 0 0 (fA w) := by
  refine met_of hJ (by decide) ?_ (Nat.le_of_ble_eq_true rfl)
  generalize ([.ref (w.2.2.1 v0), .int v1, .int v2, .int v3] : List Value).toArray = args
  intro p e s m below meth c ls C hr hP hl hS
  obtain ⟨hx, hb, hml, hown, hts, hK, -, hlk, hT⟩ := id C
  have hl : lv_has ls 4 [(0, .ref (w.2.2.1 v0)), (1, .int v1), (2, .int v2), (3, .int v3)] := hl
  unfold f_X10_law at h
  have J46 : ∀  (μ : fMem), f_X10_law_j46 v0 v1 v2 v3 μ = some (r, μr) → WW p l e rm_X10_law s m args below meth c (MQ below (fQl w r μr) args s 0 0 (fA w)) w μ 4 46 [] [(0, .ref (w.2.2.1 v0)), (1, .int v1), (2, .int v2), (3, .int v3)] := by
    intro  μ  h H locs ls hP hS hl
    unfold f_X10_law_j46 at h
    refine lv_aload_n hx hb dX10_law_46 rfl (lv_at hl 0 rfl) ?_
    refine r_getF (off := 84) C hP (iw hw (fi_10 hk0)) hk0 fl_X10_53 rfl rfl (zw hw) dX10_law_47 ?_
    refine lv_aload_n hx hb dX10_law_50 rfl (lv_at hl 0 rfl) ?_
    refine r_getRx C hP (iw hw (fi_10 hk0)) hk0 fl_X10_22 rfl (zw hw) dX10_law_51 (fun x16 ex16 => ?_)
    replace h := vl_ok ex16 h
    obtain ⟨g17, h⟩ := gd_ok h
    refine lv_aload_n hx hb dX10_law_54 rfl (lv_at hl 0 rfl) ?_
    refine r_getF (off := 66) C hP (iw hw (fi_10 hk0)) hk0 fl_X10_36 rfl rfl (zw hw) dX10_law_55 ?_
    obtain ⟨r19, μ18, h20, h⟩ := bd_ok h
    refine go_v (callV_run (As := [.ref (w.2.2.1 x16), .ref (w.2.2.1 (v0 + 66))]) (rest := []) C hl hP (hS.wide hJ).2.1 (iw hw (ff_10_8 hk0).2) (ff_10_8 hk0).1 (m_X0_begin l w hJ hw (v0 + 84) x16 (v0 + 66) (ff_10_8 hk0).1 g17 (ff_10_4 hk0).1 μ h20) mv_X10_189 ⟨rfl, rfl, by decide, by decide⟩ rfl rfl (Nat.le_of_ble_eq_true rfl) ⟨Nat.zero_le _, Nat.zero_le _⟩ dX10_law_58) hS (fun H locs hP hS => ?_)
    refine lv_iload_n hx hb dX10_law_61 rfl (lv_at hl 1 rfl) ?_
    refine lv_iconst (v := (2)) hx hb dX10_law_62 (by decide) ?_
    refine lv_icmp_ne (tgt := 80) hx hb dX10_law_63 (by decide) (fun c21 => ?_) (fun c21 => ?_)
    · replace h := if_f c21 h
      refine lv_aload_n hx hb dX10_law_80 rfl (lv_at hl 0 rfl) ?_
      refine r_getF (off := 84) C hP (iw hw (fi_10 hk0)) hk0 fl_X10_53 rfl rfl (zw hw) dX10_law_81 ?_
      refine lv_iload_n hx hb dX10_law_84 rfl (lv_at hl 1 rfl) ?_
      refine lv_iload_n hx hb dX10_law_85 rfl (lv_at hl 2 rfl) ?_
      refine lv_iload_n hx hb dX10_law_86 rfl (lv_at hl 3 rfl) ?_
      refine lv_aload_n hx hb dX10_law_87 rfl (lv_at hl 0 rfl) ?_
      refine r_getF (off := 66) C hP (iw hw (fi_10 hk0)) hk0 fl_X10_36 rfl rfl (zw hw) dX10_law_88 ?_
      refine r_getF (off := 1) C hP (iw hw (ff_10_4 hk0).2) (ff_10_4 hk0).1 fl_X10_132 rfl rfl (zw hw) dX10_law_91 ?_
      refine lv_iload_n hx hb dX10_law_94 rfl (lv_at hl 3 rfl) ?_
      obtain ⟨g22, h⟩ := gd_ok h
      refine r_iald C hP (iw hw (ff_7_0 (ff_10_4 hk0).1).2) (ff_7_0 (ff_10_4 hk0).1).1 g22 dX10_law_95 ?_
      obtain ⟨r24, μ23, h25, h⟩ := bd_ok h
      refine go_l (callV_run (As := [.int v1, .int v2, .int v3, .int (μ18.1 ((v0 + 66) + 1) (Int32.toNatClampNeg v3))]) (rest := []) C hl hP (hS.wide hJ).2.1 (iw hw (ff_10_8 hk0).2) (ff_10_8 hk0).1 (m_X0_value l w hJ hw (v0 + 84) v1 v2 v3 (μ18.1 ((v0 + 66) + 1) (Int32.toNatClampNeg v3)) (ff_10_8 hk0).1 μ18 h25) mv_X10_199 ⟨rfl, rfl, by decide, by decide⟩ rfl rfl (Nat.le_of_ble_eq_true rfl) ⟨Nat.zero_le _, Nat.zero_le _⟩ dX10_law_96) hS (fun H locs hP hS => ?_)
      exact r_lret C hr hP hS h dX10_law_99
    · replace h := if_t c21 h
      refine lv_aload_n hx hb dX10_law_66 rfl (lv_at hl 0 rfl) ?_
      refine r_getF (off := 84) C hP (iw hw (fi_10 hk0)) hk0 fl_X10_53 rfl rfl (zw hw) dX10_law_67 ?_
      refine lv_iload_n hx hb dX10_law_70 rfl (lv_at hl 1 rfl) ?_
      refine lv_iload_n hx hb dX10_law_71 rfl (lv_at hl 2 rfl) ?_
      refine lv_iconst (v := (-1)) hx hb dX10_law_72 (by decide) ?_
      refine lv_iconst (v := (-1)) hx hb dX10_law_73 (by decide) ?_
      obtain ⟨r27, μ26, h28, h⟩ := bd_ok h
      refine go_l (callV_run (As := [.int v1, .int v2, .int (-1 : Int32), .int (-1 : Int32)]) (rest := []) C hl hP (hS.wide hJ).2.1 (iw hw (ff_10_8 hk0).2) (ff_10_8 hk0).1 (m_X0_value l w hJ hw (v0 + 84) v1 v2 (-1 : Int32) (-1 : Int32) (ff_10_8 hk0).1 μ18 h28) mv_X10_199 ⟨rfl, rfl, by decide, by decide⟩ rfl rfl (Nat.le_of_ble_eq_true rfl) ⟨Nat.zero_le _, Nat.zero_le _⟩ dX10_law_74) hS (fun H locs hP hS => ?_)
      refine lv_goto (tgt := 99) hx hb dX10_law_77 (by decide) ?_
      exact r_lret C hr hP hS h dX10_law_99
  refine lv_iload_n hx hb dX10_law_0 rfl (lv_at hl 1 rfl) ?_
  refine lv_if_lt (tgt := 21) hx hb dX10_law_1 (by decide) (fun c1 => ?_) (fun c1 => ?_)
  · replace h := if_t c1 h
    refine lv_ldc2 hx hb hown (hts _ ct_X10_197) dX10_law_21 ?_
    exact r_lret C hr hP hS h dX10_law_24
  · replace h := if_f c1 h
    refine lv_iload_n hx hb dX10_law_4 rfl (lv_at hl 1 rfl) ?_
    refine lv_iconst (v := (2)) hx hb dX10_law_5 (by decide) ?_
    refine lv_icmp_gt (tgt := 21) hx hb dX10_law_6 (by decide) (fun c2 => ?_) (fun c2 => ?_)
    · replace h := if_t c2 h
      refine lv_ldc2 hx hb hown (hts _ ct_X10_197) dX10_law_21 ?_
      exact r_lret C hr hP hS h dX10_law_24
    · replace h := if_f c2 h
      refine lv_aload_n hx hb dX10_law_9 rfl (lv_at hl 0 rfl) ?_
      refine r_getRx C hP (iw hw (fi_10 hk0)) hk0 fl_X10_22 rfl (zw hw) dX10_law_10 (fun x3 ex3 => ?_)
      replace h := vl_ok ex3 h
      obtain ⟨g4, h⟩ := gd_ok h
      refine lv_iconst (v := (3)) hx hb dX10_law_13 (by decide) ?_
      refine lv_iload_n hx hb dX10_law_14 rfl (lv_at hl 2 rfl) ?_
      obtain ⟨r6, μ5, h7, h⟩ := bd_ok h
      refine go_i (callV_run (As := [.int (3 : Int32), .int v2]) (rest := []) C hl hP (hS.wide hJ).2.1 (iw hw (fi_2 g4)) g4 (m_X2_has l w hJ hw x3 (3 : Int32) v2 g4 μ h7) mv_X10_121 ⟨rfl, rfl, by decide, by decide⟩ rfl rfl (Nat.le_of_ble_eq_true rfl) ⟨Nat.zero_le _, Nat.zero_le _⟩ dX10_law_15) hS (fun H locs hP hS => ?_)
      refine lv_if_ne (tgt := 25) hx hb dX10_law_18 (by decide) (fun c8 => ?_) (fun c8 => ?_)
      · replace h := if_f c8 h
        refine lv_iload_n hx hb dX10_law_25 rfl (lv_at hl 1 rfl) ?_
        refine lv_iconst (v := (2)) hx hb dX10_law_26 (by decide) ?_
        refine lv_icmp_eq (tgt := 46) hx hb dX10_law_27 (by decide) (fun c9 => ?_) (fun c9 => ?_)
        · replace h := if_t c9 h
          exact J46  μ5  h _ _ _ hP hS (lv_sub hl [0, 1, 2, 3] rfl)
        · replace h := if_f c9 h
          refine lv_aload_n hx hb dX10_law_30 rfl (lv_at hl 0 rfl) ?_
          refine r_getRx C hP (iw hw (fi_10 hk0)) hk0 fl_X10_22 rfl (zw hw) dX10_law_31 (fun x10 ex10 => ?_)
          replace h := vl_ok ex10 h
          obtain ⟨g11, h⟩ := gd_ok h
          refine lv_iconst (v := (2)) hx hb dX10_law_34 (by decide) ?_
          refine lv_iload_n hx hb dX10_law_35 rfl (lv_at hl 3 rfl) ?_
          obtain ⟨r13, μ12, h14, h⟩ := bd_ok h
          refine go_i (callV_run (As := [.int (2 : Int32), .int v3]) (rest := []) C hl hP (hS.wide hJ).2.1 (iw hw (fi_2 g11)) g11 (m_X2_has l w hJ hw x10 (2 : Int32) v3 g11 μ5 h14) mv_X10_121 ⟨rfl, rfl, by decide, by decide⟩ rfl rfl (Nat.le_of_ble_eq_true rfl) ⟨Nat.zero_le _, Nat.zero_le _⟩ dX10_law_36) hS (fun H locs hP hS => ?_)
          refine lv_if_ne (tgt := 46) hx hb dX10_law_39 (by decide) (fun c15 => ?_) (fun c15 => ?_)
          · replace h := if_f c15 h
            exact J46  μ12  h _ _ _ hP hS (lv_sub hl [0, 1, 2, 3] rfl)
          · replace h := if_t c15 h
            refine lv_ldc2 hx hb hown (hts _ ct_X10_197) dX10_law_42 ?_
            exact r_lret C hr hP hS h dX10_law_45
      · replace h := if_t c8 h
        refine lv_ldc2 hx hb hown (hts _ ct_X10_197) dX10_law_21 ?_
        exact r_lret C hr hP hS h dX10_law_24

def f_X10_sum_L10 (v0 : Nat) (x1 : Int32) (v1 : Int32) (v4 : Int32) (μ : fMem) : Option (Nat × (Int32 × Int32 × fMem)) :=
  if x1 ≤ v4 then some (1, (v1, v4, μ)) else gd (ixo v4 (kd v0).2) (vl (μ.1 v0 (Int32.toNatClampNeg v4)) fun x4 => vl (v1 + x4) fun x5 => vl (v4 + (1 : Int32)) fun x6 => some (0, (x5, x6, μ)))
def f_X10_sum (v0 : Nat) (μ : fMem) : Option (Int32 × fMem) :=
  vl (Int32.ofNat (kd v0).2) fun x1 => bd (lpn (fun (q : Int32 × Int32 × fMem) => f_X10_sum_L10 v0 x1 q.1 q.2.1 q.2.2) fuel ((0 : Int32), (0 : Int32), μ)) fun t7 q8 => (fun (x9 : Int32) (x10 : Int32) (μ11 : fMem) => some (x9, μ11)) q8.1 q8.2.1 q8.2.2
def rm_X10_sum : Room := { frames := 0, cells := 0, slots := 0, locals := 0 }
set_option maxHeartbeats 4000000 in
set_option maxRecDepth 100000 in
theorem m_X10_sum (l : Launch) (w : fW) (hJ : fJ w) (hw : w.2.2.2 = sd 0) (v0 : Nat) (hk0 : kd v0 = (0, (kd v0).2)) (hi0 : inW w.2.2.2 v0) (μ : fMem) {r : Int32} {μr : fMem} (h : f_X10_sum v0 μ = some (r, μr)) : Met l yX10_sum (.code yX10_sum cX10_sum 6 (some .int) :: gw) rm_X10_sum (fPc w [.ref (w.2.2.1 v0)] μ) (fQi w r μr) 0 0 (fA w) := by
  refine met_of hJ (by decide) ?_ (Nat.le_of_ble_eq_true rfl)
  generalize ([.ref (w.2.2.1 v0)] : List Value).toArray = args
  intro p e s m below meth c ls C hr hP hl hS
  obtain ⟨hx, hb, hml, hown, hts, hK, -, hlk, hT⟩ := id C
  have hl : lv_has ls 6 [(0, .ref (w.2.2.1 v0))] := hl
  unfold f_X10_sum at h
  refine lv_iconst (v := (0)) hx hb dX10_sum_0 (by decide) ?_
  refine lv_istore_n (lv' := [(1, .int (0 : Int32)), (0, .ref (w.2.2.1 v0))]) hx hb dX10_sum_1 rfl hl (by decide) rfl (fun ls hl => ?_)
  refine lv_aload_n hx hb dX10_sum_2 rfl (lv_at hl 1 rfl) ?_
  refine lv_astore_n (lv' := [(2, .ref (w.2.2.1 v0)), (1, .int (0 : Int32)), (0, .ref (w.2.2.1 v0))]) hx hb dX10_sum_3 rfl hl (by decide) rfl (fun ls hl => ?_)
  refine lv_aload_n hx hb dX10_sum_4 rfl (lv_at hl 0 rfl) ?_
  refine r_alen C hP hi0 (Or.inl hk0) rfl dX10_sum_5 ?_
  refine lv_topi (fun x1 ex1 => ?_)
  replace h := vl_ok ex1 h
  refine lv_istore_n (lv' := [(3, .int x1), (2, .ref (w.2.2.1 v0)), (1, .int (0 : Int32)), (0, .ref (w.2.2.1 v0))]) hx hb dX10_sum_6 rfl hl (by decide) rfl (fun ls hl => ?_)
  refine lv_iconst (v := (0)) hx hb dX10_sum_7 (by decide) ?_
  refine lv_istore (lv' := [(4, .int (0 : Int32)), (3, .int x1), (2, .ref (w.2.2.1 v0)), (1, .int (0 : Int32)), (0, .ref (w.2.2.1 v0))]) hx hb dX10_sum_8 hl (by decide) rfl (fun ls hl => ?_)
  obtain ⟨t7, q8, h12, h⟩ := bd_ok h
  refine lpn_ind (b := (fun (q : Int32 × Int32 × fMem) => f_X10_sum_L10 v0 x1 q.1 q.2.1 q.2.2)) (P := fun (q : Int32 × Int32 × fMem) => WW p l e rm_X10_sum s m args below meth c (MQ below (fQi w r μr) args s 0 0 (fA w)) w q.2.2 6 10 [] [(1, .int q.1), (2, .ref (w.2.2.1 v0)), (3, .int x1), (4, .int q.2.1)]) (K := fun _ (q : Int32 × Int32 × fMem) => WW p l e rm_X10_sum s m args below meth c (MQ below (fQi w r μr) args s 0 0 (fA w)) w q.2.2 6 33 [] [(1, .int q.1)]) ?_ fuel ((0 : Int32), (0 : Int32), μ) t7 q8 h12 ?_ _ _ _ hP hS (lv_sub hl [3, 2, 1, 0] rfl)
  · intro q tz10 sz10 h hP0_10 hK0_10 H locs ls hP hS hl
    obtain ⟨v1, v4, μ⟩ := q
    have hP : fP w μ H := hP
    have hl : lv_has ls 6 [(1, .int v1), (2, .ref (w.2.2.1 v0)), (3, .int x1), (4, .int v4)] := hl
    have h : f_X10_sum_L10 v0 x1 v1 v4 μ = some (tz10, sz10) := h
    unfold f_X10_sum_L10 at h
    refine lv_iload hx hb dX10_sum_10 (lv_at hl 3 rfl) ?_
    refine lv_iload_n hx hb dX10_sum_12 rfl (lv_at hl 2 rfl) ?_
    refine lv_icmp_ge (tgt := 33) hx hb dX10_sum_13 (by decide) (fun c2 => ?_) (fun c2 => ?_)
    · replace h := if_t c2 h
      obtain ⟨rfl, rfl⟩ := leaf h
      exact (hK0_10 0 rfl) _ _ _ hP hS (lv_sub hl [0] rfl)
    · replace h := if_f c2 h
      refine lv_aload_n hx hb dX10_sum_16 rfl (lv_at hl 1 rfl) ?_
      refine lv_iload hx hb dX10_sum_17 (lv_at hl 3 rfl) ?_
      obtain ⟨g3, h⟩ := gd_ok h
      refine r_iald C hP hi0 hk0 g3 dX10_sum_19 ?_
      refine lv_topi (fun x4 ex4 => ?_)
      replace h := vl_ok ex4 h
      refine lv_istore (lv' := [(5, .int x4), (1, .int v1), (2, .ref (w.2.2.1 v0)), (3, .int x1), (4, .int v4)]) hx hb dX10_sum_20 hl (by decide) rfl (fun ls hl => ?_)
      refine lv_iload_n hx hb dX10_sum_22 rfl (lv_at hl 1 rfl) ?_
      refine lv_iload hx hb dX10_sum_23 (lv_at hl 0 rfl) ?_
      refine lv_iadd hx hb dX10_sum_25 ?_
      refine lv_topi (fun x5 ex5 => ?_)
      replace h := vl_ok ex5 h
      refine lv_istore_n (lv' := [(1, .int x5), (5, .int x4), (2, .ref (w.2.2.1 v0)), (3, .int x1), (4, .int v4)]) hx hb dX10_sum_26 rfl hl (by decide) rfl (fun ls hl => ?_)
      obtain ⟨x6, ex6⟩ : ∃ y : Int32, y = (v4 + (1 : Int32)) := ⟨_, rfl⟩
      replace h := vl_ok ex6 h
      refine lv_iinc (v := x6) (lv' := [(4, .int x6), (1, .int x5), (5, .int x4), (2, .ref (w.2.2.1 v0)), (3, .int x1)]) hx hb dX10_sum_27 hl (k := 4) rfl (by rw [ex6]; rfl) (by decide) rfl (fun ls hl => ?_)
      refine lv_goto (tgt := 10) hx hb dX10_sum_30 (by decide) ?_
      obtain ⟨rfl, rfl⟩ := leaf h
      exact hP0_10 rfl _ _ _ hP hS (lv_sub hl [1, 3, 4, 0] rfl)
  · obtain ⟨x9, x10, μ11⟩ := q8
    intro H locs ls hP hS hl
    have hP : fP w μ11 H := hP
    have hl : lv_has ls 6 [(1, .int x9)] := hl
    try dsimp only at h
    refine lv_iload_n hx hb dX10_sum_33 rfl (lv_at hl 0 rfl) ?_
    exact r_iret C hr hP hS h dX10_sum_34

def f_X10_count (v0 : Nat) (v1 : Int32) (μ : fMem) : Option (Int32 × fMem) :=
  if v1 = 0 then vl (μ.2.2 v0 2) fun x2 => gd (kd x2 = (4, 2)) (bd (f_X2_told x2 (0 : Int32) μ) fun r5 μ4 => some (r5, μ4)) else if v1 = 1 then vl (μ.2.2 v0 2) fun x8 => gd (kd x8 = (4, 2)) (bd (f_X2_told x8 (1 : Int32) μ) fun r11 μ10 => some (r11, μ10)) else if v1 = 2 then vl (μ.2.2 v0 2) fun x14 => gd (kd x14 = (4, 2)) (bd (f_X2_told x14 (2 : Int32) μ) fun r17 μ16 => some (r17, μ16)) else if v1 = 3 then vl (μ.2.2 v0 2) fun x20 => gd (kd x20 = (4, 2)) (bd (f_X2_told x20 (3 : Int32) μ) fun r23 μ22 => some (r23, μ22)) else if v1 = 4 then vl (μ.2.2 v0 2) fun x26 => gd (kd x26 = (4, 2)) (bd (f_X2_told x26 (4 : Int32) μ) fun r29 μ28 => some (r29, μ28)) else if v1 = 5 then vl (μ.2.2 v0 2) fun x32 => gd (kd x32 = (4, 2)) (some ((μ.1 x32 2), μ)) else if v1 = 6 then some ((μ.1 (v0 + 66) 6), μ) else if v1 = 7 then bd (f_X10_sum ((v0 + 66) + 2) μ) fun r37 μ36 => some (r37, μ36) else if v1 = 8 then bd (f_X10_sum ((v0 + 66) + 3) μ) fun r41 μ40 => some (r41, μ40) else if v1 = 9 then bd (f_X10_sum ((v0 + 66) + 5) μ) fun r45 μ44 => some (r45, μ44) else if v1 = 10 then some ((μ.1 (v0 + 123) 0), μ) else if v1 = 11 then bd (f_X4_knownBy (v0 + 123) μ) fun r50 μ49 => some (r50, μ49) else if v1 = 12 then some ((μ.1 (v0 + 130) 0), μ) else some ((-1 : Int32), μ)
def rm_X10_count : Room := { frames := 2, cells := 0, slots := 0, locals := 100 }
set_option maxHeartbeats 4000000 in
set_option maxRecDepth 100000 in
theorem m_X10_count (l : Launch) (w : fW) (hJ : fJ w) (hw : w.2.2.2 = sd 0) (v0 : Nat) (v1 : Int32) (hk0 : kd v0 = (4, 10)) (μ : fMem) {r : Int32} {μr : fMem} (h : f_X10_count v0 v1 μ = some (r, μr)) : Met l yX10_count (.code yX10_count cX10_count 2 (some .int) :: gw) rm_X10_count (fPc w [.ref (w.2.2.1 v0), .int v1] μ) (fQi w r μr) 0 0 (fA w) := by
  refine met_of hJ (by decide) ?_ (Nat.le_of_ble_eq_true rfl)
  generalize ([.ref (w.2.2.1 v0), .int v1] : List Value).toArray = args
  intro p e s m below meth c ls C hr hP hl hS
  obtain ⟨hx, hb, hml, hown, hts, hK, -, hlk, hT⟩ := id C
  have hl : lv_has ls 2 [(0, .ref (w.2.2.1 v0)), (1, .int v1)] := hl
  unfold f_X10_count at h
  refine lv_iload_n hx hb dX10_count_0 rfl (lv_at hl 1 rfl) ?_
  by_cases c1 : v1 = 0
  · replace h := if_t c1 h
    refine lv_tableIn (off := 67) (tgt := 68) hx hb dX10_count_1 (by rw [c1]; decide) (by rw [c1]; decide) (by rw [c1]; rfl) (by decide) ?_
    refine lv_aload_n hx hb dX10_count_68 rfl (lv_at hl 0 rfl) ?_
    refine r_getRx C hP (iw hw (fi_10 hk0)) hk0 fl_X10_22 rfl (zw hw) dX10_count_69 (fun x2 ex2 => ?_)
    replace h := vl_ok ex2 h
    obtain ⟨g3, h⟩ := gd_ok h
    refine lv_iconst (v := (0)) hx hb dX10_count_72 (by decide) ?_
    obtain ⟨r5, μ4, h6, h⟩ := bd_ok h
    refine go_i (callV_run (As := [.int (0 : Int32)]) (rest := []) C hl hP (hS.wide hJ).2.1 (iw hw (fi_2 g3)) g3 (m_X2_told l w hJ hw x2 (0 : Int32) g3 μ h6) mv_X10_203 ⟨rfl, rfl, by decide, by decide⟩ rfl rfl (Nat.le_of_ble_eq_true rfl) ⟨Nat.zero_le _, Nat.zero_le _⟩ dX10_count_73) hS (fun H locs hP hS => ?_)
    exact r_iret C hr hP hS h dX10_count_76
  replace h := if_f c1 h
  by_cases c7 : v1 = 1
  · replace h := if_t c7 h
    refine lv_tableIn (off := 76) (tgt := 77) hx hb dX10_count_1 (by rw [c7]; decide) (by rw [c7]; decide) (by rw [c7]; rfl) (by decide) ?_
    refine lv_aload_n hx hb dX10_count_77 rfl (lv_at hl 0 rfl) ?_
    refine r_getRx C hP (iw hw (fi_10 hk0)) hk0 fl_X10_22 rfl (zw hw) dX10_count_78 (fun x8 ex8 => ?_)
    replace h := vl_ok ex8 h
    obtain ⟨g9, h⟩ := gd_ok h
    refine lv_iconst (v := (1)) hx hb dX10_count_81 (by decide) ?_
    obtain ⟨r11, μ10, h12, h⟩ := bd_ok h
    refine go_i (callV_run (As := [.int (1 : Int32)]) (rest := []) C hl hP (hS.wide hJ).2.1 (iw hw (fi_2 g9)) g9 (m_X2_told l w hJ hw x8 (1 : Int32) g9 μ h12) mv_X10_203 ⟨rfl, rfl, by decide, by decide⟩ rfl rfl (Nat.le_of_ble_eq_true rfl) ⟨Nat.zero_le _, Nat.zero_le _⟩ dX10_count_82) hS (fun H locs hP hS => ?_)
    exact r_iret C hr hP hS h dX10_count_85
  replace h := if_f c7 h
  by_cases c13 : v1 = 2
  · replace h := if_t c13 h
    refine lv_tableIn (off := 85) (tgt := 86) hx hb dX10_count_1 (by rw [c13]; decide) (by rw [c13]; decide) (by rw [c13]; rfl) (by decide) ?_
    refine lv_aload_n hx hb dX10_count_86 rfl (lv_at hl 0 rfl) ?_
    refine r_getRx C hP (iw hw (fi_10 hk0)) hk0 fl_X10_22 rfl (zw hw) dX10_count_87 (fun x14 ex14 => ?_)
    replace h := vl_ok ex14 h
    obtain ⟨g15, h⟩ := gd_ok h
    refine lv_iconst (v := (2)) hx hb dX10_count_90 (by decide) ?_
    obtain ⟨r17, μ16, h18, h⟩ := bd_ok h
    refine go_i (callV_run (As := [.int (2 : Int32)]) (rest := []) C hl hP (hS.wide hJ).2.1 (iw hw (fi_2 g15)) g15 (m_X2_told l w hJ hw x14 (2 : Int32) g15 μ h18) mv_X10_203 ⟨rfl, rfl, by decide, by decide⟩ rfl rfl (Nat.le_of_ble_eq_true rfl) ⟨Nat.zero_le _, Nat.zero_le _⟩ dX10_count_91) hS (fun H locs hP hS => ?_)
    exact r_iret C hr hP hS h dX10_count_94
  replace h := if_f c13 h
  by_cases c19 : v1 = 3
  · replace h := if_t c19 h
    refine lv_tableIn (off := 94) (tgt := 95) hx hb dX10_count_1 (by rw [c19]; decide) (by rw [c19]; decide) (by rw [c19]; rfl) (by decide) ?_
    refine lv_aload_n hx hb dX10_count_95 rfl (lv_at hl 0 rfl) ?_
    refine r_getRx C hP (iw hw (fi_10 hk0)) hk0 fl_X10_22 rfl (zw hw) dX10_count_96 (fun x20 ex20 => ?_)
    replace h := vl_ok ex20 h
    obtain ⟨g21, h⟩ := gd_ok h
    refine lv_iconst (v := (3)) hx hb dX10_count_99 (by decide) ?_
    obtain ⟨r23, μ22, h24, h⟩ := bd_ok h
    refine go_i (callV_run (As := [.int (3 : Int32)]) (rest := []) C hl hP (hS.wide hJ).2.1 (iw hw (fi_2 g21)) g21 (m_X2_told l w hJ hw x20 (3 : Int32) g21 μ h24) mv_X10_203 ⟨rfl, rfl, by decide, by decide⟩ rfl rfl (Nat.le_of_ble_eq_true rfl) ⟨Nat.zero_le _, Nat.zero_le _⟩ dX10_count_100) hS (fun H locs hP hS => ?_)
    exact r_iret C hr hP hS h dX10_count_103
  replace h := if_f c19 h
  by_cases c25 : v1 = 4
  · replace h := if_t c25 h
    refine lv_tableIn (off := 103) (tgt := 104) hx hb dX10_count_1 (by rw [c25]; decide) (by rw [c25]; decide) (by rw [c25]; rfl) (by decide) ?_
    refine lv_aload_n hx hb dX10_count_104 rfl (lv_at hl 0 rfl) ?_
    refine r_getRx C hP (iw hw (fi_10 hk0)) hk0 fl_X10_22 rfl (zw hw) dX10_count_105 (fun x26 ex26 => ?_)
    replace h := vl_ok ex26 h
    obtain ⟨g27, h⟩ := gd_ok h
    refine lv_iconst (v := (4)) hx hb dX10_count_108 (by decide) ?_
    obtain ⟨r29, μ28, h30, h⟩ := bd_ok h
    refine go_i (callV_run (As := [.int (4 : Int32)]) (rest := []) C hl hP (hS.wide hJ).2.1 (iw hw (fi_2 g27)) g27 (m_X2_told l w hJ hw x26 (4 : Int32) g27 μ h30) mv_X10_203 ⟨rfl, rfl, by decide, by decide⟩ rfl rfl (Nat.le_of_ble_eq_true rfl) ⟨Nat.zero_le _, Nat.zero_le _⟩ dX10_count_109) hS (fun H locs hP hS => ?_)
    exact r_iret C hr hP hS h dX10_count_112
  replace h := if_f c25 h
  by_cases c31 : v1 = 5
  · replace h := if_t c31 h
    refine lv_tableIn (off := 112) (tgt := 113) hx hb dX10_count_1 (by rw [c31]; decide) (by rw [c31]; decide) (by rw [c31]; rfl) (by decide) ?_
    refine lv_aload_n hx hb dX10_count_113 rfl (lv_at hl 0 rfl) ?_
    refine r_getRx C hP (iw hw (fi_10 hk0)) hk0 fl_X10_22 rfl (zw hw) dX10_count_114 (fun x32 ex32 => ?_)
    replace h := vl_ok ex32 h
    obtain ⟨g33, h⟩ := gd_ok h
    refine r_getI C hP (iw hw (fi_2 g33)) g33 fl_X10_206 (Or.inl rfl) dX10_count_117 ?_
    exact r_iret C hr hP hS h dX10_count_120
  replace h := if_f c31 h
  by_cases c34 : v1 = 6
  · replace h := if_t c34 h
    refine lv_tableIn (off := 120) (tgt := 121) hx hb dX10_count_1 (by rw [c34]; decide) (by rw [c34]; decide) (by rw [c34]; rfl) (by decide) ?_
    refine lv_aload_n hx hb dX10_count_121 rfl (lv_at hl 0 rfl) ?_
    refine r_getF (off := 66) C hP (iw hw (fi_10 hk0)) hk0 fl_X10_36 rfl rfl (zw hw) dX10_count_122 ?_
    refine r_getI C hP (iw hw (ff_10_4 hk0).2) (ff_10_4 hk0).1 fl_X10_209 (Or.inl rfl) dX10_count_125 ?_
    exact r_iret C hr hP hS h dX10_count_128
  replace h := if_f c34 h
  by_cases c35 : v1 = 7
  · replace h := if_t c35 h
    refine lv_tableIn (off := 128) (tgt := 129) hx hb dX10_count_1 (by rw [c35]; decide) (by rw [c35]; decide) (by rw [c35]; rfl) (by decide) ?_
    refine lv_aload_n hx hb dX10_count_129 rfl (lv_at hl 0 rfl) ?_
    refine r_getF (off := 66) C hP (iw hw (fi_10 hk0)) hk0 fl_X10_36 rfl rfl (zw hw) dX10_count_130 ?_
    refine r_getF (off := 2) C hP (iw hw (ff_10_4 hk0).2) (ff_10_4 hk0).1 fl_X10_141 rfl rfl (zw hw) dX10_count_133 ?_
    obtain ⟨r37, μ36, h38, h⟩ := bd_ok h
    refine go_i (callS_run (As := [.ref (w.2.2.1 ((v0 + 66) + 2))]) (rest := []) C hl hP (hS.wide hJ).2.1 (m_X10_sum l w hJ hw ((v0 + 66) + 2) (karr (ff_7_1 (ff_10_4 hk0).1).1) (iw hw (ff_7_1 (ff_10_4 hk0).1).2) μ h38) ms_X10_212 ⟨rfl, rfl, by decide, by decide⟩ rfl rfl (Nat.le_of_ble_eq_true rfl) ⟨Nat.zero_le _, Nat.zero_le _⟩ dX10_count_136) hS (fun H locs hP hS => ?_)
    exact r_iret C hr hP hS h dX10_count_139
  replace h := if_f c35 h
  by_cases c39 : v1 = 8
  · replace h := if_t c39 h
    refine lv_tableIn (off := 139) (tgt := 140) hx hb dX10_count_1 (by rw [c39]; decide) (by rw [c39]; decide) (by rw [c39]; rfl) (by decide) ?_
    refine lv_aload_n hx hb dX10_count_140 rfl (lv_at hl 0 rfl) ?_
    refine r_getF (off := 66) C hP (iw hw (fi_10 hk0)) hk0 fl_X10_36 rfl rfl (zw hw) dX10_count_141 ?_
    refine r_getF (off := 3) C hP (iw hw (ff_10_4 hk0).2) (ff_10_4 hk0).1 fl_X10_144 rfl rfl (zw hw) dX10_count_144 ?_
    obtain ⟨r41, μ40, h42, h⟩ := bd_ok h
    refine go_i (callS_run (As := [.ref (w.2.2.1 ((v0 + 66) + 3))]) (rest := []) C hl hP (hS.wide hJ).2.1 (m_X10_sum l w hJ hw ((v0 + 66) + 3) (karr (ff_7_2 (ff_10_4 hk0).1).1) (iw hw (ff_7_2 (ff_10_4 hk0).1).2) μ h42) ms_X10_212 ⟨rfl, rfl, by decide, by decide⟩ rfl rfl (Nat.le_of_ble_eq_true rfl) ⟨Nat.zero_le _, Nat.zero_le _⟩ dX10_count_147) hS (fun H locs hP hS => ?_)
    exact r_iret C hr hP hS h dX10_count_150
  replace h := if_f c39 h
  by_cases c43 : v1 = 9
  · replace h := if_t c43 h
    refine lv_tableIn (off := 150) (tgt := 151) hx hb dX10_count_1 (by rw [c43]; decide) (by rw [c43]; decide) (by rw [c43]; rfl) (by decide) ?_
    refine lv_aload_n hx hb dX10_count_151 rfl (lv_at hl 0 rfl) ?_
    refine r_getF (off := 66) C hP (iw hw (fi_10 hk0)) hk0 fl_X10_36 rfl rfl (zw hw) dX10_count_152 ?_
    refine r_getF (off := 5) C hP (iw hw (ff_10_4 hk0).2) (ff_10_4 hk0).1 fl_X10_180 rfl rfl (zw hw) dX10_count_155 ?_
    obtain ⟨r45, μ44, h46, h⟩ := bd_ok h
    refine go_i (callS_run (As := [.ref (w.2.2.1 ((v0 + 66) + 5))]) (rest := []) C hl hP (hS.wide hJ).2.1 (m_X10_sum l w hJ hw ((v0 + 66) + 5) (karr (ff_7_4 (ff_10_4 hk0).1).1) (iw hw (ff_7_4 (ff_10_4 hk0).1).2) μ h46) ms_X10_212 ⟨rfl, rfl, by decide, by decide⟩ rfl rfl (Nat.le_of_ble_eq_true rfl) ⟨Nat.zero_le _, Nat.zero_le _⟩ dX10_count_158) hS (fun H locs hP hS => ?_)
    exact r_iret C hr hP hS h dX10_count_161
  replace h := if_f c43 h
  by_cases c47 : v1 = 10
  · replace h := if_t c47 h
    refine lv_tableIn (off := 161) (tgt := 162) hx hb dX10_count_1 (by rw [c47]; decide) (by rw [c47]; decide) (by rw [c47]; rfl) (by decide) ?_
    refine lv_aload_n hx hb dX10_count_162 rfl (lv_at hl 0 rfl) ?_
    refine r_getF (off := 123) C hP (iw hw (fi_10 hk0)) hk0 fl_X10_60 rfl rfl (zw hw) dX10_count_163 ?_
    refine r_getI C hP (iw hw (ff_10_9 hk0).2) (ff_10_9 hk0).1 fl_X10_216 (Or.inl rfl) dX10_count_166 ?_
    exact r_iret C hr hP hS h dX10_count_169
  replace h := if_f c47 h
  by_cases c48 : v1 = 11
  · replace h := if_t c48 h
    refine lv_tableIn (off := 169) (tgt := 170) hx hb dX10_count_1 (by rw [c48]; decide) (by rw [c48]; decide) (by rw [c48]; rfl) (by decide) ?_
    refine lv_aload_n hx hb dX10_count_170 rfl (lv_at hl 0 rfl) ?_
    refine r_getF (off := 123) C hP (iw hw (fi_10 hk0)) hk0 fl_X10_60 rfl rfl (zw hw) dX10_count_171 ?_
    obtain ⟨r50, μ49, h51, h⟩ := bd_ok h
    refine go_i (callV_run (As := []) (rest := []) C hl hP (hS.wide hJ).2.1 (iw hw (ff_10_9 hk0).2) (ff_10_9 hk0).1 (m_X4_knownBy l w hJ hw (v0 + 123) (ff_10_9 hk0).1 μ h51) mv_X10_219 ⟨rfl, rfl, by decide, by decide⟩ rfl rfl (Nat.le_of_ble_eq_true rfl) ⟨Nat.zero_le _, Nat.zero_le _⟩ dX10_count_174) hS (fun H locs hP hS => ?_)
    exact r_iret C hr hP hS h dX10_count_177
  replace h := if_f c48 h
  by_cases c52 : v1 = 12
  · replace h := if_t c52 h
    refine lv_tableIn (off := 177) (tgt := 178) hx hb dX10_count_1 (by rw [c52]; decide) (by rw [c52]; decide) (by rw [c52]; rfl) (by decide) ?_
    refine lv_aload_n hx hb dX10_count_178 rfl (lv_at hl 0 rfl) ?_
    refine r_getF (off := 130) C hP (iw hw (fi_10 hk0)) hk0 fl_X10_67 rfl rfl (zw hw) dX10_count_179 ?_
    refine r_getI C hP (iw hw (ff_10_10 hk0).2) (ff_10_10 hk0).1 fl_X10_223 (Or.inl rfl) dX10_count_182 ?_
    exact r_iret C hr hP hS h dX10_count_185
  replace h := if_f c52 h
  have ho : Int32.toInt v1 < 0 ∨ 12 < Int32.toInt v1 := tb_out _ _ _ (fun v h1 h2 => by
    rcases (show v = 0 ∨ v = 1 ∨ v = 2 ∨ v = 3 ∨ v = 4 ∨ v = 5 ∨ v = 6 ∨ v = 7 ∨ v = 8 ∨ v = 9 ∨ v = 10 ∨ v = 11 ∨ v = 12 by omega) with rfl | rfl | rfl | rfl | rfl | rfl | rfl | rfl | rfl | rfl | rfl | rfl | rfl
    · exact c1
    · exact c7
    · exact c13
    · exact c19
    · exact c25
    · exact c31
    · exact c34
    · exact c35
    · exact c39
    · exact c43
    · exact c47
    · exact c48
    · exact c52)
  refine lv_tableOut (tgt := 186) hx hb dX10_count_1 ho (by decide) ?_
  refine lv_iconst (v := (-1)) hx hb dX10_count_186 (by decide) ?_
  exact r_iret C hr hP hS h dX10_count_187

def f_X10_hang (v0 : Nat) (v1 : Int32) (v2 : Int32) (μ : fMem) : Option (Int32 × fMem) :=
  vl (μ.2.2 v0 2) fun x1 => gd (kd x1 = (4, 2)) (bd (f_X2_has x1 (2 : Int32) v1 μ) fun r4 μ3 => if r4 = 0 then gd (bl (0 : Int32)) (some ((0 : Int32), μ3)) else vl (μ3.2.2 v0 2) fun x7 => gd (kd x7 = (4, 2)) (bd (f_X2_has x7 (0 : Int32) v2 μ3) fun r10 μ9 => if r10 = 0 then gd (bl (0 : Int32)) (some ((0 : Int32), μ9)) else gd (ixo v1 8) (if (μ9.1 ((v0 + 66) + 1) (Int32.toNatClampNeg v1)) = v2 then gd (bl (0 : Int32)) (some ((0 : Int32), μ9)) else gd (ixo v1 8) (bd (f_X8_add (v0 + 130) (0 : Int32) v1 (μ9.1 ((v0 + 66) + 1) (Int32.toNatClampNeg v1)) μ9) fun r17 μ16 => gd (ixo v1 8) (vl (sI μ16 ((v0 + 66) + 1) (Int32.toNatClampNeg v1) v2) fun μ19 => gd (bl (1 : Int32)) (some ((1 : Int32), μ19)))))))
def rm_X10_hang : Room := { frames := 3, cells := 0, slots := 0, locals := 123 }
set_option maxHeartbeats 4000000 in
set_option maxRecDepth 100000 in
theorem m_X10_hang (l : Launch) (w : fW) (hJ : fJ w) (hw : w.2.2.2 = sd 0) (v0 : Nat) (v1 : Int32) (v2 : Int32) (hk0 : kd v0 = (4, 10)) (μ : fMem) {r : Int32} {μr : fMem} (h : f_X10_hang v0 v1 v2 μ = some (r, μr)) : Met l yX10_hang (.code yX10_hang cX10_hang 3 (some .boolean) :: gw) rm_X10_hang (fPc w [.ref (w.2.2.1 v0), .int v1, .int v2] μ) (fQi w r μr) 0 0 (fA w) := by
  refine met_of hJ (by decide) ?_ (Nat.le_of_ble_eq_true rfl)
  generalize ([.ref (w.2.2.1 v0), .int v1, .int v2] : List Value).toArray = args
  intro p e s m below meth c ls C hr hP hl hS
  obtain ⟨hx, hb, hml, hown, hts, hK, -, hlk, hT⟩ := id C
  have hl : lv_has ls 3 [(0, .ref (w.2.2.1 v0)), (1, .int v1), (2, .int v2)] := hl
  unfold f_X10_hang at h
  refine lv_aload_n hx hb dX10_hang_0 rfl (lv_at hl 0 rfl) ?_
  refine r_getRx C hP (iw hw (fi_10 hk0)) hk0 fl_X10_22 rfl (zw hw) dX10_hang_1 (fun x1 ex1 => ?_)
  replace h := vl_ok ex1 h
  obtain ⟨g2, h⟩ := gd_ok h
  refine lv_iconst (v := (2)) hx hb dX10_hang_4 (by decide) ?_
  refine lv_iload_n hx hb dX10_hang_5 rfl (lv_at hl 1 rfl) ?_
  obtain ⟨r4, μ3, h5, h⟩ := bd_ok h
  refine go_i (callV_run (As := [.int (2 : Int32), .int v1]) (rest := []) C hl hP (hS.wide hJ).2.1 (iw hw (fi_2 g2)) g2 (m_X2_has l w hJ hw x1 (2 : Int32) v1 g2 μ h5) mv_X10_121 ⟨rfl, rfl, by decide, by decide⟩ rfl rfl (Nat.le_of_ble_eq_true rfl) ⟨Nat.zero_le _, Nat.zero_le _⟩ dX10_hang_6) hS (fun H locs hP hS => ?_)
  refine lv_if_eq (tgt := 24) hx hb dX10_hang_9 (by decide) (fun c6 => ?_) (fun c6 => ?_)
  · replace h := if_t c6 h
    refine lv_iconst (v := (0)) hx hb dX10_hang_24 (by decide) ?_
    exact r_zret C hr hP hS h dX10_hang_25
  · replace h := if_f c6 h
    refine lv_aload_n hx hb dX10_hang_12 rfl (lv_at hl 0 rfl) ?_
    refine r_getRx C hP (iw hw (fi_10 hk0)) hk0 fl_X10_22 rfl (zw hw) dX10_hang_13 (fun x7 ex7 => ?_)
    replace h := vl_ok ex7 h
    obtain ⟨g8, h⟩ := gd_ok h
    refine lv_iconst (v := (0)) hx hb dX10_hang_16 (by decide) ?_
    refine lv_iload_n hx hb dX10_hang_17 rfl (lv_at hl 2 rfl) ?_
    obtain ⟨r10, μ9, h11, h⟩ := bd_ok h
    refine go_i (callV_run (As := [.int (0 : Int32), .int v2]) (rest := []) C hl hP (hS.wide hJ).2.1 (iw hw (fi_2 g8)) g8 (m_X2_has l w hJ hw x7 (0 : Int32) v2 g8 μ3 h11) mv_X10_121 ⟨rfl, rfl, by decide, by decide⟩ rfl rfl (Nat.le_of_ble_eq_true rfl) ⟨Nat.zero_le _, Nat.zero_le _⟩ dX10_hang_18) hS (fun H locs hP hS => ?_)
    refine lv_if_ne (tgt := 26) hx hb dX10_hang_21 (by decide) (fun c12 => ?_) (fun c12 => ?_)
    · replace h := if_f c12 h
      refine lv_aload_n hx hb dX10_hang_26 rfl (lv_at hl 0 rfl) ?_
      refine r_getF (off := 66) C hP (iw hw (fi_10 hk0)) hk0 fl_X10_36 rfl rfl (zw hw) dX10_hang_27 ?_
      refine r_getF (off := 1) C hP (iw hw (ff_10_4 hk0).2) (ff_10_4 hk0).1 fl_X10_132 rfl rfl (zw hw) dX10_hang_30 ?_
      refine lv_iload_n hx hb dX10_hang_33 rfl (lv_at hl 1 rfl) ?_
      obtain ⟨g13, h⟩ := gd_ok h
      refine r_iald C hP (iw hw (ff_7_0 (ff_10_4 hk0).1).2) (ff_7_0 (ff_10_4 hk0).1).1 g13 dX10_hang_34 ?_
      refine lv_iload_n hx hb dX10_hang_35 rfl (lv_at hl 2 rfl) ?_
      refine lv_icmp_ne (tgt := 41) hx hb dX10_hang_36 (by decide) (fun c14 => ?_) (fun c14 => ?_)
      · replace h := if_f c14 h
        refine lv_aload_n hx hb dX10_hang_41 rfl (lv_at hl 0 rfl) ?_
        refine r_getF (off := 130) C hP (iw hw (fi_10 hk0)) hk0 fl_X10_67 rfl rfl (zw hw) dX10_hang_42 ?_
        refine lv_iconst (v := (0)) hx hb dX10_hang_45 (by decide) ?_
        refine lv_iload_n hx hb dX10_hang_46 rfl (lv_at hl 1 rfl) ?_
        refine lv_aload_n hx hb dX10_hang_47 rfl (lv_at hl 0 rfl) ?_
        refine r_getF (off := 66) C hP (iw hw (fi_10 hk0)) hk0 fl_X10_36 rfl rfl (zw hw) dX10_hang_48 ?_
        refine r_getF (off := 1) C hP (iw hw (ff_10_4 hk0).2) (ff_10_4 hk0).1 fl_X10_132 rfl rfl (zw hw) dX10_hang_51 ?_
        refine lv_iload_n hx hb dX10_hang_54 rfl (lv_at hl 1 rfl) ?_
        obtain ⟨g15, h⟩ := gd_ok h
        refine r_iald C hP (iw hw (ff_7_0 (ff_10_4 hk0).1).2) (ff_7_0 (ff_10_4 hk0).1).1 g15 dX10_hang_55 ?_
        obtain ⟨r17, μ16, h18, h⟩ := bd_ok h
        refine go_v (callV_run (As := [.int (0 : Int32), .int v1, .int (μ9.1 ((v0 + 66) + 1) (Int32.toNatClampNeg v1))]) (rest := []) C hl hP (hS.wide hJ).2.1 (iw hw (ff_10_10 hk0).2) (ff_10_10 hk0).1 (m_X8_add l w hJ hw (v0 + 130) (0 : Int32) v1 (μ9.1 ((v0 + 66) + 1) (Int32.toNatClampNeg v1)) (ff_10_10 hk0).1 μ9 h18) mv_X10_224 ⟨rfl, rfl, by decide, by decide⟩ rfl rfl (Nat.le_of_ble_eq_true rfl) ⟨Nat.zero_le _, Nat.zero_le _⟩ dX10_hang_56) hS (fun H locs hP hS => ?_)
        refine lv_aload_n hx hb dX10_hang_59 rfl (lv_at hl 0 rfl) ?_
        refine r_getF (off := 66) C hP (iw hw (fi_10 hk0)) hk0 fl_X10_36 rfl rfl (zw hw) dX10_hang_60 ?_
        refine r_getF (off := 1) C hP (iw hw (ff_10_4 hk0).2) (ff_10_4 hk0).1 fl_X10_132 rfl rfl (zw hw) dX10_hang_63 ?_
        refine lv_iload_n hx hb dX10_hang_66 rfl (lv_at hl 1 rfl) ?_
        refine lv_iload_n hx hb dX10_hang_67 rfl (lv_at hl 2 rfl) ?_
        obtain ⟨g20, h⟩ := gd_ok h
        refine r_iast C hP hS (iw hw (ff_7_0 (ff_10_4 hk0).1).2) (ff_7_0 (ff_10_4 hk0).1).1 g20 dX10_hang_68 (fun H locs hP hS => ?_)
        obtain ⟨μ19, eμ19, h⟩ := vl_ex h
        have hP : fP w μ19 H := by rw [eμ19]; exact hP
        refine lv_iconst (v := (1)) hx hb dX10_hang_69 (by decide) ?_
        exact r_zret C hr hP hS h dX10_hang_70
      · replace h := if_t c14 h
        refine lv_iconst (v := (0)) hx hb dX10_hang_39 (by decide) ?_
        exact r_zret C hr hP hS h dX10_hang_40
    · replace h := if_t c12 h
      refine lv_iconst (v := (0)) hx hb dX10_hang_24 (by decide) ?_
      exact r_zret C hr hP hS h dX10_hang_25

def f_X10_rope_j41 (v0 : Nat) (v1 : Int32) (v2 : Int32) (t0 : Nat) (t1 : Int32) (t2 : Int32) (t3 : Int32) (μ : fMem) : Option (Int32 × fMem) :=
  bd (f_X8_add t0 t1 t2 t3 μ) fun r13 μ12 => bd (f_X7_setRoped (v0 + 66) v1 v2 μ12) fun r16 μ15 => gd (bl (1 : Int32)) (some ((1 : Int32), μ15))
def f_X10_rope (v0 : Nat) (v1 : Int32) (v2 : Int32) (μ : fMem) : Option (Int32 × fMem) :=
  vl (μ.2.2 v0 2) fun x1 => gd (kd x1 = (4, 2)) (bd (f_X2_has x1 (0 : Int32) v1 μ) fun r4 μ3 => if r4 = 0 then gd (bl (0 : Int32)) (some ((0 : Int32), μ3)) else bd (f_X7_isRoped (v0 + 66) v1 μ3) fun r8 μ7 => if r8 = v2 then gd (bl (0 : Int32)) (some ((0 : Int32), μ7)) else if v2 = 0 then f_X10_rope_j41 v0 v1 v2 (v0 + 130) (1 : Int32) v1 (1 : Int32) μ7 else f_X10_rope_j41 v0 v1 v2 (v0 + 130) (1 : Int32) v1 (0 : Int32) μ7)
def rm_X10_rope : Room := { frames := 3, cells := 0, slots := 0, locals := 123 }
set_option maxHeartbeats 4000000 in
set_option maxRecDepth 100000 in
theorem m_X10_rope (l : Launch) (w : fW) (hJ : fJ w) (hw : w.2.2.2 = sd 0) (v0 : Nat) (v1 : Int32) (v2 : Int32) (hk0 : kd v0 = (4, 10)) (μ : fMem) {r : Int32} {μr : fMem} (h : f_X10_rope v0 v1 v2 μ = some (r, μr)) : Met l yX10_rope (.code yX10_rope cX10_rope 3 (some .boolean) :: gw) rm_X10_rope (fPc w [.ref (w.2.2.1 v0), .int v1, .int v2] μ) (fQi w r μr) 0 0 (fA w) := by
  refine met_of hJ (by decide) ?_ (Nat.le_of_ble_eq_true rfl)
  generalize ([.ref (w.2.2.1 v0), .int v1, .int v2] : List Value).toArray = args
  intro p e s m below meth c ls C hr hP hl hS
  obtain ⟨hx, hb, hml, hown, hts, hK, -, hlk, hT⟩ := id C
  have hl : lv_has ls 3 [(0, .ref (w.2.2.1 v0)), (1, .int v1), (2, .int v2)] := hl
  unfold f_X10_rope at h
  have J41 : ∀ (t0 : Nat) (t1 : Int32) (t2 : Int32) (t3 : Int32) (μ : fMem) (_ : kd t0 = (4, 8)) (_ : inW w.2.2.2 t0), f_X10_rope_j41 v0 v1 v2 t0 t1 t2 t3 μ = some (r, μr) → WW p l e rm_X10_rope s m args below meth c (MQ below (fQi w r μr) args s 0 0 (fA w)) w μ 3 41 [.int t3, .int t2, .int t1, .ref (w.2.2.1 t0)] [(0, .ref (w.2.2.1 v0)), (1, .int v1), (2, .int v2)] := by
    intro t0 t1 t2 t3 μ kt0 it0 h H locs ls hP hS hl
    unfold f_X10_rope_j41 at h
    obtain ⟨r13, μ12, h14, h⟩ := bd_ok h
    refine go_v (callV_run (As := [.int t1, .int t2, .int t3]) (rest := []) C hl hP (hS.wide hJ).2.1 it0 kt0 (m_X8_add l w hJ hw t0 t1 t2 t3 kt0 μ h14) mv_X10_224 ⟨rfl, rfl, by decide, by decide⟩ rfl rfl (Nat.le_of_ble_eq_true rfl) ⟨Nat.zero_le _, Nat.zero_le _⟩ dX10_rope_41) hS (fun H locs hP hS => ?_)
    refine lv_aload_n hx hb dX10_rope_44 rfl (lv_at hl 0 rfl) ?_
    refine r_getF (off := 66) C hP (iw hw (fi_10 hk0)) hk0 fl_X10_36 rfl rfl (zw hw) dX10_rope_45 ?_
    refine lv_iload_n hx hb dX10_rope_48 rfl (lv_at hl 1 rfl) ?_
    refine lv_iload_n hx hb dX10_rope_49 rfl (lv_at hl 2 rfl) ?_
    obtain ⟨r16, μ15, h17, h⟩ := bd_ok h
    refine go_v (callV_run (As := [.int v1, .int v2]) (rest := []) C hl hP (hS.wide hJ).2.1 (iw hw (ff_10_4 hk0).2) (ff_10_4 hk0).1 (m_X7_setRoped l w hJ hw (v0 + 66) v1 v2 (ff_10_4 hk0).1 μ12 h17) mv_X10_228 ⟨rfl, rfl, by decide, by decide⟩ rfl rfl (Nat.le_of_ble_eq_true rfl) ⟨Nat.zero_le _, Nat.zero_le _⟩ dX10_rope_50) hS (fun H locs hP hS => ?_)
    refine lv_iconst (v := (1)) hx hb dX10_rope_53 (by decide) ?_
    exact r_zret C hr hP hS h dX10_rope_54
  refine lv_aload_n hx hb dX10_rope_0 rfl (lv_at hl 0 rfl) ?_
  refine r_getRx C hP (iw hw (fi_10 hk0)) hk0 fl_X10_22 rfl (zw hw) dX10_rope_1 (fun x1 ex1 => ?_)
  replace h := vl_ok ex1 h
  obtain ⟨g2, h⟩ := gd_ok h
  refine lv_iconst (v := (0)) hx hb dX10_rope_4 (by decide) ?_
  refine lv_iload_n hx hb dX10_rope_5 rfl (lv_at hl 1 rfl) ?_
  obtain ⟨r4, μ3, h5, h⟩ := bd_ok h
  refine go_i (callV_run (As := [.int (0 : Int32), .int v1]) (rest := []) C hl hP (hS.wide hJ).2.1 (iw hw (fi_2 g2)) g2 (m_X2_has l w hJ hw x1 (0 : Int32) v1 g2 μ h5) mv_X10_121 ⟨rfl, rfl, by decide, by decide⟩ rfl rfl (Nat.le_of_ble_eq_true rfl) ⟨Nat.zero_le _, Nat.zero_le _⟩ dX10_rope_6) hS (fun H locs hP hS => ?_)
  refine lv_if_eq (tgt := 24) hx hb dX10_rope_9 (by decide) (fun c6 => ?_) (fun c6 => ?_)
  · replace h := if_t c6 h
    refine lv_iconst (v := (0)) hx hb dX10_rope_24 (by decide) ?_
    exact r_zret C hr hP hS h dX10_rope_25
  · replace h := if_f c6 h
    refine lv_aload_n hx hb dX10_rope_12 rfl (lv_at hl 0 rfl) ?_
    refine r_getF (off := 66) C hP (iw hw (fi_10 hk0)) hk0 fl_X10_36 rfl rfl (zw hw) dX10_rope_13 ?_
    refine lv_iload_n hx hb dX10_rope_16 rfl (lv_at hl 1 rfl) ?_
    obtain ⟨r8, μ7, h9, h⟩ := bd_ok h
    refine go_i (callV_run (As := [.int v1]) (rest := []) C hl hP (hS.wide hJ).2.1 (iw hw (ff_10_4 hk0).2) (ff_10_4 hk0).1 (m_X7_isRoped l w hJ hw (v0 + 66) v1 (ff_10_4 hk0).1 μ3 h9) mv_X10_155 ⟨rfl, rfl, by decide, by decide⟩ rfl rfl (Nat.le_of_ble_eq_true rfl) ⟨Nat.zero_le _, Nat.zero_le _⟩ dX10_rope_17) hS (fun H locs hP hS => ?_)
    refine lv_iload_n hx hb dX10_rope_20 rfl (lv_at hl 2 rfl) ?_
    refine lv_icmp_ne (tgt := 26) hx hb dX10_rope_21 (by decide) (fun c10 => ?_) (fun c10 => ?_)
    · replace h := if_f c10 h
      refine lv_aload_n hx hb dX10_rope_26 rfl (lv_at hl 0 rfl) ?_
      refine r_getF (off := 130) C hP (iw hw (fi_10 hk0)) hk0 fl_X10_67 rfl rfl (zw hw) dX10_rope_27 ?_
      refine lv_iconst (v := (1)) hx hb dX10_rope_30 (by decide) ?_
      refine lv_iload_n hx hb dX10_rope_31 rfl (lv_at hl 1 rfl) ?_
      refine lv_iload_n hx hb dX10_rope_32 rfl (lv_at hl 2 rfl) ?_
      refine lv_if_eq (tgt := 40) hx hb dX10_rope_33 (by decide) (fun c11 => ?_) (fun c11 => ?_)
      · replace h := if_t c11 h
        refine lv_iconst (v := (1)) hx hb dX10_rope_40 (by decide) ?_
        exact J41 (v0 + 130) (1 : Int32) v1 (1 : Int32) μ7 (ff_10_10 hk0).1 (iw hw (ff_10_10 hk0).2) h _ _ _ hP hS (lv_sub hl [0, 1, 2] rfl)
      · replace h := if_f c11 h
        refine lv_iconst (v := (0)) hx hb dX10_rope_36 (by decide) ?_
        refine lv_goto (tgt := 41) hx hb dX10_rope_37 (by decide) ?_
        exact J41 (v0 + 130) (1 : Int32) v1 (0 : Int32) μ7 (ff_10_10 hk0).1 (iw hw (ff_10_10 hk0).2) h _ _ _ hP hS (lv_sub hl [0, 1, 2] rfl)
    · replace h := if_t c10 h
      refine lv_iconst (v := (0)) hx hb dX10_rope_24 (by decide) ?_
      exact r_zret C hr hP hS h dX10_rope_25

def f_X10_dust (v0 : Nat) (v1 : Int32) (μ : fMem) : Option (Int32 × fMem) :=
  vl (μ.2.2 v0 2) fun x1 => gd (kd x1 = (4, 2)) (bd (f_X2_has x1 (0 : Int32) v1 μ) fun r4 μ3 => if r4 = 0 then gd (bl (0 : Int32)) (some ((0 : Int32), μ3)) else gd (ixo v1 6) (if (μ3.1 ((v0 + 66) + 4) (Int32.toNatClampNeg v1)) = 0 then gd (bl (0 : Int32)) (some ((0 : Int32), μ3)) else gd (ixo v1 6) (bd (f_X8_add (v0 + 130) (2 : Int32) v1 (μ3.1 ((v0 + 66) + 4) (Int32.toNatClampNeg v1)) μ3) fun r11 μ10 => gd (ixo v1 6) (vl (sI μ10 ((v0 + 66) + 4) (Int32.toNatClampNeg v1) (0 : Int32)) fun μ13 => gd (bl (1 : Int32)) (some ((1 : Int32), μ13))))))
def rm_X10_dust : Room := { frames := 3, cells := 0, slots := 0, locals := 123 }
set_option maxHeartbeats 4000000 in
set_option maxRecDepth 100000 in
theorem m_X10_dust (l : Launch) (w : fW) (hJ : fJ w) (hw : w.2.2.2 = sd 0) (v0 : Nat) (v1 : Int32) (hk0 : kd v0 = (4, 10)) (μ : fMem) {r : Int32} {μr : fMem} (h : f_X10_dust v0 v1 μ = some (r, μr)) : Met l yX10_dust (.code yX10_dust cX10_dust 2 (some .boolean) :: gw) rm_X10_dust (fPc w [.ref (w.2.2.1 v0), .int v1] μ) (fQi w r μr) 0 0 (fA w) := by
  refine met_of hJ (by decide) ?_ (Nat.le_of_ble_eq_true rfl)
  generalize ([.ref (w.2.2.1 v0), .int v1] : List Value).toArray = args
  intro p e s m below meth c ls C hr hP hl hS
  obtain ⟨hx, hb, hml, hown, hts, hK, -, hlk, hT⟩ := id C
  have hl : lv_has ls 2 [(0, .ref (w.2.2.1 v0)), (1, .int v1)] := hl
  unfold f_X10_dust at h
  refine lv_aload_n hx hb dX10_dust_0 rfl (lv_at hl 0 rfl) ?_
  refine r_getRx C hP (iw hw (fi_10 hk0)) hk0 fl_X10_22 rfl (zw hw) dX10_dust_1 (fun x1 ex1 => ?_)
  replace h := vl_ok ex1 h
  obtain ⟨g2, h⟩ := gd_ok h
  refine lv_iconst (v := (0)) hx hb dX10_dust_4 (by decide) ?_
  refine lv_iload_n hx hb dX10_dust_5 rfl (lv_at hl 1 rfl) ?_
  obtain ⟨r4, μ3, h5, h⟩ := bd_ok h
  refine go_i (callV_run (As := [.int (0 : Int32), .int v1]) (rest := []) C hl hP (hS.wide hJ).2.1 (iw hw (fi_2 g2)) g2 (m_X2_has l w hJ hw x1 (0 : Int32) v1 g2 μ h5) mv_X10_121 ⟨rfl, rfl, by decide, by decide⟩ rfl rfl (Nat.le_of_ble_eq_true rfl) ⟨Nat.zero_le _, Nat.zero_le _⟩ dX10_dust_6) hS (fun H locs hP hS => ?_)
  refine lv_if_eq (tgt := 24) hx hb dX10_dust_9 (by decide) (fun c6 => ?_) (fun c6 => ?_)
  · replace h := if_t c6 h
    refine lv_iconst (v := (0)) hx hb dX10_dust_24 (by decide) ?_
    exact r_zret C hr hP hS h dX10_dust_25
  · replace h := if_f c6 h
    refine lv_aload_n hx hb dX10_dust_12 rfl (lv_at hl 0 rfl) ?_
    refine r_getF (off := 66) C hP (iw hw (fi_10 hk0)) hk0 fl_X10_36 rfl rfl (zw hw) dX10_dust_13 ?_
    refine r_getF (off := 4) C hP (iw hw (ff_10_4 hk0).2) (ff_10_4 hk0).1 fl_X10_152 rfl rfl (zw hw) dX10_dust_16 ?_
    refine lv_iload_n hx hb dX10_dust_19 rfl (lv_at hl 1 rfl) ?_
    obtain ⟨g7, h⟩ := gd_ok h
    refine r_iald C hP (iw hw (ff_7_3 (ff_10_4 hk0).1).2) (ff_7_3 (ff_10_4 hk0).1).1 g7 dX10_dust_20 ?_
    refine lv_if_ne (tgt := 26) hx hb dX10_dust_21 (by decide) (fun c8 => ?_) (fun c8 => ?_)
    · replace h := if_f c8 h
      refine lv_aload_n hx hb dX10_dust_26 rfl (lv_at hl 0 rfl) ?_
      refine r_getF (off := 130) C hP (iw hw (fi_10 hk0)) hk0 fl_X10_67 rfl rfl (zw hw) dX10_dust_27 ?_
      refine lv_iconst (v := (2)) hx hb dX10_dust_30 (by decide) ?_
      refine lv_iload_n hx hb dX10_dust_31 rfl (lv_at hl 1 rfl) ?_
      refine lv_aload_n hx hb dX10_dust_32 rfl (lv_at hl 0 rfl) ?_
      refine r_getF (off := 66) C hP (iw hw (fi_10 hk0)) hk0 fl_X10_36 rfl rfl (zw hw) dX10_dust_33 ?_
      refine r_getF (off := 4) C hP (iw hw (ff_10_4 hk0).2) (ff_10_4 hk0).1 fl_X10_152 rfl rfl (zw hw) dX10_dust_36 ?_
      refine lv_iload_n hx hb dX10_dust_39 rfl (lv_at hl 1 rfl) ?_
      obtain ⟨g9, h⟩ := gd_ok h
      refine r_iald C hP (iw hw (ff_7_3 (ff_10_4 hk0).1).2) (ff_7_3 (ff_10_4 hk0).1).1 g9 dX10_dust_40 ?_
      obtain ⟨r11, μ10, h12, h⟩ := bd_ok h
      refine go_v (callV_run (As := [.int (2 : Int32), .int v1, .int (μ3.1 ((v0 + 66) + 4) (Int32.toNatClampNeg v1))]) (rest := []) C hl hP (hS.wide hJ).2.1 (iw hw (ff_10_10 hk0).2) (ff_10_10 hk0).1 (m_X8_add l w hJ hw (v0 + 130) (2 : Int32) v1 (μ3.1 ((v0 + 66) + 4) (Int32.toNatClampNeg v1)) (ff_10_10 hk0).1 μ3 h12) mv_X10_224 ⟨rfl, rfl, by decide, by decide⟩ rfl rfl (Nat.le_of_ble_eq_true rfl) ⟨Nat.zero_le _, Nat.zero_le _⟩ dX10_dust_41) hS (fun H locs hP hS => ?_)
      refine lv_aload_n hx hb dX10_dust_44 rfl (lv_at hl 0 rfl) ?_
      refine r_getF (off := 66) C hP (iw hw (fi_10 hk0)) hk0 fl_X10_36 rfl rfl (zw hw) dX10_dust_45 ?_
      refine r_getF (off := 4) C hP (iw hw (ff_10_4 hk0).2) (ff_10_4 hk0).1 fl_X10_152 rfl rfl (zw hw) dX10_dust_48 ?_
      refine lv_iload_n hx hb dX10_dust_51 rfl (lv_at hl 1 rfl) ?_
      refine lv_iconst (v := (0)) hx hb dX10_dust_52 (by decide) ?_
      obtain ⟨g14, h⟩ := gd_ok h
      refine r_iast C hP hS (iw hw (ff_7_3 (ff_10_4 hk0).1).2) (ff_7_3 (ff_10_4 hk0).1).1 g14 dX10_dust_53 (fun H locs hP hS => ?_)
      obtain ⟨μ13, eμ13, h⟩ := vl_ex h
      have hP : fP w μ13 H := by rw [eμ13]; exact hP
      refine lv_iconst (v := (1)) hx hb dX10_dust_54 (by decide) ?_
      exact r_zret C hr hP hS h dX10_dust_55
    · replace h := if_t c8 h
      refine lv_iconst (v := (0)) hx hb dX10_dust_24 (by decide) ?_
      exact r_zret C hr hP hS h dX10_dust_25

def f_X10_undo (v0 : Nat) (μ : fMem) : Option (Int32 × fMem) :=
  if (μ.1 (v0 + 130) 0) = 0 then some ((-1 : Int32), μ) else bd (f_X8_takeBack (v0 + 130) (v0 + 66) μ) fun r3 μ2 => some ((μ2.1 (v0 + 130) 0), μ2)
def rm_X10_undo : Room := { frames := 2, cells := 0, slots := 0, locals := 45 }
set_option maxHeartbeats 4000000 in
set_option maxRecDepth 100000 in
theorem m_X10_undo (l : Launch) (w : fW) (hJ : fJ w) (hw : w.2.2.2 = sd 0) (v0 : Nat) (hk0 : kd v0 = (4, 10)) (μ : fMem) {r : Int32} {μr : fMem} (h : f_X10_undo v0 μ = some (r, μr)) : Met l yX10_undo (.code yX10_undo cX10_undo 1 (some .int) :: gw) rm_X10_undo (fPc w [.ref (w.2.2.1 v0)] μ) (fQi w r μr) 0 0 (fA w) := by
  refine met_of hJ (by decide) ?_ (Nat.le_of_ble_eq_true rfl)
  generalize ([.ref (w.2.2.1 v0)] : List Value).toArray = args
  intro p e s m below meth c ls C hr hP hl hS
  obtain ⟨hx, hb, hml, hown, hts, hK, -, hlk, hT⟩ := id C
  have hl : lv_has ls 1 [(0, .ref (w.2.2.1 v0))] := hl
  unfold f_X10_undo at h
  refine lv_aload_n hx hb dX10_undo_0 rfl (lv_at hl 0 rfl) ?_
  refine r_getF (off := 130) C hP (iw hw (fi_10 hk0)) hk0 fl_X10_67 rfl rfl (zw hw) dX10_undo_1 ?_
  refine r_getI C hP (iw hw (ff_10_10 hk0).2) (ff_10_10 hk0).1 fl_X10_223 (Or.inl rfl) dX10_undo_4 ?_
  refine lv_if_ne (tgt := 12) hx hb dX10_undo_7 (by decide) (fun c1 => ?_) (fun c1 => ?_)
  · replace h := if_f c1 h
    refine lv_aload_n hx hb dX10_undo_12 rfl (lv_at hl 0 rfl) ?_
    refine r_getF (off := 130) C hP (iw hw (fi_10 hk0)) hk0 fl_X10_67 rfl rfl (zw hw) dX10_undo_13 ?_
    refine lv_aload_n hx hb dX10_undo_16 rfl (lv_at hl 0 rfl) ?_
    refine r_getF (off := 66) C hP (iw hw (fi_10 hk0)) hk0 fl_X10_36 rfl rfl (zw hw) dX10_undo_17 ?_
    obtain ⟨r3, μ2, h4, h⟩ := bd_ok h
    refine go_v (callV_run (As := [.ref (w.2.2.1 (v0 + 66))]) (rest := []) C hl hP (hS.wide hJ).2.1 (iw hw (ff_10_10 hk0).2) (ff_10_10 hk0).1 (m_X8_takeBack l w hJ hw (v0 + 130) (v0 + 66) (ff_10_10 hk0).1 (ff_10_4 hk0).1 μ h4) mv_X10_232 ⟨rfl, rfl, by decide, by decide⟩ rfl rfl (Nat.le_of_ble_eq_true rfl) ⟨Nat.zero_le _, Nat.zero_le _⟩ dX10_undo_20) hS (fun H locs hP hS => ?_)
    refine lv_aload_n hx hb dX10_undo_23 rfl (lv_at hl 0 rfl) ?_
    refine r_getF (off := 130) C hP (iw hw (fi_10 hk0)) hk0 fl_X10_67 rfl rfl (zw hw) dX10_undo_24 ?_
    refine r_getI C hP (iw hw (ff_10_10 hk0).2) (ff_10_10 hk0).1 fl_X10_223 (Or.inl rfl) dX10_undo_27 ?_
    exact r_iret C hr hP hS h dX10_undo_30
  · replace h := if_t c1 h
    refine lv_iconst (v := (-1)) hx hb dX10_undo_10 (by decide) ?_
    exact r_iret C hr hP hS h dX10_undo_11

def f_X10_keep (v0 : Nat) (μ : fMem) : Option (Int32 × fMem) :=
  bd (f_X7_copy (v0 + 72) (v0 + 66) μ) fun r2 μ1 => vl (sI μ1 v0 6 (1 : Int32)) fun μ4 => some ((μ4.1 (v0 + 66) 6), μ4)
def rm_X10_keep : Room := { frames := 2, cells := 0, slots := 0, locals := 101 }
set_option maxHeartbeats 4000000 in
set_option maxRecDepth 100000 in
theorem m_X10_keep (l : Launch) (w : fW) (hJ : fJ w) (hw : w.2.2.2 = sd 0) (v0 : Nat) (hk0 : kd v0 = (4, 10)) (μ : fMem) {r : Int32} {μr : fMem} (h : f_X10_keep v0 μ = some (r, μr)) : Met l yX10_keep (.code yX10_keep cX10_keep 1 (some .int) :: gw) rm_X10_keep (fPc w [.ref (w.2.2.1 v0)] μ) (fQi w r μr) 0 0 (fA w) := by
  refine met_of hJ (by decide) ?_ (Nat.le_of_ble_eq_true rfl)
  generalize ([.ref (w.2.2.1 v0)] : List Value).toArray = args
  intro p e s m below meth c ls C hr hP hl hS
  obtain ⟨hx, hb, hml, hown, hts, hK, -, hlk, hT⟩ := id C
  have hl : lv_has ls 1 [(0, .ref (w.2.2.1 v0))] := hl
  unfold f_X10_keep at h
  refine lv_aload_n hx hb dX10_keep_0 rfl (lv_at hl 0 rfl) ?_
  refine r_getF (off := 72) C hP (iw hw (fi_10 hk0)) hk0 fl_X10_40 rfl rfl (zw hw) dX10_keep_1 ?_
  refine lv_aload_n hx hb dX10_keep_4 rfl (lv_at hl 0 rfl) ?_
  refine r_getF (off := 66) C hP (iw hw (fi_10 hk0)) hk0 fl_X10_36 rfl rfl (zw hw) dX10_keep_5 ?_
  obtain ⟨r2, μ1, h3, h⟩ := bd_ok h
  refine go_v (callV_run (As := [.ref (w.2.2.1 (v0 + 66))]) (rest := []) C hl hP (hS.wide hJ).2.1 (iw hw (ff_10_5 hk0).2) (ff_10_5 hk0).1 (m_X7_copy l w hJ hw (v0 + 72) (v0 + 66) (ff_10_5 hk0).1 (ff_10_4 hk0).1 μ h3) mv_X10_236 ⟨rfl, rfl, by decide, by decide⟩ rfl rfl (Nat.le_of_ble_eq_true rfl) ⟨Nat.zero_le _, Nat.zero_le _⟩ dX10_keep_8) hS (fun H locs hP hS => ?_)
  refine lv_aload_n hx hb dX10_keep_11 rfl (lv_at hl 0 rfl) ?_
  refine lv_iconst (v := (1)) hx hb dX10_keep_12 (by decide) ?_
  refine r_putZ C hP hS (iw hw (fi_10 hk0)) hk0 fp_X10_43 rfl (Or.inr rfl) dX10_keep_13 (fun H locs hP hS => ?_)
  obtain ⟨μ4, eμ4, h⟩ := vl_ex h
  have hP : fP w μ4 H := by rw [eμ4]; exact hP
  refine lv_aload_n hx hb dX10_keep_16 rfl (lv_at hl 0 rfl) ?_
  refine r_getF (off := 66) C hP (iw hw (fi_10 hk0)) hk0 fl_X10_36 rfl rfl (zw hw) dX10_keep_17 ?_
  refine r_getI C hP (iw hw (ff_10_4 hk0).2) (ff_10_4 hk0).1 fl_X10_209 (Or.inl rfl) dX10_keep_20 ?_
  exact r_iret C hr hP hS h dX10_keep_23

def f_X10_back (v0 : Nat) (μ : fMem) : Option (Int32 × fMem) :=
  if (μ.1 v0 6) = 0 then some ((-1 : Int32), μ) else bd (f_X7_copy (v0 + 66) (v0 + 72) μ) fun r3 μ2 => bd (f_X8_clear (v0 + 130) μ2) fun r6 μ5 => some ((μ5.1 (v0 + 66) 6), μ5)
def rm_X10_back : Room := { frames := 2, cells := 0, slots := 0, locals := 101 }
set_option maxHeartbeats 4000000 in
set_option maxRecDepth 100000 in
theorem m_X10_back (l : Launch) (w : fW) (hJ : fJ w) (hw : w.2.2.2 = sd 0) (v0 : Nat) (hk0 : kd v0 = (4, 10)) (μ : fMem) {r : Int32} {μr : fMem} (h : f_X10_back v0 μ = some (r, μr)) : Met l yX10_back (.code yX10_back cX10_back 1 (some .int) :: gw) rm_X10_back (fPc w [.ref (w.2.2.1 v0)] μ) (fQi w r μr) 0 0 (fA w) := by
  refine met_of hJ (by decide) ?_ (Nat.le_of_ble_eq_true rfl)
  generalize ([.ref (w.2.2.1 v0)] : List Value).toArray = args
  intro p e s m below meth c ls C hr hP hl hS
  obtain ⟨hx, hb, hml, hown, hts, hK, -, hlk, hT⟩ := id C
  have hl : lv_has ls 1 [(0, .ref (w.2.2.1 v0))] := hl
  unfold f_X10_back at h
  refine lv_aload_n hx hb dX10_back_0 rfl (lv_at hl 0 rfl) ?_
  refine r_getI C hP (iw hw (fi_10 hk0)) hk0 fl_X10_43 (Or.inr rfl) dX10_back_1 ?_
  refine lv_if_ne (tgt := 9) hx hb dX10_back_4 (by decide) (fun c1 => ?_) (fun c1 => ?_)
  · replace h := if_f c1 h
    refine lv_aload_n hx hb dX10_back_9 rfl (lv_at hl 0 rfl) ?_
    refine r_getF (off := 66) C hP (iw hw (fi_10 hk0)) hk0 fl_X10_36 rfl rfl (zw hw) dX10_back_10 ?_
    refine lv_aload_n hx hb dX10_back_13 rfl (lv_at hl 0 rfl) ?_
    refine r_getF (off := 72) C hP (iw hw (fi_10 hk0)) hk0 fl_X10_40 rfl rfl (zw hw) dX10_back_14 ?_
    obtain ⟨r3, μ2, h4, h⟩ := bd_ok h
    refine go_v (callV_run (As := [.ref (w.2.2.1 (v0 + 72))]) (rest := []) C hl hP (hS.wide hJ).2.1 (iw hw (ff_10_4 hk0).2) (ff_10_4 hk0).1 (m_X7_copy l w hJ hw (v0 + 66) (v0 + 72) (ff_10_4 hk0).1 (ff_10_5 hk0).1 μ h4) mv_X10_236 ⟨rfl, rfl, by decide, by decide⟩ rfl rfl (Nat.le_of_ble_eq_true rfl) ⟨Nat.zero_le _, Nat.zero_le _⟩ dX10_back_17) hS (fun H locs hP hS => ?_)
    refine lv_aload_n hx hb dX10_back_20 rfl (lv_at hl 0 rfl) ?_
    refine r_getF (off := 130) C hP (iw hw (fi_10 hk0)) hk0 fl_X10_67 rfl rfl (zw hw) dX10_back_21 ?_
    obtain ⟨r6, μ5, h7, h⟩ := bd_ok h
    refine go_v (callV_run (As := []) (rest := []) C hl hP (hS.wide hJ).2.1 (iw hw (ff_10_10 hk0).2) (ff_10_10 hk0).1 (m_X8_clear l w hJ hw (v0 + 130) (ff_10_10 hk0).1 μ2 h7) mv_X10_104 ⟨rfl, rfl, by decide, by decide⟩ rfl rfl (Nat.le_of_ble_eq_true rfl) ⟨Nat.zero_le _, Nat.zero_le _⟩ dX10_back_24) hS (fun H locs hP hS => ?_)
    refine lv_aload_n hx hb dX10_back_27 rfl (lv_at hl 0 rfl) ?_
    refine r_getF (off := 66) C hP (iw hw (fi_10 hk0)) hk0 fl_X10_36 rfl rfl (zw hw) dX10_back_28 ?_
    refine r_getI C hP (iw hw (ff_10_4 hk0).2) (ff_10_4 hk0).1 fl_X10_209 (Or.inl rfl) dX10_back_31 ?_
    exact r_iret C hr hP hS h dX10_back_34
  · replace h := if_t c1 h
    refine lv_iconst (v := (-1)) hx hb dX10_back_7 (by decide) ?_
    exact r_iret C hr hP hS h dX10_back_8

def f_X10_go (v0 : Nat) (v1 : Int32) (μ : fMem) : Option (Int32 × fMem) :=
  if v1 < 0 then some ((-1 : Int32), μ) else if (99 : Int32) < v1 then some ((-1 : Int32), μ) else if ((μ.1 (v0 + 66) 6) + v1) ≤ (9900 : Int32) then vl (μ.2.2 v0 2) fun x4 => gd (kd x4 = (4, 2)) (bd (f_X0_begin (v0 + 84) x4 (v0 + 66) μ) fun r7 μ6 => bd (f_X0_pass (v0 + 84) v1 μ6) fun r10 μ9 => if v1 ≤ 0 then some ((μ9.1 (v0 + 66) 6), μ9) else bd (f_X8_clear (v0 + 130) μ9) fun r14 μ13 => some ((μ13.1 (v0 + 66) 6), μ13)) else some ((-1 : Int32), μ)
def rm_X10_go : Room := { frames := 6, cells := 0, slots := 0, locals := 206 }
set_option maxHeartbeats 4000000 in
set_option maxRecDepth 100000 in
theorem m_X10_go (l : Launch) (w : fW) (hJ : fJ w) (hw : w.2.2.2 = sd 0) (v0 : Nat) (v1 : Int32) (hk0 : kd v0 = (4, 10)) (μ : fMem) {r : Int32} {μr : fMem} (h : f_X10_go v0 v1 μ = some (r, μr)) : Met l yX10_go (.code yX10_go cX10_go 2 (some .int) :: gw) rm_X10_go (fPc w [.ref (w.2.2.1 v0), .int v1] μ) (fQi w r μr) 0 0 (fA w) := by
  refine met_of hJ (by decide) ?_ (Nat.le_of_ble_eq_true rfl)
  generalize ([.ref (w.2.2.1 v0), .int v1] : List Value).toArray = args
  intro p e s m below meth c ls C hr hP hl hS
  obtain ⟨hx, hb, hml, hown, hts, hK, -, hlk, hT⟩ := id C
  have hl : lv_has ls 2 [(0, .ref (w.2.2.1 v0)), (1, .int v1)] := hl
  unfold f_X10_go at h
  refine lv_iload_n hx hb dX10_go_0 rfl (lv_at hl 1 rfl) ?_
  refine lv_if_lt (tgt := 25) hx hb dX10_go_1 (by decide) (fun c1 => ?_) (fun c1 => ?_)
  · replace h := if_t c1 h
    refine lv_iconst (v := (-1)) hx hb dX10_go_25 (by decide) ?_
    exact r_iret C hr hP hS h dX10_go_26
  · replace h := if_f c1 h
    refine lv_iload_n hx hb dX10_go_4 rfl (lv_at hl 1 rfl) ?_
    refine lv_bipush (v := (99)) hx hb dX10_go_5 (by decide) ?_
    refine lv_icmp_gt (tgt := 25) hx hb dX10_go_7 (by decide) (fun c2 => ?_) (fun c2 => ?_)
    · replace h := if_t c2 h
      refine lv_iconst (v := (-1)) hx hb dX10_go_25 (by decide) ?_
      exact r_iret C hr hP hS h dX10_go_26
    · replace h := if_f c2 h
      refine lv_aload_n hx hb dX10_go_10 rfl (lv_at hl 0 rfl) ?_
      refine r_getF (off := 66) C hP (iw hw (fi_10 hk0)) hk0 fl_X10_36 rfl rfl (zw hw) dX10_go_11 ?_
      refine r_getI C hP (iw hw (ff_10_4 hk0).2) (ff_10_4 hk0).1 fl_X10_209 (Or.inl rfl) dX10_go_14 ?_
      refine lv_iload_n hx hb dX10_go_17 rfl (lv_at hl 1 rfl) ?_
      refine lv_iadd hx hb dX10_go_18 ?_
      refine lv_sipush (v := (9900)) hx hb dX10_go_19 (by decide) ?_
      refine lv_icmp_le (tgt := 27) hx hb dX10_go_22 (by decide) (fun c3 => ?_) (fun c3 => ?_)
      · replace h := if_t c3 h
        refine lv_aload_n hx hb dX10_go_27 rfl (lv_at hl 0 rfl) ?_
        refine r_getF (off := 84) C hP (iw hw (fi_10 hk0)) hk0 fl_X10_53 rfl rfl (zw hw) dX10_go_28 ?_
        refine lv_aload_n hx hb dX10_go_31 rfl (lv_at hl 0 rfl) ?_
        refine r_getRx C hP (iw hw (fi_10 hk0)) hk0 fl_X10_22 rfl (zw hw) dX10_go_32 (fun x4 ex4 => ?_)
        replace h := vl_ok ex4 h
        obtain ⟨g5, h⟩ := gd_ok h
        refine lv_aload_n hx hb dX10_go_35 rfl (lv_at hl 0 rfl) ?_
        refine r_getF (off := 66) C hP (iw hw (fi_10 hk0)) hk0 fl_X10_36 rfl rfl (zw hw) dX10_go_36 ?_
        obtain ⟨r7, μ6, h8, h⟩ := bd_ok h
        refine go_v (callV_run (As := [.ref (w.2.2.1 x4), .ref (w.2.2.1 (v0 + 66))]) (rest := []) C hl hP (hS.wide hJ).2.1 (iw hw (ff_10_8 hk0).2) (ff_10_8 hk0).1 (m_X0_begin l w hJ hw (v0 + 84) x4 (v0 + 66) (ff_10_8 hk0).1 g5 (ff_10_4 hk0).1 μ h8) mv_X10_189 ⟨rfl, rfl, by decide, by decide⟩ rfl rfl (Nat.le_of_ble_eq_true rfl) ⟨Nat.zero_le _, Nat.zero_le _⟩ dX10_go_39) hS (fun H locs hP hS => ?_)
        refine lv_aload_n hx hb dX10_go_42 rfl (lv_at hl 0 rfl) ?_
        refine r_getF (off := 84) C hP (iw hw (fi_10 hk0)) hk0 fl_X10_53 rfl rfl (zw hw) dX10_go_43 ?_
        refine lv_iload_n hx hb dX10_go_46 rfl (lv_at hl 1 rfl) ?_
        obtain ⟨r10, μ9, h11, h⟩ := bd_ok h
        refine go_v (callV_run (As := [.int v1]) (rest := []) C hl hP (hS.wide hJ).2.1 (iw hw (ff_10_8 hk0).2) (ff_10_8 hk0).1 (m_X0_pass l w hJ hw (v0 + 84) v1 (ff_10_8 hk0).1 μ6 h11) mv_X10_239 ⟨rfl, rfl, by decide, by decide⟩ rfl rfl (Nat.le_of_ble_eq_true rfl) ⟨Nat.zero_le _, Nat.zero_le _⟩ dX10_go_47) hS (fun H locs hP hS => ?_)
        refine lv_iload_n hx hb dX10_go_50 rfl (lv_at hl 1 rfl) ?_
        refine lv_if_le (tgt := 61) hx hb dX10_go_51 (by decide) (fun c12 => ?_) (fun c12 => ?_)
        · replace h := if_t c12 h
          refine lv_aload_n hx hb dX10_go_61 rfl (lv_at hl 0 rfl) ?_
          refine r_getF (off := 66) C hP (iw hw (fi_10 hk0)) hk0 fl_X10_36 rfl rfl (zw hw) dX10_go_62 ?_
          refine r_getI C hP (iw hw (ff_10_4 hk0).2) (ff_10_4 hk0).1 fl_X10_209 (Or.inl rfl) dX10_go_65 ?_
          exact r_iret C hr hP hS h dX10_go_68
        · replace h := if_f c12 h
          refine lv_aload_n hx hb dX10_go_54 rfl (lv_at hl 0 rfl) ?_
          refine r_getF (off := 130) C hP (iw hw (fi_10 hk0)) hk0 fl_X10_67 rfl rfl (zw hw) dX10_go_55 ?_
          obtain ⟨r14, μ13, h15, h⟩ := bd_ok h
          refine go_v (callV_run (As := []) (rest := []) C hl hP (hS.wide hJ).2.1 (iw hw (ff_10_10 hk0).2) (ff_10_10 hk0).1 (m_X8_clear l w hJ hw (v0 + 130) (ff_10_10 hk0).1 μ9 h15) mv_X10_104 ⟨rfl, rfl, by decide, by decide⟩ rfl rfl (Nat.le_of_ble_eq_true rfl) ⟨Nat.zero_le _, Nat.zero_le _⟩ dX10_go_58) hS (fun H locs hP hS => ?_)
          refine lv_aload_n hx hb dX10_go_61 rfl (lv_at hl 0 rfl) ?_
          refine r_getF (off := 66) C hP (iw hw (fi_10 hk0)) hk0 fl_X10_36 rfl rfl (zw hw) dX10_go_62 ?_
          refine r_getI C hP (iw hw (ff_10_4 hk0).2) (ff_10_4 hk0).1 fl_X10_209 (Or.inl rfl) dX10_go_65 ?_
          exact r_iret C hr hP hS h dX10_go_68
      · replace h := if_f c3 h
        refine lv_iconst (v := (-1)) hx hb dX10_go_25 (by decide) ?_
        exact r_iret C hr hP hS h dX10_go_26

def f_X10_tryFromNow (v0 : Nat) (μ : fMem) : Option (Unit × fMem) :=
  bd (f_X7_copy (v0 + 78) (v0 + 66) μ) fun r2 μ1 => vl (μ1.2.2 v0 2) fun x4 => gd (kd x4 = (4, 2)) (bd (f_X0_begin (v0 + 84) x4 (v0 + 78) μ1) fun r7 μ6 => some ((), μ6))
def rm_X10_tryFromNow : Room := { frames := 4, cells := 0, slots := 0, locals := 101 }
set_option maxHeartbeats 4000000 in
set_option maxRecDepth 100000 in
theorem m_X10_tryFromNow (l : Launch) (w : fW) (hJ : fJ w) (hw : w.2.2.2 = sd 0) (v0 : Nat) (hk0 : kd v0 = (4, 10)) (μ : fMem) {r : Unit} {μr : fMem} (h : f_X10_tryFromNow v0 μ = some (r, μr)) : Met l yX10_tryFromNow (.code yX10_tryFromNow cX10_tryFromNow 1 none :: gw) rm_X10_tryFromNow (fPc w [.ref (w.2.2.1 v0)] μ) (fQv w μr) 0 0 (fA w) := by
  refine met_of hJ (by decide) ?_ (Nat.le_of_ble_eq_true rfl)
  generalize ([.ref (w.2.2.1 v0)] : List Value).toArray = args
  intro p e s m below meth c ls C hr hP hl hS
  obtain ⟨hx, hb, hml, hown, hts, hK, -, hlk, hT⟩ := id C
  have hl : lv_has ls 1 [(0, .ref (w.2.2.1 v0))] := hl
  unfold f_X10_tryFromNow at h
  refine lv_aload_n hx hb dX10_tryFromNow_0 rfl (lv_at hl 0 rfl) ?_
  refine r_getF (off := 78) C hP (iw hw (fi_10 hk0)) hk0 fl_X10_47 rfl rfl (zw hw) dX10_tryFromNow_1 ?_
  refine lv_aload_n hx hb dX10_tryFromNow_4 rfl (lv_at hl 0 rfl) ?_
  refine r_getF (off := 66) C hP (iw hw (fi_10 hk0)) hk0 fl_X10_36 rfl rfl (zw hw) dX10_tryFromNow_5 ?_
  obtain ⟨r2, μ1, h3, h⟩ := bd_ok h
  refine go_v (callV_run (As := [.ref (w.2.2.1 (v0 + 66))]) (rest := []) C hl hP (hS.wide hJ).2.1 (iw hw (ff_10_7 hk0).2) (ff_10_7 hk0).1 (m_X7_copy l w hJ hw (v0 + 78) (v0 + 66) (ff_10_7 hk0).1 (ff_10_4 hk0).1 μ h3) mv_X10_236 ⟨rfl, rfl, by decide, by decide⟩ rfl rfl (Nat.le_of_ble_eq_true rfl) ⟨Nat.zero_le _, Nat.zero_le _⟩ dX10_tryFromNow_8) hS (fun H locs hP hS => ?_)
  refine lv_aload_n hx hb dX10_tryFromNow_11 rfl (lv_at hl 0 rfl) ?_
  refine r_getF (off := 84) C hP (iw hw (fi_10 hk0)) hk0 fl_X10_53 rfl rfl (zw hw) dX10_tryFromNow_12 ?_
  refine lv_aload_n hx hb dX10_tryFromNow_15 rfl (lv_at hl 0 rfl) ?_
  refine r_getRx C hP (iw hw (fi_10 hk0)) hk0 fl_X10_22 rfl (zw hw) dX10_tryFromNow_16 (fun x4 ex4 => ?_)
  replace h := vl_ok ex4 h
  obtain ⟨g5, h⟩ := gd_ok h
  refine lv_aload_n hx hb dX10_tryFromNow_19 rfl (lv_at hl 0 rfl) ?_
  refine r_getF (off := 78) C hP (iw hw (fi_10 hk0)) hk0 fl_X10_47 rfl rfl (zw hw) dX10_tryFromNow_20 ?_
  obtain ⟨r7, μ6, h8, h⟩ := bd_ok h
  refine go_v (callV_run (As := [.ref (w.2.2.1 x4), .ref (w.2.2.1 (v0 + 78))]) (rest := []) C hl hP (hS.wide hJ).2.1 (iw hw (ff_10_8 hk0).2) (ff_10_8 hk0).1 (m_X0_begin l w hJ hw (v0 + 84) x4 (v0 + 78) (ff_10_8 hk0).1 g5 (ff_10_7 hk0).1 μ1 h8) mv_X10_189 ⟨rfl, rfl, by decide, by decide⟩ rfl rfl (Nat.le_of_ble_eq_true rfl) ⟨Nat.zero_le _, Nat.zero_le _⟩ dX10_tryFromNow_23) hS (fun H locs hP hS => ?_)
  exact r_vret C hr hP hS h dX10_tryFromNow_26

def f_X10_ahead_j39 (v0 : Nat) (v1 : Int32) (v2 : Int32) (v3 : Int32) (μ : fMem) : Option (Int32 × fMem) :=
  bd (f_X10_tryFromNow v0 μ) fun r13 μ12 => bd (f_X0_pass (v0 + 84) v1 μ12) fun r16 μ15 => if v2 = 0 then gd (ixo v3 8) (some ((μ15.1 ((v0 + 78) + 1) (Int32.toNatClampNeg v3)), μ15)) else if v2 = (1 : Int32) then some ((μ15.1 (v0 + 84) 0), μ15) else some ((μ15.1 (v0 + 84) 1), μ15)
def f_X10_ahead (v0 : Nat) (v1 : Int32) (v2 : Int32) (v3 : Int32) (μ : fMem) : Option (Int32 × fMem) :=
  if v1 < 0 then some ((-1 : Int32), μ) else if (60 : Int32) < v1 then some ((-1 : Int32), μ) else if v2 < 0 then some ((-1 : Int32), μ) else if v2 ≤ (2 : Int32) then if v2 = 0 then vl (μ.2.2 v0 2) fun x6 => gd (kd x6 = (4, 2)) (bd (f_X2_has x6 (2 : Int32) v3 μ) fun r9 μ8 => if r9 = 0 then some ((-1 : Int32), μ8) else f_X10_ahead_j39 v0 v1 v2 v3 μ8) else f_X10_ahead_j39 v0 v1 v2 v3 μ else some ((-1 : Int32), μ)
def rm_X10_ahead : Room := { frames := 6, cells := 0, slots := 0, locals := 206 }
set_option maxHeartbeats 4000000 in
set_option maxRecDepth 100000 in
theorem m_X10_ahead (l : Launch) (w : fW) (hJ : fJ w) (hw : w.2.2.2 = sd 0) (v0 : Nat) (v1 : Int32) (v2 : Int32) (v3 : Int32) (hk0 : kd v0 = (4, 10)) (μ : fMem) {r : Int32} {μr : fMem} (h : f_X10_ahead v0 v1 v2 v3 μ = some (r, μr)) : Met l yX10_ahead (.code yX10_ahead cX10_ahead 4 (some .int) :: gw) rm_X10_ahead (fPc w [.ref (w.2.2.1 v0), .int v1, .int v2, .int v3] μ) (fQi w r μr) 0 0 (fA w) := by
  refine met_of hJ (by decide) ?_ (Nat.le_of_ble_eq_true rfl)
  generalize ([.ref (w.2.2.1 v0), .int v1, .int v2, .int v3] : List Value).toArray = args
  intro p e s m below meth c ls C hr hP hl hS
  obtain ⟨hx, hb, hml, hown, hts, hK, -, hlk, hT⟩ := id C
  have hl : lv_has ls 4 [(0, .ref (w.2.2.1 v0)), (1, .int v1), (2, .int v2), (3, .int v3)] := hl
  unfold f_X10_ahead at h
  have J39 : ∀  (μ : fMem), f_X10_ahead_j39 v0 v1 v2 v3 μ = some (r, μr) → WW p l e rm_X10_ahead s m args below meth c (MQ below (fQi w r μr) args s 0 0 (fA w)) w μ 4 39 [] [(0, .ref (w.2.2.1 v0)), (1, .int v1), (2, .int v2), (3, .int v3)] := by
    intro  μ  h H locs ls hP hS hl
    unfold f_X10_ahead_j39 at h
    refine lv_aload_n hx hb dX10_ahead_39 rfl (lv_at hl 0 rfl) ?_
    obtain ⟨r13, μ12, h14, h⟩ := bd_ok h
    refine go_v (callV_run (As := []) (rest := []) C hl hP (hS.wide hJ).2.1 (iw hw (fi_10 hk0)) hk0 (m_X10_tryFromNow l w hJ hw v0 hk0 μ h14) mv_X10_242 ⟨rfl, rfl, by decide, by decide⟩ rfl rfl (Nat.le_of_ble_eq_true rfl) ⟨Nat.zero_le _, Nat.zero_le _⟩ dX10_ahead_40) hS (fun H locs hP hS => ?_)
    refine lv_aload_n hx hb dX10_ahead_43 rfl (lv_at hl 0 rfl) ?_
    refine r_getF (off := 84) C hP (iw hw (fi_10 hk0)) hk0 fl_X10_53 rfl rfl (zw hw) dX10_ahead_44 ?_
    refine lv_iload_n hx hb dX10_ahead_47 rfl (lv_at hl 1 rfl) ?_
    obtain ⟨r16, μ15, h17, h⟩ := bd_ok h
    refine go_v (callV_run (As := [.int v1]) (rest := []) C hl hP (hS.wide hJ).2.1 (iw hw (ff_10_8 hk0).2) (ff_10_8 hk0).1 (m_X0_pass l w hJ hw (v0 + 84) v1 (ff_10_8 hk0).1 μ12 h17) mv_X10_239 ⟨rfl, rfl, by decide, by decide⟩ rfl rfl (Nat.le_of_ble_eq_true rfl) ⟨Nat.zero_le _, Nat.zero_le _⟩ dX10_ahead_48) hS (fun H locs hP hS => ?_)
    refine lv_iload_n hx hb dX10_ahead_51 rfl (lv_at hl 2 rfl) ?_
    refine lv_if_ne (tgt := 65) hx hb dX10_ahead_52 (by decide) (fun c18 => ?_) (fun c18 => ?_)
    · replace h := if_f c18 h
      refine lv_iload_n hx hb dX10_ahead_65 rfl (lv_at hl 2 rfl) ?_
      refine lv_iconst (v := (1)) hx hb dX10_ahead_66 (by decide) ?_
      refine lv_icmp_ne (tgt := 80) hx hb dX10_ahead_67 (by decide) (fun c19 => ?_) (fun c19 => ?_)
      · replace h := if_f c19 h
        refine lv_aload_n hx hb dX10_ahead_80 rfl (lv_at hl 0 rfl) ?_
        refine r_getF (off := 84) C hP (iw hw (fi_10 hk0)) hk0 fl_X10_53 rfl rfl (zw hw) dX10_ahead_81 ?_
        refine r_getI C hP (iw hw (ff_10_8 hk0).2) (ff_10_8 hk0).1 fl_X10_248 (Or.inl rfl) dX10_ahead_84 ?_
        exact r_iret C hr hP hS h dX10_ahead_87
      · replace h := if_t c19 h
        refine lv_aload_n hx hb dX10_ahead_70 rfl (lv_at hl 0 rfl) ?_
        refine r_getF (off := 84) C hP (iw hw (fi_10 hk0)) hk0 fl_X10_53 rfl rfl (zw hw) dX10_ahead_71 ?_
        refine r_getI C hP (iw hw (ff_10_8 hk0).2) (ff_10_8 hk0).1 fl_X10_245 (Or.inl rfl) dX10_ahead_74 ?_
        refine lv_goto (tgt := 87) hx hb dX10_ahead_77 (by decide) ?_
        exact r_iret C hr hP hS h dX10_ahead_87
    · replace h := if_t c18 h
      refine lv_aload_n hx hb dX10_ahead_55 rfl (lv_at hl 0 rfl) ?_
      refine r_getF (off := 78) C hP (iw hw (fi_10 hk0)) hk0 fl_X10_47 rfl rfl (zw hw) dX10_ahead_56 ?_
      refine r_getF (off := 1) C hP (iw hw (ff_10_7 hk0).2) (ff_10_7 hk0).1 fl_X10_132 rfl rfl (zw hw) dX10_ahead_59 ?_
      refine lv_iload_n hx hb dX10_ahead_62 rfl (lv_at hl 3 rfl) ?_
      obtain ⟨g20, h⟩ := gd_ok h
      refine r_iald C hP (iw hw (ff_7_0 (ff_10_7 hk0).1).2) (ff_7_0 (ff_10_7 hk0).1).1 g20 dX10_ahead_63 ?_
      exact r_iret C hr hP hS h dX10_ahead_64
  refine lv_iload_n hx hb dX10_ahead_0 rfl (lv_at hl 1 rfl) ?_
  refine lv_if_lt (tgt := 19) hx hb dX10_ahead_1 (by decide) (fun c1 => ?_) (fun c1 => ?_)
  · replace h := if_t c1 h
    refine lv_iconst (v := (-1)) hx hb dX10_ahead_19 (by decide) ?_
    exact r_iret C hr hP hS h dX10_ahead_20
  · replace h := if_f c1 h
    refine lv_iload_n hx hb dX10_ahead_4 rfl (lv_at hl 1 rfl) ?_
    refine lv_bipush (v := (60)) hx hb dX10_ahead_5 (by decide) ?_
    refine lv_icmp_gt (tgt := 19) hx hb dX10_ahead_7 (by decide) (fun c2 => ?_) (fun c2 => ?_)
    · replace h := if_t c2 h
      refine lv_iconst (v := (-1)) hx hb dX10_ahead_19 (by decide) ?_
      exact r_iret C hr hP hS h dX10_ahead_20
    · replace h := if_f c2 h
      refine lv_iload_n hx hb dX10_ahead_10 rfl (lv_at hl 2 rfl) ?_
      refine lv_if_lt (tgt := 19) hx hb dX10_ahead_11 (by decide) (fun c3 => ?_) (fun c3 => ?_)
      · replace h := if_t c3 h
        refine lv_iconst (v := (-1)) hx hb dX10_ahead_19 (by decide) ?_
        exact r_iret C hr hP hS h dX10_ahead_20
      · replace h := if_f c3 h
        refine lv_iload_n hx hb dX10_ahead_14 rfl (lv_at hl 2 rfl) ?_
        refine lv_iconst (v := (2)) hx hb dX10_ahead_15 (by decide) ?_
        refine lv_icmp_le (tgt := 21) hx hb dX10_ahead_16 (by decide) (fun c4 => ?_) (fun c4 => ?_)
        · replace h := if_t c4 h
          refine lv_iload_n hx hb dX10_ahead_21 rfl (lv_at hl 2 rfl) ?_
          refine lv_if_ne (tgt := 39) hx hb dX10_ahead_22 (by decide) (fun c5 => ?_) (fun c5 => ?_)
          · replace h := if_f c5 h
            exact J39  μ  h _ _ _ hP hS (lv_sub hl [0, 1, 2, 3] rfl)
          · replace h := if_t c5 h
            refine lv_aload_n hx hb dX10_ahead_25 rfl (lv_at hl 0 rfl) ?_
            refine r_getRx C hP (iw hw (fi_10 hk0)) hk0 fl_X10_22 rfl (zw hw) dX10_ahead_26 (fun x6 ex6 => ?_)
            replace h := vl_ok ex6 h
            obtain ⟨g7, h⟩ := gd_ok h
            refine lv_iconst (v := (2)) hx hb dX10_ahead_29 (by decide) ?_
            refine lv_iload_n hx hb dX10_ahead_30 rfl (lv_at hl 3 rfl) ?_
            obtain ⟨r9, μ8, h10, h⟩ := bd_ok h
            refine go_i (callV_run (As := [.int (2 : Int32), .int v3]) (rest := []) C hl hP (hS.wide hJ).2.1 (iw hw (fi_2 g7)) g7 (m_X2_has l w hJ hw x6 (2 : Int32) v3 g7 μ h10) mv_X10_121 ⟨rfl, rfl, by decide, by decide⟩ rfl rfl (Nat.le_of_ble_eq_true rfl) ⟨Nat.zero_le _, Nat.zero_le _⟩ dX10_ahead_31) hS (fun H locs hP hS => ?_)
            refine lv_if_ne (tgt := 39) hx hb dX10_ahead_34 (by decide) (fun c11 => ?_) (fun c11 => ?_)
            · replace h := if_f c11 h
              exact J39  μ8  h _ _ _ hP hS (lv_sub hl [0, 1, 2, 3] rfl)
            · replace h := if_t c11 h
              refine lv_iconst (v := (-1)) hx hb dX10_ahead_37 (by decide) ?_
              exact r_iret C hr hP hS h dX10_ahead_38
        · replace h := if_f c4 h
          refine lv_iconst (v := (-1)) hx hb dX10_ahead_19 (by decide) ?_
          exact r_iret C hr hP hS h dX10_ahead_20

def f_X10_comes (v0 : Nat) (μ : fMem) : Option (Int32 × fMem) :=
  vl (μ.2.2 v0 2) fun x1 => gd (kd x1 = (4, 2)) (bd (f_X0_begin (v0 + 84) x1 (v0 + 66) μ) fun r4 μ3 => bd (f_X0_comers (v0 + 84) μ3) fun r7 μ6 => some (r7, μ6))
def rm_X10_comes : Room := { frames := 4, cells := 0, slots := 0, locals := 97 }
set_option maxHeartbeats 4000000 in
set_option maxRecDepth 100000 in
theorem m_X10_comes (l : Launch) (w : fW) (hJ : fJ w) (hw : w.2.2.2 = sd 0) (v0 : Nat) (hk0 : kd v0 = (4, 10)) (μ : fMem) {r : Int32} {μr : fMem} (h : f_X10_comes v0 μ = some (r, μr)) : Met l yX10_comes (.code yX10_comes cX10_comes 1 (some .int) :: gw) rm_X10_comes (fPc w [.ref (w.2.2.1 v0)] μ) (fQi w r μr) 0 0 (fA w) := by
  refine met_of hJ (by decide) ?_ (Nat.le_of_ble_eq_true rfl)
  generalize ([.ref (w.2.2.1 v0)] : List Value).toArray = args
  intro p e s m below meth c ls C hr hP hl hS
  obtain ⟨hx, hb, hml, hown, hts, hK, -, hlk, hT⟩ := id C
  have hl : lv_has ls 1 [(0, .ref (w.2.2.1 v0))] := hl
  unfold f_X10_comes at h
  refine lv_aload_n hx hb dX10_comes_0 rfl (lv_at hl 0 rfl) ?_
  refine r_getF (off := 84) C hP (iw hw (fi_10 hk0)) hk0 fl_X10_53 rfl rfl (zw hw) dX10_comes_1 ?_
  refine lv_aload_n hx hb dX10_comes_4 rfl (lv_at hl 0 rfl) ?_
  refine r_getRx C hP (iw hw (fi_10 hk0)) hk0 fl_X10_22 rfl (zw hw) dX10_comes_5 (fun x1 ex1 => ?_)
  replace h := vl_ok ex1 h
  obtain ⟨g2, h⟩ := gd_ok h
  refine lv_aload_n hx hb dX10_comes_8 rfl (lv_at hl 0 rfl) ?_
  refine r_getF (off := 66) C hP (iw hw (fi_10 hk0)) hk0 fl_X10_36 rfl rfl (zw hw) dX10_comes_9 ?_
  obtain ⟨r4, μ3, h5, h⟩ := bd_ok h
  refine go_v (callV_run (As := [.ref (w.2.2.1 x1), .ref (w.2.2.1 (v0 + 66))]) (rest := []) C hl hP (hS.wide hJ).2.1 (iw hw (ff_10_8 hk0).2) (ff_10_8 hk0).1 (m_X0_begin l w hJ hw (v0 + 84) x1 (v0 + 66) (ff_10_8 hk0).1 g2 (ff_10_4 hk0).1 μ h5) mv_X10_189 ⟨rfl, rfl, by decide, by decide⟩ rfl rfl (Nat.le_of_ble_eq_true rfl) ⟨Nat.zero_le _, Nat.zero_le _⟩ dX10_comes_12) hS (fun H locs hP hS => ?_)
  refine lv_aload_n hx hb dX10_comes_15 rfl (lv_at hl 0 rfl) ?_
  refine r_getF (off := 84) C hP (iw hw (fi_10 hk0)) hk0 fl_X10_53 rfl rfl (zw hw) dX10_comes_16 ?_
  obtain ⟨r7, μ6, h8, h⟩ := bd_ok h
  refine go_i (callV_run (As := []) (rest := []) C hl hP (hS.wide hJ).2.1 (iw hw (ff_10_8 hk0).2) (ff_10_8 hk0).1 (m_X0_comers l w hJ hw (v0 + 84) (ff_10_8 hk0).1 μ3 h8) mv_X10_251 ⟨rfl, rfl, by decide, by decide⟩ rfl rfl (Nat.le_of_ble_eq_true rfl) ⟨Nat.zero_le _, Nat.zero_le _⟩ dX10_comes_19) hS (fun H locs hP hS => ?_)
  exact r_iret C hr hP hS h dX10_comes_22

def f_X10_sits (v0 : Nat) (v1 : Int32) (μ : fMem) : Option (Int32 × fMem) :=
  vl (μ.2.2 v0 2) fun x1 => gd (kd x1 = (4, 2)) (bd (f_X2_has x1 (3 : Int32) v1 μ) fun r4 μ3 => if r4 = 0 then some ((-1 : Int32), μ3) else vl (μ3.2.2 v0 2) fun x7 => gd (kd x7 = (4, 2)) (bd (f_X2_told x7 (0 : Int32) μ3) fun r10 μ9 => if r10 = 0 then some ((-1 : Int32), μ9) else vl (μ9.2.2 v0 2) fun x13 => gd (kd x13 = (4, 2)) (bd (f_X0_begin (v0 + 84) x13 (v0 + 66) μ9) fun r16 μ15 => bd (f_X0_seat (v0 + 84) v1 μ15) fun r19 μ18 => if 0 ≤ r19 then some (r19, μ18) else some ((-2 : Int32), μ18))))
def rm_X10_sits : Room := { frames := 4, cells := 0, slots := 0, locals := 156 }
set_option maxHeartbeats 4000000 in
set_option maxRecDepth 100000 in
theorem m_X10_sits (l : Launch) (w : fW) (hJ : fJ w) (hw : w.2.2.2 = sd 0) (v0 : Nat) (v1 : Int32) (hk0 : kd v0 = (4, 10)) (μ : fMem) {r : Int32} {μr : fMem} (h : f_X10_sits v0 v1 μ = some (r, μr)) : Met l yX10_sits (.code yX10_sits cX10_sits 3 (some .int) :: gw) rm_X10_sits (fPc w [.ref (w.2.2.1 v0), .int v1] μ) (fQi w r μr) 0 0 (fA w) := by
  refine met_of hJ (by decide) ?_ (Nat.le_of_ble_eq_true rfl)
  generalize ([.ref (w.2.2.1 v0), .int v1] : List Value).toArray = args
  intro p e s m below meth c ls C hr hP hl hS
  obtain ⟨hx, hb, hml, hown, hts, hK, -, hlk, hT⟩ := id C
  have hl : lv_has ls 3 [(0, .ref (w.2.2.1 v0)), (1, .int v1)] := hl
  unfold f_X10_sits at h
  refine lv_aload_n hx hb dX10_sits_0 rfl (lv_at hl 0 rfl) ?_
  refine r_getRx C hP (iw hw (fi_10 hk0)) hk0 fl_X10_22 rfl (zw hw) dX10_sits_1 (fun x1 ex1 => ?_)
  replace h := vl_ok ex1 h
  obtain ⟨g2, h⟩ := gd_ok h
  refine lv_iconst (v := (3)) hx hb dX10_sits_4 (by decide) ?_
  refine lv_iload_n hx hb dX10_sits_5 rfl (lv_at hl 1 rfl) ?_
  obtain ⟨r4, μ3, h5, h⟩ := bd_ok h
  refine go_i (callV_run (As := [.int (3 : Int32), .int v1]) (rest := []) C hl hP (hS.wide hJ).2.1 (iw hw (fi_2 g2)) g2 (m_X2_has l w hJ hw x1 (3 : Int32) v1 g2 μ h5) mv_X10_121 ⟨rfl, rfl, by decide, by decide⟩ rfl rfl (Nat.le_of_ble_eq_true rfl) ⟨Nat.zero_le _, Nat.zero_le _⟩ dX10_sits_6) hS (fun H locs hP hS => ?_)
  refine lv_if_eq (tgt := 23) hx hb dX10_sits_9 (by decide) (fun c6 => ?_) (fun c6 => ?_)
  · replace h := if_t c6 h
    refine lv_iconst (v := (-1)) hx hb dX10_sits_23 (by decide) ?_
    exact r_iret C hr hP hS h dX10_sits_24
  · replace h := if_f c6 h
    refine lv_aload_n hx hb dX10_sits_12 rfl (lv_at hl 0 rfl) ?_
    refine r_getRx C hP (iw hw (fi_10 hk0)) hk0 fl_X10_22 rfl (zw hw) dX10_sits_13 (fun x7 ex7 => ?_)
    replace h := vl_ok ex7 h
    obtain ⟨g8, h⟩ := gd_ok h
    refine lv_iconst (v := (0)) hx hb dX10_sits_16 (by decide) ?_
    obtain ⟨r10, μ9, h11, h⟩ := bd_ok h
    refine go_i (callV_run (As := [.int (0 : Int32)]) (rest := []) C hl hP (hS.wide hJ).2.1 (iw hw (fi_2 g8)) g8 (m_X2_told l w hJ hw x7 (0 : Int32) g8 μ3 h11) mv_X10_203 ⟨rfl, rfl, by decide, by decide⟩ rfl rfl (Nat.le_of_ble_eq_true rfl) ⟨Nat.zero_le _, Nat.zero_le _⟩ dX10_sits_17) hS (fun H locs hP hS => ?_)
    refine lv_if_ne (tgt := 25) hx hb dX10_sits_20 (by decide) (fun c12 => ?_) (fun c12 => ?_)
    · replace h := if_f c12 h
      refine lv_aload_n hx hb dX10_sits_25 rfl (lv_at hl 0 rfl) ?_
      refine r_getF (off := 84) C hP (iw hw (fi_10 hk0)) hk0 fl_X10_53 rfl rfl (zw hw) dX10_sits_26 ?_
      refine lv_aload_n hx hb dX10_sits_29 rfl (lv_at hl 0 rfl) ?_
      refine r_getRx C hP (iw hw (fi_10 hk0)) hk0 fl_X10_22 rfl (zw hw) dX10_sits_30 (fun x13 ex13 => ?_)
      replace h := vl_ok ex13 h
      obtain ⟨g14, h⟩ := gd_ok h
      refine lv_aload_n hx hb dX10_sits_33 rfl (lv_at hl 0 rfl) ?_
      refine r_getF (off := 66) C hP (iw hw (fi_10 hk0)) hk0 fl_X10_36 rfl rfl (zw hw) dX10_sits_34 ?_
      obtain ⟨r16, μ15, h17, h⟩ := bd_ok h
      refine go_v (callV_run (As := [.ref (w.2.2.1 x13), .ref (w.2.2.1 (v0 + 66))]) (rest := []) C hl hP (hS.wide hJ).2.1 (iw hw (ff_10_8 hk0).2) (ff_10_8 hk0).1 (m_X0_begin l w hJ hw (v0 + 84) x13 (v0 + 66) (ff_10_8 hk0).1 g14 (ff_10_4 hk0).1 μ9 h17) mv_X10_189 ⟨rfl, rfl, by decide, by decide⟩ rfl rfl (Nat.le_of_ble_eq_true rfl) ⟨Nat.zero_le _, Nat.zero_le _⟩ dX10_sits_37) hS (fun H locs hP hS => ?_)
      refine lv_aload_n hx hb dX10_sits_40 rfl (lv_at hl 0 rfl) ?_
      refine r_getF (off := 84) C hP (iw hw (fi_10 hk0)) hk0 fl_X10_53 rfl rfl (zw hw) dX10_sits_41 ?_
      refine lv_iload_n hx hb dX10_sits_44 rfl (lv_at hl 1 rfl) ?_
      obtain ⟨r19, μ18, h20, h⟩ := bd_ok h
      refine go_i (callV_run (As := [.int v1]) (rest := []) C hl hP (hS.wide hJ).2.1 (iw hw (ff_10_8 hk0).2) (ff_10_8 hk0).1 (m_X0_seat l w hJ hw (v0 + 84) v1 (ff_10_8 hk0).1 μ15 h20) mv_X10_254 ⟨rfl, rfl, by decide, by decide⟩ rfl rfl (Nat.le_of_ble_eq_true rfl) ⟨Nat.zero_le _, Nat.zero_le _⟩ dX10_sits_45) hS (fun H locs hP hS => ?_)
      refine lv_istore_n (lv' := [(2, .int r19), (0, .ref (w.2.2.1 v0)), (1, .int v1)]) hx hb dX10_sits_48 rfl hl (by decide) rfl (fun ls hl => ?_)
      refine lv_iload_n hx hb dX10_sits_49 rfl (lv_at hl 0 rfl) ?_
      refine lv_if_ge (tgt := 58) hx hb dX10_sits_50 (by decide) (fun c21 => ?_) (fun c21 => ?_)
      · replace h := if_t c21 h
        refine lv_iload_n hx hb dX10_sits_58 rfl (lv_at hl 0 rfl) ?_
        exact r_iret C hr hP hS h dX10_sits_59
      · replace h := if_f c21 h
        refine lv_bipush (v := (-2)) hx hb dX10_sits_53 (by decide) ?_
        refine lv_goto (tgt := 59) hx hb dX10_sits_55 (by decide) ?_
        exact r_iret C hr hP hS h dX10_sits_59
    · replace h := if_t c12 h
      refine lv_iconst (v := (-1)) hx hb dX10_sits_23 (by decide) ?_
      exact r_iret C hr hP hS h dX10_sits_24

def f_X10_quiet_L6 (v0 : Nat) (v1 : Int32) (μ : fMem) : Option (Nat × (Int32 × fMem)) :=
  if (99 : Int32) < v1 then some (1, (v1, μ)) else vl ((μ.1 (v0 + 84) 0) + (μ.1 (v0 + 84) 1)) fun x5 => bd (f_X0_pass (v0 + 84) (1 : Int32) μ) fun r7 μ6 => if ((μ6.1 (v0 + 84) 0) + (μ6.1 (v0 + 84) 1)) = x5 then some (2, (v1, μ6)) else vl (v1 + (1 : Int32)) fun x10 => some (0, (x10, μ6))
def f_X10_quiet (v0 : Nat) (μ : fMem) : Option (Int32 × fMem) :=
  bd (f_X10_tryFromNow v0 μ) fun r2 μ1 => bd (lpn (fun (q : Int32 × fMem) => f_X10_quiet_L6 v0 q.1 q.2) fuel ((0 : Int32), μ1)) fun t11 q12 => (fun (x13 : Int32) (μ14 : fMem) => if t11 = 0 then some ((-2 : Int32), μ14) else some (x13, μ14)) q12.1 q12.2
def rm_X10_quiet : Room := { frames := 6, cells := 0, slots := 0, locals := 206 }
set_option maxHeartbeats 4000000 in
set_option maxRecDepth 100000 in
theorem m_X10_quiet (l : Launch) (w : fW) (hJ : fJ w) (hw : w.2.2.2 = sd 0) (v0 : Nat) (hk0 : kd v0 = (4, 10)) (μ : fMem) {r : Int32} {μr : fMem} (h : f_X10_quiet v0 μ = some (r, μr)) : Met l yX10_quiet (.code yX10_quiet cX10_quiet 3 (some .int) :: gw) rm_X10_quiet (fPc w [.ref (w.2.2.1 v0)] μ) (fQi w r μr) 0 0 (fA w) := by
  refine met_of hJ (by decide) ?_ (Nat.le_of_ble_eq_true rfl)
  generalize ([.ref (w.2.2.1 v0)] : List Value).toArray = args
  intro p e s m below meth c ls C hr hP hl hS
  obtain ⟨hx, hb, hml, hown, hts, hK, -, hlk, hT⟩ := id C
  have hl : lv_has ls 3 [(0, .ref (w.2.2.1 v0))] := hl
  unfold f_X10_quiet at h
  refine lv_aload_n hx hb dX10_quiet_0 rfl (lv_at hl 0 rfl) ?_
  obtain ⟨r2, μ1, h3, h⟩ := bd_ok h
  refine go_v (callV_run (As := []) (rest := []) C hl hP (hS.wide hJ).2.1 (iw hw (fi_10 hk0)) hk0 (m_X10_tryFromNow l w hJ hw v0 hk0 μ h3) mv_X10_242 ⟨rfl, rfl, by decide, by decide⟩ rfl rfl (Nat.le_of_ble_eq_true rfl) ⟨Nat.zero_le _, Nat.zero_le _⟩ dX10_quiet_1) hS (fun H locs hP hS => ?_)
  refine lv_iconst (v := (0)) hx hb dX10_quiet_4 (by decide) ?_
  refine lv_istore_n (lv' := [(1, .int (0 : Int32)), (0, .ref (w.2.2.1 v0))]) hx hb dX10_quiet_5 rfl hl (by decide) rfl (fun ls hl => ?_)
  obtain ⟨t11, q12, h15, h⟩ := bd_ok h
  refine lpn_ind (b := (fun (q : Int32 × fMem) => f_X10_quiet_L6 v0 q.1 q.2)) (P := fun (q : Int32 × fMem) => WW p l e rm_X10_quiet s m args below meth c (MQ below (fQi w r μr) args s 0 0 (fA w)) w q.2 3 6 [] [(0, .ref (w.2.2.1 v0)), (1, .int q.1)]) (K := fun t (q : Int32 × fMem) => (t = 0 → WW p l e rm_X10_quiet s m args below meth c (MQ below (fQi w r μr) args s 0 0 (fA w)) w q.2 3 63 [] []) ∧ (t = 1 → WW p l e rm_X10_quiet s m args below meth c (MQ below (fQi w r μr) args s 0 0 (fA w)) w q.2 3 55 [] [(1, .int q.1)])) ?_ fuel ((0 : Int32), μ1) t11 q12 h15 ?_ _ _ _ hP hS (lv_sub hl [1, 0] rfl)
  · intro q tz6 sz6 h hP0_6 hK0_6 H locs ls hP hS hl
    obtain ⟨v1, μ⟩ := q
    have hP : fP w μ H := hP
    have hl : lv_has ls 3 [(0, .ref (w.2.2.1 v0)), (1, .int v1)] := hl
    have h : f_X10_quiet_L6 v0 v1 μ = some (tz6, sz6) := h
    unfold f_X10_quiet_L6 at h
    refine lv_iload_n hx hb dX10_quiet_6 rfl (lv_at hl 1 rfl) ?_
    refine lv_bipush (v := (99)) hx hb dX10_quiet_7 (by decide) ?_
    refine lv_icmp_gt (tgt := 63) hx hb dX10_quiet_9 (by decide) (fun c4 => ?_) (fun c4 => ?_)
    · replace h := if_t c4 h
      obtain ⟨rfl, rfl⟩ := leaf h
      exact ((hK0_6 0 rfl).1 rfl) _ _ _ hP hS (lv_sub hl [] rfl)
    · replace h := if_f c4 h
      refine lv_aload_n hx hb dX10_quiet_12 rfl (lv_at hl 0 rfl) ?_
      refine r_getF (off := 84) C hP (iw hw (fi_10 hk0)) hk0 fl_X10_53 rfl rfl (zw hw) dX10_quiet_13 ?_
      refine r_getI C hP (iw hw (ff_10_8 hk0).2) (ff_10_8 hk0).1 fl_X10_245 (Or.inl rfl) dX10_quiet_16 ?_
      refine lv_aload_n hx hb dX10_quiet_19 rfl (lv_at hl 0 rfl) ?_
      refine r_getF (off := 84) C hP (iw hw (fi_10 hk0)) hk0 fl_X10_53 rfl rfl (zw hw) dX10_quiet_20 ?_
      refine r_getI C hP (iw hw (ff_10_8 hk0).2) (ff_10_8 hk0).1 fl_X10_248 (Or.inl rfl) dX10_quiet_23 ?_
      refine lv_iadd hx hb dX10_quiet_26 ?_
      refine lv_topi (fun x5 ex5 => ?_)
      replace h := vl_ok ex5 h
      refine lv_istore_n (lv' := [(2, .int x5), (0, .ref (w.2.2.1 v0)), (1, .int v1)]) hx hb dX10_quiet_27 rfl hl (by decide) rfl (fun ls hl => ?_)
      refine lv_aload_n hx hb dX10_quiet_28 rfl (lv_at hl 1 rfl) ?_
      refine r_getF (off := 84) C hP (iw hw (fi_10 hk0)) hk0 fl_X10_53 rfl rfl (zw hw) dX10_quiet_29 ?_
      refine lv_iconst (v := (1)) hx hb dX10_quiet_32 (by decide) ?_
      obtain ⟨r7, μ6, h8, h⟩ := bd_ok h
      refine go_v (callV_run (As := [.int (1 : Int32)]) (rest := []) C hl hP (hS.wide hJ).2.1 (iw hw (ff_10_8 hk0).2) (ff_10_8 hk0).1 (m_X0_pass l w hJ hw (v0 + 84) (1 : Int32) (ff_10_8 hk0).1 μ h8) mv_X10_239 ⟨rfl, rfl, by decide, by decide⟩ rfl rfl (Nat.le_of_ble_eq_true rfl) ⟨Nat.zero_le _, Nat.zero_le _⟩ dX10_quiet_33) hS (fun H locs hP hS => ?_)
      refine lv_aload_n hx hb dX10_quiet_36 rfl (lv_at hl 1 rfl) ?_
      refine r_getF (off := 84) C hP (iw hw (fi_10 hk0)) hk0 fl_X10_53 rfl rfl (zw hw) dX10_quiet_37 ?_
      refine r_getI C hP (iw hw (ff_10_8 hk0).2) (ff_10_8 hk0).1 fl_X10_245 (Or.inl rfl) dX10_quiet_40 ?_
      refine lv_aload_n hx hb dX10_quiet_43 rfl (lv_at hl 1 rfl) ?_
      refine r_getF (off := 84) C hP (iw hw (fi_10 hk0)) hk0 fl_X10_53 rfl rfl (zw hw) dX10_quiet_44 ?_
      refine r_getI C hP (iw hw (ff_10_8 hk0).2) (ff_10_8 hk0).1 fl_X10_248 (Or.inl rfl) dX10_quiet_47 ?_
      refine lv_iadd hx hb dX10_quiet_50 ?_
      refine lv_iload_n hx hb dX10_quiet_51 rfl (lv_at hl 0 rfl) ?_
      refine lv_icmp_ne (tgt := 57) hx hb dX10_quiet_52 (by decide) (fun c9 => ?_) (fun c9 => ?_)
      · replace h := if_f c9 h
        obtain ⟨x10, ex10⟩ : ∃ y : Int32, y = (v1 + (1 : Int32)) := ⟨_, rfl⟩
        replace h := vl_ok ex10 h
        refine lv_iinc (v := x10) (lv' := [(1, .int x10), (2, .int x5), (0, .ref (w.2.2.1 v0))]) hx hb dX10_quiet_57 hl (k := 2) rfl (by rw [ex10]; rfl) (by decide) rfl (fun ls hl => ?_)
        refine lv_goto (tgt := 6) hx hb dX10_quiet_60 (by decide) ?_
        obtain ⟨rfl, rfl⟩ := leaf h
        exact hP0_6 rfl _ _ _ hP hS (lv_sub hl [2, 0] rfl)
      · replace h := if_t c9 h
        obtain ⟨rfl, rfl⟩ := leaf h
        exact ((hK0_6 1 rfl).2 rfl) _ _ _ hP hS (lv_sub hl [2] rfl)
  · obtain ⟨x13, μ14⟩ := q12
    try dsimp only at h
    refine ⟨fun ht => ?_, fun ht => ?_⟩
    · intro H locs ls hP hS hl
      have hP : fP w μ14 H := hP
      have hl : lv_has ls 3 [] := hl
      replace h := if_t ht h
      refine lv_bipush (v := (-2)) hx hb dX10_quiet_63 (by decide) ?_
      exact r_iret C hr hP hS h dX10_quiet_65
    · intro H locs ls hP hS hl
      have hP : fP w μ14 H := hP
      have hl : lv_has ls 3 [(1, .int x13)] := hl
      replace h := if_f (by rw [ht]; decide) h
      refine lv_iload_n hx hb dX10_quiet_55 rfl (lv_at hl 0 rfl) ?_
      exact r_iret C hr hP hS h dX10_quiet_56

def f_X10_leastMoved_j109 (v0 : Nat) (v1 : Int32) (v2 : Int32) (v3 : Int32) (v6 : Int32) (v7 : Int32) (μ : fMem) : Option (Nat × (Int32 × Int32 × Int32 × fMem)) :=
  vl (v6 + (1 : Int32)) fun x29 => some (0, (v6, v7, x29, μ))
def f_X10_leastMoved_L43 (v0 : Nat) (v1 : Int32) (v2 : Int32) (v3 : Int32) (v4 : Int32) (v5 : Int32) (v6 : Int32) (μ : fMem) : Option (Nat × (Int32 × Int32 × Int32 × fMem)) :=
  vl (μ.2.2 v0 2) fun x11 => gd (kd x11 = (4, 2)) (bd (f_X2_told x11 (0 : Int32) μ) fun r14 μ13 => if r14 ≤ v6 then some (1, (v4, v5, v6, μ13)) else bd (f_X10_tryFromNow v0 μ13) fun r18 μ17 => gd (ixo v1 8) (vl (sI μ17 ((v0 + 78) + 1) (Int32.toNatClampNeg v1) v6) fun μ20 => bd (f_X0_pass (v0 + 84) v2 μ20) fun r23 μ22 => vl ((μ22.1 (v0 + 84) 0) + (μ22.1 (v0 + 84) 1)) fun x25 => if v4 = (-1 : Int32) then f_X10_leastMoved_j109 v0 v1 v2 v3 v6 x25 μ22 else if v5 ≤ x25 then vl (v6 + (1 : Int32)) fun x28 => some (0, (v4, v5, x28, μ22)) else f_X10_leastMoved_j109 v0 v1 v2 v3 v6 x25 μ22))
def f_X10_leastMoved (v0 : Nat) (v1 : Int32) (v2 : Int32) (v3 : Int32) (μ : fMem) : Option (Int32 × fMem) :=
  vl (μ.2.2 v0 2) fun x1 => gd (kd x1 = (4, 2)) (bd (f_X2_has x1 (2 : Int32) v1 μ) fun r4 μ3 => if r4 = 0 then some ((-1 : Int32), μ3) else if v2 < (1 : Int32) then some ((-1 : Int32), μ3) else if (60 : Int32) < v2 then some ((-1 : Int32), μ3) else if v3 < 0 then some ((-1 : Int32), μ3) else if v3 ≤ (1 : Int32) then bd (lpn (fun (q : Int32 × Int32 × Int32 × fMem) => f_X10_leastMoved_L43 v0 v1 v2 v3 q.1 q.2.1 q.2.2.1 q.2.2.2) fuel ((-1 : Int32), (0 : Int32), (0 : Int32), μ3)) fun t30 q31 => (fun (x32 : Int32) (x33 : Int32) (x34 : Int32) (μ35 : fMem) => if v3 = 0 then some (x32, μ35) else some (x33, μ35)) q31.1 q31.2.1 q31.2.2.1 q31.2.2.2 else some ((-1 : Int32), μ3))
def rm_X10_leastMoved : Room := { frames := 6, cells := 0, slots := 0, locals := 206 }
set_option maxHeartbeats 4000000 in
set_option maxRecDepth 100000 in
theorem m_X10_leastMoved (l : Launch) (w : fW) (hJ : fJ w) (hw : w.2.2.2 = sd 0) (v0 : Nat) (v1 : Int32) (v2 : Int32) (v3 : Int32) (hk0 : kd v0 = (4, 10)) (μ : fMem) {r : Int32} {μr : fMem} (h : f_X10_leastMoved v0 v1 v2 v3 μ = some (r, μr)) : Met l yX10_leastMoved (.code yX10_leastMoved cX10_leastMoved 8 (some .int) :: gw) rm_X10_leastMoved (fPc w [.ref (w.2.2.1 v0), .int v1, .int v2, .int v3] μ) (fQi w r μr) 0 0 (fA w) := by
  refine met_of hJ (by decide) ?_ (Nat.le_of_ble_eq_true rfl)
  generalize ([.ref (w.2.2.1 v0), .int v1, .int v2, .int v3] : List Value).toArray = args
  intro p e s m below meth c ls C hr hP hl hS
  obtain ⟨hx, hb, hml, hown, hts, hK, -, hlk, hT⟩ := id C
  have hl : lv_has ls 8 [(0, .ref (w.2.2.1 v0)), (1, .int v1), (2, .int v2), (3, .int v3)] := hl
  unfold f_X10_leastMoved at h
  refine lv_aload_n hx hb dX10_leastMoved_0 rfl (lv_at hl 0 rfl) ?_
  refine r_getRx C hP (iw hw (fi_10 hk0)) hk0 fl_X10_22 rfl (zw hw) dX10_leastMoved_1 (fun x1 ex1 => ?_)
  replace h := vl_ok ex1 h
  obtain ⟨g2, h⟩ := gd_ok h
  refine lv_iconst (v := (2)) hx hb dX10_leastMoved_4 (by decide) ?_
  refine lv_iload_n hx hb dX10_leastMoved_5 rfl (lv_at hl 1 rfl) ?_
  obtain ⟨r4, μ3, h5, h⟩ := bd_ok h
  refine go_i (callV_run (As := [.int (2 : Int32), .int v1]) (rest := []) C hl hP (hS.wide hJ).2.1 (iw hw (fi_2 g2)) g2 (m_X2_has l w hJ hw x1 (2 : Int32) v1 g2 μ h5) mv_X10_121 ⟨rfl, rfl, by decide, by decide⟩ rfl rfl (Nat.le_of_ble_eq_true rfl) ⟨Nat.zero_le _, Nat.zero_le _⟩ dX10_leastMoved_6) hS (fun H locs hP hS => ?_)
  refine lv_if_eq (tgt := 32) hx hb dX10_leastMoved_9 (by decide) (fun c6 => ?_) (fun c6 => ?_)
  · replace h := if_t c6 h
    refine lv_iconst (v := (-1)) hx hb dX10_leastMoved_32 (by decide) ?_
    exact r_iret C hr hP hS h dX10_leastMoved_33
  · replace h := if_f c6 h
    refine lv_iload_n hx hb dX10_leastMoved_12 rfl (lv_at hl 2 rfl) ?_
    refine lv_iconst (v := (1)) hx hb dX10_leastMoved_13 (by decide) ?_
    refine lv_icmp_lt (tgt := 32) hx hb dX10_leastMoved_14 (by decide) (fun c7 => ?_) (fun c7 => ?_)
    · replace h := if_t c7 h
      refine lv_iconst (v := (-1)) hx hb dX10_leastMoved_32 (by decide) ?_
      exact r_iret C hr hP hS h dX10_leastMoved_33
    · replace h := if_f c7 h
      refine lv_iload_n hx hb dX10_leastMoved_17 rfl (lv_at hl 2 rfl) ?_
      refine lv_bipush (v := (60)) hx hb dX10_leastMoved_18 (by decide) ?_
      refine lv_icmp_gt (tgt := 32) hx hb dX10_leastMoved_20 (by decide) (fun c8 => ?_) (fun c8 => ?_)
      · replace h := if_t c8 h
        refine lv_iconst (v := (-1)) hx hb dX10_leastMoved_32 (by decide) ?_
        exact r_iret C hr hP hS h dX10_leastMoved_33
      · replace h := if_f c8 h
        refine lv_iload_n hx hb dX10_leastMoved_23 rfl (lv_at hl 3 rfl) ?_
        refine lv_if_lt (tgt := 32) hx hb dX10_leastMoved_24 (by decide) (fun c9 => ?_) (fun c9 => ?_)
        · replace h := if_t c9 h
          refine lv_iconst (v := (-1)) hx hb dX10_leastMoved_32 (by decide) ?_
          exact r_iret C hr hP hS h dX10_leastMoved_33
        · replace h := if_f c9 h
          refine lv_iload_n hx hb dX10_leastMoved_27 rfl (lv_at hl 3 rfl) ?_
          refine lv_iconst (v := (1)) hx hb dX10_leastMoved_28 (by decide) ?_
          refine lv_icmp_le (tgt := 34) hx hb dX10_leastMoved_29 (by decide) (fun c10 => ?_) (fun c10 => ?_)
          · replace h := if_t c10 h
            refine lv_iconst (v := (-1)) hx hb dX10_leastMoved_34 (by decide) ?_
            refine lv_istore (lv' := [(4, .int (-1 : Int32)), (0, .ref (w.2.2.1 v0)), (1, .int v1), (2, .int v2), (3, .int v3)]) hx hb dX10_leastMoved_35 hl (by decide) rfl (fun ls hl => ?_)
            refine lv_iconst (v := (0)) hx hb dX10_leastMoved_37 (by decide) ?_
            refine lv_istore (lv' := [(5, .int (0 : Int32)), (4, .int (-1 : Int32)), (0, .ref (w.2.2.1 v0)), (1, .int v1), (2, .int v2), (3, .int v3)]) hx hb dX10_leastMoved_38 hl (by decide) rfl (fun ls hl => ?_)
            refine lv_iconst (v := (0)) hx hb dX10_leastMoved_40 (by decide) ?_
            refine lv_istore (lv' := [(6, .int (0 : Int32)), (5, .int (0 : Int32)), (4, .int (-1 : Int32)), (0, .ref (w.2.2.1 v0)), (1, .int v1), (2, .int v2), (3, .int v3)]) hx hb dX10_leastMoved_41 hl (by decide) rfl (fun ls hl => ?_)
            obtain ⟨t30, q31, h37, h⟩ := bd_ok h
            refine lpn_ind (b := (fun (q : Int32 × Int32 × Int32 × fMem) => f_X10_leastMoved_L43 v0 v1 v2 v3 q.1 q.2.1 q.2.2.1 q.2.2.2)) (P := fun (q : Int32 × Int32 × Int32 × fMem) => WW p l e rm_X10_leastMoved s m args below meth c (MQ below (fQi w r μr) args s 0 0 (fA w)) w q.2.2.2 8 43 [] [(0, .ref (w.2.2.1 v0)), (1, .int v1), (2, .int v2), (3, .int v3), (4, .int q.1), (5, .int q.2.1), (6, .int q.2.2.1)]) (K := fun _ (q : Int32 × Int32 × Int32 × fMem) => WW p l e rm_X10_leastMoved s m args below meth c (MQ below (fQi w r μr) args s 0 0 (fA w)) w q.2.2.2 8 123 [] [(3, .int v3), (4, .int q.1), (5, .int q.2.1)]) ?_ fuel ((-1 : Int32), (0 : Int32), (0 : Int32), μ3) t30 q31 h37 ?_ _ _ _ hP hS (lv_sub hl [3, 4, 5, 6, 2, 1, 0] rfl)
            · intro q tz43 sz43 h hP0_43 hK0_43 H locs ls hP hS hl
              obtain ⟨v4, v5, v6, μ⟩ := q
              have hP : fP w μ H := hP
              have hl : lv_has ls 8 [(0, .ref (w.2.2.1 v0)), (1, .int v1), (2, .int v2), (3, .int v3), (4, .int v4), (5, .int v5), (6, .int v6)] := hl
              have h : f_X10_leastMoved_L43 v0 v1 v2 v3 v4 v5 v6 μ = some (tz43, sz43) := h
              unfold f_X10_leastMoved_L43 at h
              have J109 : ∀ (v6 : Int32) (v7 : Int32) (μ : fMem), f_X10_leastMoved_j109 v0 v1 v2 v3 v6 v7 μ = some (tz43, sz43) → WW p l e rm_X10_leastMoved s m args below meth c (MQ below (fQi w r μr) args s 0 0 (fA w)) w μ 8 109 [] [(0, .ref (w.2.2.1 v0)), (1, .int v1), (2, .int v2), (3, .int v3), (6, .int v6), (7, .int v7)] := by
                intro v6 v7 μ  h H locs ls hP hS hl
                unfold f_X10_leastMoved_j109 at h
                refine lv_iload hx hb dX10_leastMoved_109 (lv_at hl 4 rfl) ?_
                refine lv_istore (lv' := [(4, .int v6), (0, .ref (w.2.2.1 v0)), (1, .int v1), (2, .int v2), (3, .int v3), (6, .int v6), (7, .int v7)]) hx hb dX10_leastMoved_111 hl (by decide) rfl (fun ls hl => ?_)
                refine lv_iload hx hb dX10_leastMoved_113 (lv_at hl 6 rfl) ?_
                refine lv_istore (lv' := [(5, .int v7), (4, .int v6), (0, .ref (w.2.2.1 v0)), (1, .int v1), (2, .int v2), (3, .int v3), (6, .int v6), (7, .int v7)]) hx hb dX10_leastMoved_115 hl (by decide) rfl (fun ls hl => ?_)
                obtain ⟨x29, ex29⟩ : ∃ y : Int32, y = (v6 + (1 : Int32)) := ⟨_, rfl⟩
                replace h := vl_ok ex29 h
                refine lv_iinc (v := x29) (lv' := [(6, .int x29), (5, .int v7), (4, .int v6), (0, .ref (w.2.2.1 v0)), (1, .int v1), (2, .int v2), (3, .int v3), (7, .int v7)]) hx hb dX10_leastMoved_117 hl (k := 6) rfl (by rw [ex29]; rfl) (by decide) rfl (fun ls hl => ?_)
                refine lv_goto (tgt := 43) hx hb dX10_leastMoved_120 (by decide) ?_
                obtain ⟨rfl, rfl⟩ := leaf h
                exact hP0_43 rfl _ _ _ hP hS (lv_sub hl [3, 4, 5, 6, 2, 1, 0] rfl)
              refine lv_iload hx hb dX10_leastMoved_43 (lv_at hl 6 rfl) ?_
              refine lv_aload_n hx hb dX10_leastMoved_45 rfl (lv_at hl 0 rfl) ?_
              refine r_getRx C hP (iw hw (fi_10 hk0)) hk0 fl_X10_22 rfl (zw hw) dX10_leastMoved_46 (fun x11 ex11 => ?_)
              replace h := vl_ok ex11 h
              obtain ⟨g12, h⟩ := gd_ok h
              refine lv_iconst (v := (0)) hx hb dX10_leastMoved_49 (by decide) ?_
              obtain ⟨r14, μ13, h15, h⟩ := bd_ok h
              refine go_i (callV_run (As := [.int (0 : Int32)]) (rest := [.int v6]) C hl hP (hS.wide hJ).2.1 (iw hw (fi_2 g12)) g12 (m_X2_told l w hJ hw x11 (0 : Int32) g12 μ h15) mv_X10_203 ⟨rfl, rfl, by decide, by decide⟩ rfl rfl (Nat.le_of_ble_eq_true rfl) ⟨Nat.zero_le _, Nat.zero_le _⟩ dX10_leastMoved_50) hS (fun H locs hP hS => ?_)
              refine lv_icmp_ge (tgt := 123) hx hb dX10_leastMoved_53 (by decide) (fun c16 => ?_) (fun c16 => ?_)
              · replace h := if_t c16 h
                obtain ⟨rfl, rfl⟩ := leaf h
                exact (hK0_43 0 rfl) _ _ _ hP hS (lv_sub hl [3, 4, 5] rfl)
              · replace h := if_f c16 h
                refine lv_aload_n hx hb dX10_leastMoved_56 rfl (lv_at hl 0 rfl) ?_
                obtain ⟨r18, μ17, h19, h⟩ := bd_ok h
                refine go_v (callV_run (As := []) (rest := []) C hl hP (hS.wide hJ).2.1 (iw hw (fi_10 hk0)) hk0 (m_X10_tryFromNow l w hJ hw v0 hk0 μ13 h19) mv_X10_242 ⟨rfl, rfl, by decide, by decide⟩ rfl rfl (Nat.le_of_ble_eq_true rfl) ⟨Nat.zero_le _, Nat.zero_le _⟩ dX10_leastMoved_57) hS (fun H locs hP hS => ?_)
                refine lv_aload_n hx hb dX10_leastMoved_60 rfl (lv_at hl 0 rfl) ?_
                refine r_getF (off := 78) C hP (iw hw (fi_10 hk0)) hk0 fl_X10_47 rfl rfl (zw hw) dX10_leastMoved_61 ?_
                refine r_getF (off := 1) C hP (iw hw (ff_10_7 hk0).2) (ff_10_7 hk0).1 fl_X10_132 rfl rfl (zw hw) dX10_leastMoved_64 ?_
                refine lv_iload_n hx hb dX10_leastMoved_67 rfl (lv_at hl 1 rfl) ?_
                refine lv_iload hx hb dX10_leastMoved_68 (lv_at hl 6 rfl) ?_
                obtain ⟨g21, h⟩ := gd_ok h
                refine r_iast C hP hS (iw hw (ff_7_0 (ff_10_7 hk0).1).2) (ff_7_0 (ff_10_7 hk0).1).1 g21 dX10_leastMoved_70 (fun H locs hP hS => ?_)
                obtain ⟨μ20, eμ20, h⟩ := vl_ex h
                have hP : fP w μ20 H := by rw [eμ20]; exact hP
                refine lv_aload_n hx hb dX10_leastMoved_71 rfl (lv_at hl 0 rfl) ?_
                refine r_getF (off := 84) C hP (iw hw (fi_10 hk0)) hk0 fl_X10_53 rfl rfl (zw hw) dX10_leastMoved_72 ?_
                refine lv_iload_n hx hb dX10_leastMoved_75 rfl (lv_at hl 2 rfl) ?_
                obtain ⟨r23, μ22, h24, h⟩ := bd_ok h
                refine go_v (callV_run (As := [.int v2]) (rest := []) C hl hP (hS.wide hJ).2.1 (iw hw (ff_10_8 hk0).2) (ff_10_8 hk0).1 (m_X0_pass l w hJ hw (v0 + 84) v2 (ff_10_8 hk0).1 μ20 h24) mv_X10_239 ⟨rfl, rfl, by decide, by decide⟩ rfl rfl (Nat.le_of_ble_eq_true rfl) ⟨Nat.zero_le _, Nat.zero_le _⟩ dX10_leastMoved_76) hS (fun H locs hP hS => ?_)
                refine lv_aload_n hx hb dX10_leastMoved_79 rfl (lv_at hl 0 rfl) ?_
                refine r_getF (off := 84) C hP (iw hw (fi_10 hk0)) hk0 fl_X10_53 rfl rfl (zw hw) dX10_leastMoved_80 ?_
                refine r_getI C hP (iw hw (ff_10_8 hk0).2) (ff_10_8 hk0).1 fl_X10_245 (Or.inl rfl) dX10_leastMoved_83 ?_
                refine lv_aload_n hx hb dX10_leastMoved_86 rfl (lv_at hl 0 rfl) ?_
                refine r_getF (off := 84) C hP (iw hw (fi_10 hk0)) hk0 fl_X10_53 rfl rfl (zw hw) dX10_leastMoved_87 ?_
                refine r_getI C hP (iw hw (ff_10_8 hk0).2) (ff_10_8 hk0).1 fl_X10_248 (Or.inl rfl) dX10_leastMoved_90 ?_
                refine lv_iadd hx hb dX10_leastMoved_93 ?_
                refine lv_topi (fun x25 ex25 => ?_)
                replace h := vl_ok ex25 h
                refine lv_istore (lv' := [(7, .int x25), (0, .ref (w.2.2.1 v0)), (1, .int v1), (2, .int v2), (3, .int v3), (4, .int v4), (5, .int v5), (6, .int v6)]) hx hb dX10_leastMoved_94 hl (by decide) rfl (fun ls hl => ?_)
                refine lv_iload hx hb dX10_leastMoved_96 (lv_at hl 5 rfl) ?_
                refine lv_iconst (v := (-1)) hx hb dX10_leastMoved_98 (by decide) ?_
                refine lv_icmp_eq (tgt := 109) hx hb dX10_leastMoved_99 (by decide) (fun c26 => ?_) (fun c26 => ?_)
                · replace h := if_t c26 h
                  exact J109 v6 x25 μ22  h _ _ _ hP hS (lv_sub hl [1, 2, 3, 4, 7, 0] rfl)
                · replace h := if_f c26 h
                  refine lv_iload hx hb dX10_leastMoved_102 (lv_at hl 0 rfl) ?_
                  refine lv_iload hx hb dX10_leastMoved_104 (lv_at hl 6 rfl) ?_
                  refine lv_icmp_ge (tgt := 117) hx hb dX10_leastMoved_106 (by decide) (fun c27 => ?_) (fun c27 => ?_)
                  · replace h := if_t c27 h
                    obtain ⟨x28, ex28⟩ : ∃ y : Int32, y = (v6 + (1 : Int32)) := ⟨_, rfl⟩
                    replace h := vl_ok ex28 h
                    refine lv_iinc (v := x28) (lv' := [(6, .int x28), (7, .int x25), (0, .ref (w.2.2.1 v0)), (1, .int v1), (2, .int v2), (3, .int v3), (4, .int v4), (5, .int v5)]) hx hb dX10_leastMoved_117 hl (k := 7) rfl (by rw [ex28]; rfl) (by decide) rfl (fun ls hl => ?_)
                    refine lv_goto (tgt := 43) hx hb dX10_leastMoved_120 (by decide) ?_
                    obtain ⟨rfl, rfl⟩ := leaf h
                    exact hP0_43 rfl _ _ _ hP hS (lv_sub hl [2, 3, 4, 5, 6, 7, 0] rfl)
                  · replace h := if_f c27 h
                    exact J109 v6 x25 μ22  h _ _ _ hP hS (lv_sub hl [1, 2, 3, 4, 7, 0] rfl)
            · obtain ⟨x32, x33, x34, μ35⟩ := q31
              intro H locs ls hP hS hl
              have hP : fP w μ35 H := hP
              have hl : lv_has ls 8 [(3, .int v3), (4, .int x32), (5, .int x33)] := hl
              try dsimp only at h
              refine lv_iload_n hx hb dX10_leastMoved_123 rfl (lv_at hl 0 rfl) ?_
              refine lv_if_ne (tgt := 132) hx hb dX10_leastMoved_124 (by decide) (fun c36 => ?_) (fun c36 => ?_)
              · replace h := if_f c36 h
                refine lv_iload hx hb dX10_leastMoved_132 (lv_at hl 2 rfl) ?_
                exact r_iret C hr hP hS h dX10_leastMoved_134
              · replace h := if_t c36 h
                refine lv_iload hx hb dX10_leastMoved_127 (lv_at hl 1 rfl) ?_
                refine lv_goto (tgt := 134) hx hb dX10_leastMoved_129 (by decide) ?_
                exact r_iret C hr hP hS h dX10_leastMoved_134
          · replace h := if_f c10 h
            refine lv_iconst (v := (-1)) hx hb dX10_leastMoved_32 (by decide) ?_
            exact r_iret C hr hP hS h dX10_leastMoved_33

def f_X10_tickets_L21 (v0 : Nat) (v1 : Int32) (v2 : Int32) (v3 : Int32) (μ : fMem) : Option (Nat × (Int32 × Int32 × fMem)) :=
  if v1 ≤ v3 then some (1, (v2, v3, μ)) else bd (f_X0_look (v0 + 84) μ) fun r8 μ7 => bd (f_X0_comers (v0 + 84) μ7) fun r11 μ10 => bd (f_J6_bitCount_0f7a4 r11 μ10) fun r14 μ13 => vl (imx v2 r14) fun x16 => vl (sI μ13 (v0 + 78) 6 ((μ13.1 (v0 + 78) 6) + (1 : Int32))) fun μ17 => vl (v3 + (1 : Int32)) fun x18 => some (0, (x16, x18, μ17))
def f_X10_tickets (v0 : Nat) (v1 : Int32) (μ : fMem) : Option (Int32 × fMem) :=
  if v1 < (1 : Int32) then some ((-1 : Int32), μ) else if v1 ≤ (99 : Int32) then bd (f_X10_tryFromNow v0 μ) fun r4 μ3 => bd (lpn (fun (q : Int32 × Int32 × fMem) => f_X10_tickets_L21 v0 v1 q.1 q.2.1 q.2.2) fuel ((0 : Int32), (0 : Int32), μ3)) fun t19 q20 => (fun (x21 : Int32) (x22 : Int32) (μ23 : fMem) => some (x21, μ23)) q20.1 q20.2.1 q20.2.2 else some ((-1 : Int32), μ)
def rm_X10_tickets : Room := { frames := 5, cells := 0, slots := 0, locals := 121 }
set_option maxHeartbeats 4000000 in
set_option maxRecDepth 100000 in
theorem m_X10_tickets (l : Launch) (w : fW) (hJ : fJ w) (hw : w.2.2.2 = sd 0) (v0 : Nat) (v1 : Int32) (hk0 : kd v0 = (4, 10)) (μ : fMem) {r : Int32} {μr : fMem} (h : f_X10_tickets v0 v1 μ = some (r, μr)) : Met l yX10_tickets (.code yX10_tickets cX10_tickets 4 (some .int) :: gw) rm_X10_tickets (fPc w [.ref (w.2.2.1 v0), .int v1] μ) (fQi w r μr) 0 0 (fA w) := by
  refine met_of hJ (by decide) ?_ (Nat.le_of_ble_eq_true rfl)
  generalize ([.ref (w.2.2.1 v0), .int v1] : List Value).toArray = args
  intro p e s m below meth c ls C hr hP hl hS
  obtain ⟨hx, hb, hml, hown, hts, hK, -, hlk, hT⟩ := id C
  have hl : lv_has ls 4 [(0, .ref (w.2.2.1 v0)), (1, .int v1)] := hl
  unfold f_X10_tickets at h
  refine lv_iload_n hx hb dX10_tickets_0 rfl (lv_at hl 1 rfl) ?_
  refine lv_iconst (v := (1)) hx hb dX10_tickets_1 (by decide) ?_
  refine lv_icmp_lt (tgt := 11) hx hb dX10_tickets_2 (by decide) (fun c1 => ?_) (fun c1 => ?_)
  · replace h := if_t c1 h
    refine lv_iconst (v := (-1)) hx hb dX10_tickets_11 (by decide) ?_
    exact r_iret C hr hP hS h dX10_tickets_12
  · replace h := if_f c1 h
    refine lv_iload_n hx hb dX10_tickets_5 rfl (lv_at hl 1 rfl) ?_
    refine lv_bipush (v := (99)) hx hb dX10_tickets_6 (by decide) ?_
    refine lv_icmp_le (tgt := 13) hx hb dX10_tickets_8 (by decide) (fun c2 => ?_) (fun c2 => ?_)
    · replace h := if_t c2 h
      refine lv_aload_n hx hb dX10_tickets_13 rfl (lv_at hl 0 rfl) ?_
      obtain ⟨r4, μ3, h5, h⟩ := bd_ok h
      refine go_v (callV_run (As := []) (rest := []) C hl hP (hS.wide hJ).2.1 (iw hw (fi_10 hk0)) hk0 (m_X10_tryFromNow l w hJ hw v0 hk0 μ h5) mv_X10_242 ⟨rfl, rfl, by decide, by decide⟩ rfl rfl (Nat.le_of_ble_eq_true rfl) ⟨Nat.zero_le _, Nat.zero_le _⟩ dX10_tickets_14) hS (fun H locs hP hS => ?_)
      refine lv_iconst (v := (0)) hx hb dX10_tickets_17 (by decide) ?_
      refine lv_istore_n (lv' := [(2, .int (0 : Int32)), (0, .ref (w.2.2.1 v0)), (1, .int v1)]) hx hb dX10_tickets_18 rfl hl (by decide) rfl (fun ls hl => ?_)
      refine lv_iconst (v := (0)) hx hb dX10_tickets_19 (by decide) ?_
      refine lv_istore_n (lv' := [(3, .int (0 : Int32)), (2, .int (0 : Int32)), (0, .ref (w.2.2.1 v0)), (1, .int v1)]) hx hb dX10_tickets_20 rfl hl (by decide) rfl (fun ls hl => ?_)
      obtain ⟨t19, q20, h24, h⟩ := bd_ok h
      refine lpn_ind (b := (fun (q : Int32 × Int32 × fMem) => f_X10_tickets_L21 v0 v1 q.1 q.2.1 q.2.2)) (P := fun (q : Int32 × Int32 × fMem) => WW p l e rm_X10_tickets s m args below meth c (MQ below (fQi w r μr) args s 0 0 (fA w)) w q.2.2 4 21 [] [(0, .ref (w.2.2.1 v0)), (1, .int v1), (2, .int q.1), (3, .int q.2.1)]) (K := fun _ (q : Int32 × Int32 × fMem) => WW p l e rm_X10_tickets s m args below meth c (MQ below (fQi w r μr) args s 0 0 (fA w)) w q.2.2 4 67 [] [(2, .int q.1)]) ?_ fuel ((0 : Int32), (0 : Int32), μ3) t19 q20 h24 ?_ _ _ _ hP hS (lv_sub hl [2, 3, 1, 0] rfl)
      · intro q tz21 sz21 h hP0_21 hK0_21 H locs ls hP hS hl
        obtain ⟨v2, v3, μ⟩ := q
        have hP : fP w μ H := hP
        have hl : lv_has ls 4 [(0, .ref (w.2.2.1 v0)), (1, .int v1), (2, .int v2), (3, .int v3)] := hl
        have h : f_X10_tickets_L21 v0 v1 v2 v3 μ = some (tz21, sz21) := h
        unfold f_X10_tickets_L21 at h
        refine lv_iload_n hx hb dX10_tickets_21 rfl (lv_at hl 3 rfl) ?_
        refine lv_iload_n hx hb dX10_tickets_22 rfl (lv_at hl 1 rfl) ?_
        refine lv_icmp_ge (tgt := 67) hx hb dX10_tickets_23 (by decide) (fun c6 => ?_) (fun c6 => ?_)
        · replace h := if_t c6 h
          obtain ⟨rfl, rfl⟩ := leaf h
          exact (hK0_21 0 rfl) _ _ _ hP hS (lv_sub hl [2] rfl)
        · replace h := if_f c6 h
          refine lv_aload_n hx hb dX10_tickets_26 rfl (lv_at hl 0 rfl) ?_
          refine r_getF (off := 84) C hP (iw hw (fi_10 hk0)) hk0 fl_X10_53 rfl rfl (zw hw) dX10_tickets_27 ?_
          obtain ⟨r8, μ7, h9, h⟩ := bd_ok h
          refine go_v (callV_run (As := []) (rest := []) C hl hP (hS.wide hJ).2.1 (iw hw (ff_10_8 hk0).2) (ff_10_8 hk0).1 (m_X0_look l w hJ hw (v0 + 84) (ff_10_8 hk0).1 μ h9) mv_X10_257 ⟨rfl, rfl, by decide, by decide⟩ rfl rfl (Nat.le_of_ble_eq_true rfl) ⟨Nat.zero_le _, Nat.zero_le _⟩ dX10_tickets_30) hS (fun H locs hP hS => ?_)
          refine lv_iload_n hx hb dX10_tickets_33 rfl (lv_at hl 2 rfl) ?_
          refine lv_aload_n hx hb dX10_tickets_34 rfl (lv_at hl 0 rfl) ?_
          refine r_getF (off := 84) C hP (iw hw (fi_10 hk0)) hk0 fl_X10_53 rfl rfl (zw hw) dX10_tickets_35 ?_
          obtain ⟨r11, μ10, h12, h⟩ := bd_ok h
          refine go_i (callV_run (As := []) (rest := [.int v2]) C hl hP (hS.wide hJ).2.1 (iw hw (ff_10_8 hk0).2) (ff_10_8 hk0).1 (m_X0_comers l w hJ hw (v0 + 84) (ff_10_8 hk0).1 μ7 h12) mv_X10_251 ⟨rfl, rfl, by decide, by decide⟩ rfl rfl (Nat.le_of_ble_eq_true rfl) ⟨Nat.zero_le _, Nat.zero_le _⟩ dX10_tickets_38) hS (fun H locs hP hS => ?_)
          obtain ⟨r14, μ13, h15, h⟩ := bd_ok h
          refine go_i (callS_run (As := [.int r11]) (rest := [.int v2]) C hl hP (hS.wide hJ).2.1 (m_J6_bitCount_0f7a4 l w hJ r11  μ10 h15) ms_X10_163 ⟨rfl, rfl, by decide, by decide⟩ rfl rfl (Nat.le_of_ble_eq_true rfl) ⟨Nat.zero_le _, Nat.zero_le _⟩ dX10_tickets_41) hS (fun H locs hP hS => ?_)
          refine b_mmax (rest := []) C hl mm_X10_260 (by decide) (Nat.le_of_ble_eq_true rfl) dX10_tickets_44 ?_
          refine lv_topi (fun x16 ex16 => ?_)
          replace h := vl_ok ex16 h
          refine lv_istore_n (lv' := [(2, .int x16), (0, .ref (w.2.2.1 v0)), (1, .int v1), (3, .int v3)]) hx hb dX10_tickets_47 rfl hl (by decide) rfl (fun ls hl => ?_)
          refine lv_aload_n hx hb dX10_tickets_48 rfl (lv_at hl 1 rfl) ?_
          refine r_getF (off := 78) C hP (iw hw (fi_10 hk0)) hk0 fl_X10_47 rfl rfl (zw hw) dX10_tickets_49 ?_
          refine lv_dup hx hb dX10_tickets_52 rfl ?_
          refine r_getI C hP (iw hw (ff_10_7 hk0).2) (ff_10_7 hk0).1 fl_X10_209 (Or.inl rfl) dX10_tickets_53 ?_
          refine lv_iconst (v := (1)) hx hb dX10_tickets_56 (by decide) ?_
          refine lv_iadd hx hb dX10_tickets_57 ?_
          refine r_putI C hP hS (iw hw (ff_10_7 hk0).2) (ff_10_7 hk0).1 fp_X10_209 rfl dX10_tickets_58 (fun H locs hP hS => ?_)
          obtain ⟨μ17, eμ17, h⟩ := vl_ex h
          have hP : fP w μ17 H := by rw [eμ17]; exact hP
          obtain ⟨x18, ex18⟩ : ∃ y : Int32, y = (v3 + (1 : Int32)) := ⟨_, rfl⟩
          replace h := vl_ok ex18 h
          refine lv_iinc (v := x18) (lv' := [(3, .int x18), (2, .int x16), (0, .ref (w.2.2.1 v0)), (1, .int v1)]) hx hb dX10_tickets_61 hl (k := 3) rfl (by rw [ex18]; rfl) (by decide) rfl (fun ls hl => ?_)
          refine lv_goto (tgt := 21) hx hb dX10_tickets_64 (by decide) ?_
          obtain ⟨rfl, rfl⟩ := leaf h
          exact hP0_21 rfl _ _ _ hP hS (lv_sub hl [2, 3, 1, 0] rfl)
      · obtain ⟨x21, x22, μ23⟩ := q20
        intro H locs ls hP hS hl
        have hP : fP w μ23 H := hP
        have hl : lv_has ls 4 [(2, .int x21)] := hl
        try dsimp only at h
        refine lv_iload_n hx hb dX10_tickets_67 rfl (lv_at hl 0 rfl) ?_
        exact r_iret C hr hP hS h dX10_tickets_68
    · replace h := if_f c2 h
      refine lv_iconst (v := (-1)) hx hb dX10_tickets_11 (by decide) ?_
      exact r_iret C hr hP hS h dX10_tickets_12

def f_X10_chance_L54 (v0 : Nat) (v2 : Int32) (v3 : Int32) (v4 : Int32) (v5 : Int32) (v6 : Int64) (v8 : Int32) (μ : fMem) : Option (Nat × (Int32 × Int64 × Int32 × fMem)) :=
  if (10 : Int32) ≤ v8 then some (1, (v5, v6, v8, μ)) else bd (f_X10_tryFromNow v0 μ) fun r19 μ18 => bd (f_X0_drawFrom (v0 + 84) v6 μ18) fun r22 μ21 => bd (f_X0_pass (v0 + 84) v2 μ21) fun r25 μ24 => vl (μ24.2.1 (v0 + 84) 6) fun x27 => gd (ixo v3 8) (if (μ24.1 ((v0 + 78) + 1) (Int32.toNatClampNeg v3)) = v4 then vl (v5 + (1 : Int32)) fun x31 => vl (v8 + (1 : Int32)) fun x32 => some (0, (x31, x27, x32, μ24)) else vl (v8 + (1 : Int32)) fun x30 => some (0, (v5, x27, x30, μ24)))
def f_X10_chance (v0 : Nat) (v1 : Int32) (v2 : Int32) (v3 : Int32) (v4 : Int32) (μ : fMem) : Option (Int32 × fMem) :=
  if v1 < 0 then some ((-1 : Int32), μ) else if v2 < (1 : Int32) then some ((-1 : Int32), μ) else if v2 ≤ (60 : Int32) then vl (μ.2.2 v0 2) fun x4 => gd (kd x4 = (4, 2)) (bd (f_X2_has x4 (2 : Int32) v3 μ) fun r7 μ6 => if r7 = 0 then some ((-1 : Int32), μ6) else vl (μ6.2.2 v0 2) fun x10 => gd (kd x10 = (4, 2)) (bd (f_X2_has x10 (0 : Int32) v4 μ6) fun r13 μ12 => if r13 = 0 then some ((-1 : Int32), μ12) else vl (v1.toInt64) fun x16 => bd (lpn (fun (q : Int32 × Int64 × Int32 × fMem) => f_X10_chance_L54 v0 v2 v3 v4 q.1 q.2.1 q.2.2.1 q.2.2.2) fuel ((0 : Int32), x16, (0 : Int32), μ12)) fun t33 q34 => (fun (x35 : Int32) (x36 : Int64) (x37 : Int32) (μ38 : fMem) => some (x35, μ38)) q34.1 q34.2.1 q34.2.2.1 q34.2.2.2)) else some ((-1 : Int32), μ)
def rm_X10_chance : Room := { frames := 6, cells := 0, slots := 0, locals := 206 }
set_option maxHeartbeats 4000000 in
set_option maxRecDepth 100000 in
theorem m_X10_chance (l : Launch) (w : fW) (hJ : fJ w) (hw : w.2.2.2 = sd 0) (v0 : Nat) (v1 : Int32) (v2 : Int32) (v3 : Int32) (v4 : Int32) (hk0 : kd v0 = (4, 10)) (μ : fMem) {r : Int32} {μr : fMem} (h : f_X10_chance v0 v1 v2 v3 v4 μ = some (r, μr)) : Met l yX10_chance (.code yX10_chance cX10_chance 9 (some .int) :: gw) rm_X10_chance (fPc w [.ref (w.2.2.1 v0), .int v1, .int v2, .int v3, .int v4] μ) (fQi w r μr) 0 0 (fA w) := by
  refine met_of hJ (by decide) ?_ (Nat.le_of_ble_eq_true rfl)
  generalize ([.ref (w.2.2.1 v0), .int v1, .int v2, .int v3, .int v4] : List Value).toArray = args
  intro p e s m below meth c ls C hr hP hl hS
  obtain ⟨hx, hb, hml, hown, hts, hK, -, hlk, hT⟩ := id C
  have hl : lv_has ls 9 [(0, .ref (w.2.2.1 v0)), (1, .int v1), (2, .int v2), (3, .int v3), (4, .int v4)] := hl
  unfold f_X10_chance at h
  refine lv_iload_n hx hb dX10_chance_0 rfl (lv_at hl 1 rfl) ?_
  refine lv_if_lt (tgt := 15) hx hb dX10_chance_1 (by decide) (fun c1 => ?_) (fun c1 => ?_)
  · replace h := if_t c1 h
    refine lv_iconst (v := (-1)) hx hb dX10_chance_15 (by decide) ?_
    exact r_iret C hr hP hS h dX10_chance_16
  · replace h := if_f c1 h
    refine lv_iload_n hx hb dX10_chance_4 rfl (lv_at hl 2 rfl) ?_
    refine lv_iconst (v := (1)) hx hb dX10_chance_5 (by decide) ?_
    refine lv_icmp_lt (tgt := 15) hx hb dX10_chance_6 (by decide) (fun c2 => ?_) (fun c2 => ?_)
    · replace h := if_t c2 h
      refine lv_iconst (v := (-1)) hx hb dX10_chance_15 (by decide) ?_
      exact r_iret C hr hP hS h dX10_chance_16
    · replace h := if_f c2 h
      refine lv_iload_n hx hb dX10_chance_9 rfl (lv_at hl 2 rfl) ?_
      refine lv_bipush (v := (60)) hx hb dX10_chance_10 (by decide) ?_
      refine lv_icmp_le (tgt := 17) hx hb dX10_chance_12 (by decide) (fun c3 => ?_) (fun c3 => ?_)
      · replace h := if_t c3 h
        refine lv_aload_n hx hb dX10_chance_17 rfl (lv_at hl 0 rfl) ?_
        refine r_getRx C hP (iw hw (fi_10 hk0)) hk0 fl_X10_22 rfl (zw hw) dX10_chance_18 (fun x4 ex4 => ?_)
        replace h := vl_ok ex4 h
        obtain ⟨g5, h⟩ := gd_ok h
        refine lv_iconst (v := (2)) hx hb dX10_chance_21 (by decide) ?_
        refine lv_iload_n hx hb dX10_chance_22 rfl (lv_at hl 3 rfl) ?_
        obtain ⟨r7, μ6, h8, h⟩ := bd_ok h
        refine go_i (callV_run (As := [.int (2 : Int32), .int v3]) (rest := []) C hl hP (hS.wide hJ).2.1 (iw hw (fi_2 g5)) g5 (m_X2_has l w hJ hw x4 (2 : Int32) v3 g5 μ h8) mv_X10_121 ⟨rfl, rfl, by decide, by decide⟩ rfl rfl (Nat.le_of_ble_eq_true rfl) ⟨Nat.zero_le _, Nat.zero_le _⟩ dX10_chance_23) hS (fun H locs hP hS => ?_)
        refine lv_if_eq (tgt := 42) hx hb dX10_chance_26 (by decide) (fun c9 => ?_) (fun c9 => ?_)
        · replace h := if_t c9 h
          refine lv_iconst (v := (-1)) hx hb dX10_chance_42 (by decide) ?_
          exact r_iret C hr hP hS h dX10_chance_43
        · replace h := if_f c9 h
          refine lv_aload_n hx hb dX10_chance_29 rfl (lv_at hl 0 rfl) ?_
          refine r_getRx C hP (iw hw (fi_10 hk0)) hk0 fl_X10_22 rfl (zw hw) dX10_chance_30 (fun x10 ex10 => ?_)
          replace h := vl_ok ex10 h
          obtain ⟨g11, h⟩ := gd_ok h
          refine lv_iconst (v := (0)) hx hb dX10_chance_33 (by decide) ?_
          refine lv_iload hx hb dX10_chance_34 (lv_at hl 4 rfl) ?_
          obtain ⟨r13, μ12, h14, h⟩ := bd_ok h
          refine go_i (callV_run (As := [.int (0 : Int32), .int v4]) (rest := []) C hl hP (hS.wide hJ).2.1 (iw hw (fi_2 g11)) g11 (m_X2_has l w hJ hw x10 (0 : Int32) v4 g11 μ6 h14) mv_X10_121 ⟨rfl, rfl, by decide, by decide⟩ rfl rfl (Nat.le_of_ble_eq_true rfl) ⟨Nat.zero_le _, Nat.zero_le _⟩ dX10_chance_36) hS (fun H locs hP hS => ?_)
          refine lv_if_ne (tgt := 44) hx hb dX10_chance_39 (by decide) (fun c15 => ?_) (fun c15 => ?_)
          · replace h := if_f c15 h
            refine lv_iconst (v := (0)) hx hb dX10_chance_44 (by decide) ?_
            refine lv_istore (lv' := [(5, .int (0 : Int32)), (0, .ref (w.2.2.1 v0)), (1, .int v1), (2, .int v2), (3, .int v3), (4, .int v4)]) hx hb dX10_chance_45 hl (by decide) rfl (fun ls hl => ?_)
            refine lv_iload_n hx hb dX10_chance_47 rfl (lv_at hl 2 rfl) ?_
            refine lv_i2l hx hb dX10_chance_48 rfl ?_
            refine lv_topl (fun x16 ex16 => ?_)
            replace h := vl_ok ex16 h
            refine lv_lstore (lv' := [(6, .long x16), (5, .int (0 : Int32)), (0, .ref (w.2.2.1 v0)), (1, .int v1), (2, .int v2), (3, .int v3), (4, .int v4)]) hx hb dX10_chance_49 hl (by decide) rfl (fun ls hl => ?_)
            refine lv_iconst (v := (0)) hx hb dX10_chance_51 (by decide) ?_
            refine lv_istore (lv' := [(8, .int (0 : Int32)), (6, .long x16), (5, .int (0 : Int32)), (0, .ref (w.2.2.1 v0)), (1, .int v1), (2, .int v2), (3, .int v3), (4, .int v4)]) hx hb dX10_chance_52 hl (by decide) rfl (fun ls hl => ?_)
            obtain ⟨t33, q34, h39, h⟩ := bd_ok h
            refine lpn_ind (b := (fun (q : Int32 × Int64 × Int32 × fMem) => f_X10_chance_L54 v0 v2 v3 v4 q.1 q.2.1 q.2.2.1 q.2.2.2)) (P := fun (q : Int32 × Int64 × Int32 × fMem) => WW p l e rm_X10_chance s m args below meth c (MQ below (fQi w r μr) args s 0 0 (fA w)) w q.2.2.2 9 54 [] [(0, .ref (w.2.2.1 v0)), (2, .int v2), (3, .int v3), (4, .int v4), (5, .int q.1), (6, .long q.2.1), (8, .int q.2.2.1)]) (K := fun _ (q : Int32 × Int64 × Int32 × fMem) => WW p l e rm_X10_chance s m args below meth c (MQ below (fQi w r μr) args s 0 0 (fA w)) w q.2.2.2 9 114 [] [(5, .int q.1)]) ?_ fuel ((0 : Int32), x16, (0 : Int32), μ12) t33 q34 h39 ?_ _ _ _ hP hS (lv_sub hl [3, 5, 6, 7, 2, 1, 0] rfl)
            · intro q tz54 sz54 h hP0_54 hK0_54 H locs ls hP hS hl
              obtain ⟨v5, v6, v8, μ⟩ := q
              have hP : fP w μ H := hP
              have hl : lv_has ls 9 [(0, .ref (w.2.2.1 v0)), (2, .int v2), (3, .int v3), (4, .int v4), (5, .int v5), (6, .long v6), (8, .int v8)] := hl
              have h : f_X10_chance_L54 v0 v2 v3 v4 v5 v6 v8 μ = some (tz54, sz54) := h
              unfold f_X10_chance_L54 at h
              refine lv_iload hx hb dX10_chance_54 (lv_at hl 6 rfl) ?_
              refine lv_bipush (v := (10)) hx hb dX10_chance_56 (by decide) ?_
              refine lv_icmp_ge (tgt := 114) hx hb dX10_chance_58 (by decide) (fun c17 => ?_) (fun c17 => ?_)
              · replace h := if_t c17 h
                obtain ⟨rfl, rfl⟩ := leaf h
                exact (hK0_54 0 rfl) _ _ _ hP hS (lv_sub hl [4] rfl)
              · replace h := if_f c17 h
                refine lv_aload_n hx hb dX10_chance_61 rfl (lv_at hl 0 rfl) ?_
                obtain ⟨r19, μ18, h20, h⟩ := bd_ok h
                refine go_v (callV_run (As := []) (rest := []) C hl hP (hS.wide hJ).2.1 (iw hw (fi_10 hk0)) hk0 (m_X10_tryFromNow l w hJ hw v0 hk0 μ h20) mv_X10_242 ⟨rfl, rfl, by decide, by decide⟩ rfl rfl (Nat.le_of_ble_eq_true rfl) ⟨Nat.zero_le _, Nat.zero_le _⟩ dX10_chance_62) hS (fun H locs hP hS => ?_)
                refine lv_aload_n hx hb dX10_chance_65 rfl (lv_at hl 0 rfl) ?_
                refine r_getF (off := 84) C hP (iw hw (fi_10 hk0)) hk0 fl_X10_53 rfl rfl (zw hw) dX10_chance_66 ?_
                refine lv_lload hx hb dX10_chance_69 (lv_at hl 5 rfl) ?_
                obtain ⟨r22, μ21, h23, h⟩ := bd_ok h
                refine go_v (callV_run (As := [.long v6]) (rest := []) C hl hP (hS.wide hJ).2.1 (iw hw (ff_10_8 hk0).2) (ff_10_8 hk0).1 (m_X0_drawFrom l w hJ hw (v0 + 84) v6 (ff_10_8 hk0).1 μ18 h23) mv_X10_265 ⟨rfl, rfl, by decide, by decide⟩ rfl rfl (Nat.le_of_ble_eq_true rfl) ⟨Nat.zero_le _, Nat.zero_le _⟩ dX10_chance_71) hS (fun H locs hP hS => ?_)
                refine lv_aload_n hx hb dX10_chance_74 rfl (lv_at hl 0 rfl) ?_
                refine r_getF (off := 84) C hP (iw hw (fi_10 hk0)) hk0 fl_X10_53 rfl rfl (zw hw) dX10_chance_75 ?_
                refine lv_iload_n hx hb dX10_chance_78 rfl (lv_at hl 1 rfl) ?_
                obtain ⟨r25, μ24, h26, h⟩ := bd_ok h
                refine go_v (callV_run (As := [.int v2]) (rest := []) C hl hP (hS.wide hJ).2.1 (iw hw (ff_10_8 hk0).2) (ff_10_8 hk0).1 (m_X0_pass l w hJ hw (v0 + 84) v2 (ff_10_8 hk0).1 μ21 h26) mv_X10_239 ⟨rfl, rfl, by decide, by decide⟩ rfl rfl (Nat.le_of_ble_eq_true rfl) ⟨Nat.zero_le _, Nat.zero_le _⟩ dX10_chance_79) hS (fun H locs hP hS => ?_)
                refine lv_aload_n hx hb dX10_chance_82 rfl (lv_at hl 0 rfl) ?_
                refine r_getF (off := 84) C hP (iw hw (fi_10 hk0)) hk0 fl_X10_53 rfl rfl (zw hw) dX10_chance_83 ?_
                refine r_getL C hP (iw hw (ff_10_8 hk0).2) (ff_10_8 hk0).1 fl_X10_269 rfl dX10_chance_86 ?_
                refine lv_topl (fun x27 ex27 => ?_)
                replace h := vl_ok ex27 h
                refine lv_lstore (lv' := [(6, .long x27), (0, .ref (w.2.2.1 v0)), (2, .int v2), (3, .int v3), (4, .int v4), (5, .int v5), (8, .int v8)]) hx hb dX10_chance_89 hl (by decide) rfl (fun ls hl => ?_)
                refine lv_aload_n hx hb dX10_chance_91 rfl (lv_at hl 1 rfl) ?_
                refine r_getF (off := 78) C hP (iw hw (fi_10 hk0)) hk0 fl_X10_47 rfl rfl (zw hw) dX10_chance_92 ?_
                refine r_getF (off := 1) C hP (iw hw (ff_10_7 hk0).2) (ff_10_7 hk0).1 fl_X10_132 rfl rfl (zw hw) dX10_chance_95 ?_
                refine lv_iload_n hx hb dX10_chance_98 rfl (lv_at hl 3 rfl) ?_
                obtain ⟨g28, h⟩ := gd_ok h
                refine r_iald C hP (iw hw (ff_7_0 (ff_10_7 hk0).1).2) (ff_7_0 (ff_10_7 hk0).1).1 g28 dX10_chance_99 ?_
                refine lv_iload hx hb dX10_chance_100 (lv_at hl 4 rfl) ?_
                refine lv_icmp_ne (tgt := 108) hx hb dX10_chance_102 (by decide) (fun c29 => ?_) (fun c29 => ?_)
                · replace h := if_f c29 h
                  obtain ⟨x30, ex30⟩ : ∃ y : Int32, y = (v8 + (1 : Int32)) := ⟨_, rfl⟩
                  replace h := vl_ok ex30 h
                  refine lv_iinc (v := x30) (lv' := [(8, .int x30), (6, .long x27), (0, .ref (w.2.2.1 v0)), (2, .int v2), (3, .int v3), (4, .int v4), (5, .int v5)]) hx hb dX10_chance_108 hl (k := 6) rfl (by rw [ex30]; rfl) (by decide) rfl (fun ls hl => ?_)
                  refine lv_goto (tgt := 54) hx hb dX10_chance_111 (by decide) ?_
                  obtain ⟨rfl, rfl⟩ := leaf h
                  exact hP0_54 rfl _ _ _ hP hS (lv_sub hl [2, 3, 4, 5, 6, 1, 0] rfl)
                · replace h := if_t c29 h
                  obtain ⟨x31, ex31⟩ : ∃ y : Int32, y = (v5 + (1 : Int32)) := ⟨_, rfl⟩
                  replace h := vl_ok ex31 h
                  refine lv_iinc (v := x31) (lv' := [(5, .int x31), (6, .long x27), (0, .ref (w.2.2.1 v0)), (2, .int v2), (3, .int v3), (4, .int v4), (8, .int v8)]) hx hb dX10_chance_105 hl (k := 5) rfl (by rw [ex31]; rfl) (by decide) rfl (fun ls hl => ?_)
                  obtain ⟨x32, ex32⟩ : ∃ y : Int32, y = (v8 + (1 : Int32)) := ⟨_, rfl⟩
                  replace h := vl_ok ex32 h
                  refine lv_iinc (v := x32) (lv' := [(8, .int x32), (5, .int x31), (6, .long x27), (0, .ref (w.2.2.1 v0)), (2, .int v2), (3, .int v3), (4, .int v4)]) hx hb dX10_chance_108 hl (k := 6) rfl (by rw [ex32]; rfl) (by decide) rfl (fun ls hl => ?_)
                  refine lv_goto (tgt := 54) hx hb dX10_chance_111 (by decide) ?_
                  obtain ⟨rfl, rfl⟩ := leaf h
                  exact hP0_54 rfl _ _ _ hP hS (lv_sub hl [3, 4, 5, 6, 1, 2, 0] rfl)
            · obtain ⟨x35, x36, x37, μ38⟩ := q34
              intro H locs ls hP hS hl
              have hP : fP w μ38 H := hP
              have hl : lv_has ls 9 [(5, .int x35)] := hl
              try dsimp only at h
              refine lv_iload hx hb dX10_chance_114 (lv_at hl 0 rfl) ?_
              exact r_iret C hr hP hS h dX10_chance_116
          · replace h := if_t c15 h
            refine lv_iconst (v := (-1)) hx hb dX10_chance_42 (by decide) ?_
            exact r_iret C hr hP hS h dX10_chance_43
      · replace h := if_f c3 h
        refine lv_iconst (v := (-1)) hx hb dX10_chance_15 (by decide) ?_
        exact r_iret C hr hP hS h dX10_chance_16

