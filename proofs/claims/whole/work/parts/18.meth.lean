def f_X10_out (v0 : Nat) (v1 : Int32) (μ : fMem) : Option (Int32 × fMem) :=
  if v1 < 0 then some ((-1 : Int32), μ) else if v1 < (μ.1 (v0 + 123) 0) then bd (f_X4_addStrike (v0 + 123) v1 μ) fun r4 μ3 => some (r4, μ3) else some ((-1 : Int32), μ)
def rm_X10_out : Room := { frames := 2, cells := 0, slots := 0, locals := 46 }
set_option maxHeartbeats 4000000 in
set_option maxRecDepth 100000 in
theorem m_X10_out (l : Launch) (w : fW) (hJ : fJ w) (hw : w.2.2.2 = sd 0) (v0 : Nat) (v1 : Int32) (hk0 : kd v0 = (4, 10)) (μ : fMem) {r : Int32} {μr : fMem} (h : f_X10_out v0 v1 μ = some (r, μr)) : Met l yX10_out (.code yX10_out cX10_out 2 (some .int) :: gw) rm_X10_out (fPc w [.ref (w.2.2.1 v0), .int v1] μ) (fQi w r μr) 0 0 (fA w) := by
  refine met_of hJ (by decide) ?_ (Nat.le_of_ble_eq_true rfl)
  generalize ([.ref (w.2.2.1 v0), .int v1] : List Value).toArray = args
  intro p e s m below meth c ls C hr hP hl hS
  obtain ⟨hx, hb, hml, hown, hts, hK, -, hlk, hT⟩ := id C
  have hl : lv_has ls 2 [(0, .ref (w.2.2.1 v0)), (1, .int v1)] := hl
  unfold f_X10_out at h
  refine lv_iload_n hx hb dX10_out_0 rfl (lv_at hl 1 rfl) ?_
  refine lv_if_lt (tgt := 15) hx hb dX10_out_1 (by decide) (fun c1 => ?_) (fun c1 => ?_)
  · replace h := if_t c1 h
    refine lv_iconst (v := (-1)) hx hb dX10_out_15 (by decide) ?_
    refine lv_goto (tgt := 27) hx hb dX10_out_16 (by decide) ?_
    exact r_iret C hr hP hS h dX10_out_27
  · replace h := if_f c1 h
    refine lv_iload_n hx hb dX10_out_4 rfl (lv_at hl 1 rfl) ?_
    refine lv_aload_n hx hb dX10_out_5 rfl (lv_at hl 0 rfl) ?_
    refine r_getF (off := 123) C hP (iw hw (fi_10 hk0)) hk0 fl_X10_60 rfl rfl (zw hw) dX10_out_6 ?_
    refine r_getI C hP (iw hw (ff_10_9 hk0).2) (ff_10_9 hk0).1 fl_X10_216 (Or.inl rfl) dX10_out_9 ?_
    refine lv_icmp_lt (tgt := 19) hx hb dX10_out_12 (by decide) (fun c2 => ?_) (fun c2 => ?_)
    · replace h := if_t c2 h
      refine lv_aload_n hx hb dX10_out_19 rfl (lv_at hl 0 rfl) ?_
      refine r_getF (off := 123) C hP (iw hw (fi_10 hk0)) hk0 fl_X10_60 rfl rfl (zw hw) dX10_out_20 ?_
      refine lv_iload_n hx hb dX10_out_23 rfl (lv_at hl 1 rfl) ?_
      obtain ⟨r4, μ3, h5, h⟩ := bd_ok h
      refine go_i (callV_run (As := [.int v1]) (rest := []) C hl hP (hS.wide hJ).2.1 (iw hw (ff_10_9 hk0).2) (ff_10_9 hk0).1 (m_X4_addStrike l w hJ hw (v0 + 123) v1 (ff_10_9 hk0).1 μ h5) mv_X10_319 ⟨rfl, rfl, by decide, by decide⟩ rfl rfl (Nat.le_of_ble_eq_true rfl) ⟨Nat.zero_le _, Nat.zero_le _⟩ dX10_out_24) hS (fun H locs hP hS => ?_)
      exact r_iret C hr hP hS h dX10_out_27
    · replace h := if_f c2 h
      refine lv_iconst (v := (-1)) hx hb dX10_out_15 (by decide) ?_
      refine lv_goto (tgt := 27) hx hb dX10_out_16 (by decide) ?_
      exact r_iret C hr hP hS h dX10_out_27

def f_X10_known (v0 : Nat) (v1 : Int32) (μ : fMem) : Option (Int32 × fMem) :=
  if v1 < (-1 : Int32) then gd (bl (0 : Int32)) (some ((0 : Int32), μ)) else if v1 ≤ (μ.1 (v0 + 123) 0) then vl (sI μ (v0 + 123) 1 v1) fun μ3 => gd (bl (1 : Int32)) (some ((1 : Int32), μ3)) else gd (bl (0 : Int32)) (some ((0 : Int32), μ))
def rm_X10_known : Room := { frames := 0, cells := 0, slots := 0, locals := 0 }
set_option maxHeartbeats 4000000 in
set_option maxRecDepth 100000 in
theorem m_X10_known (l : Launch) (w : fW) (hJ : fJ w) (hw : w.2.2.2 = sd 0) (v0 : Nat) (v1 : Int32) (hk0 : kd v0 = (4, 10)) (μ : fMem) {r : Int32} {μr : fMem} (h : f_X10_known v0 v1 μ = some (r, μr)) : Met l yX10_known (.code yX10_known cX10_known 2 (some .boolean) :: gw) rm_X10_known (fPc w [.ref (w.2.2.1 v0), .int v1] μ) (fQi w r μr) 0 0 (fA w) := by
  refine met_of hJ (by decide) ?_ (Nat.le_of_ble_eq_true rfl)
  generalize ([.ref (w.2.2.1 v0), .int v1] : List Value).toArray = args
  intro p e s m below meth c ls C hr hP hl hS
  obtain ⟨hx, hb, hml, hown, hts, hK, -, hlk, hT⟩ := id C
  have hl : lv_has ls 2 [(0, .ref (w.2.2.1 v0)), (1, .int v1)] := hl
  unfold f_X10_known at h
  refine lv_iload_n hx hb dX10_known_0 rfl (lv_at hl 1 rfl) ?_
  refine lv_iconst (v := (-1)) hx hb dX10_known_1 (by decide) ?_
  refine lv_icmp_lt (tgt := 16) hx hb dX10_known_2 (by decide) (fun c1 => ?_) (fun c1 => ?_)
  · replace h := if_t c1 h
    refine lv_iconst (v := (0)) hx hb dX10_known_16 (by decide) ?_
    exact r_zret C hr hP hS h dX10_known_17
  · replace h := if_f c1 h
    refine lv_iload_n hx hb dX10_known_5 rfl (lv_at hl 1 rfl) ?_
    refine lv_aload_n hx hb dX10_known_6 rfl (lv_at hl 0 rfl) ?_
    refine r_getF (off := 123) C hP (iw hw (fi_10 hk0)) hk0 fl_X10_60 rfl rfl (zw hw) dX10_known_7 ?_
    refine r_getI C hP (iw hw (ff_10_9 hk0).2) (ff_10_9 hk0).1 fl_X10_216 (Or.inl rfl) dX10_known_10 ?_
    refine lv_icmp_le (tgt := 18) hx hb dX10_known_13 (by decide) (fun c2 => ?_) (fun c2 => ?_)
    · replace h := if_t c2 h
      refine lv_aload_n hx hb dX10_known_18 rfl (lv_at hl 0 rfl) ?_
      refine r_getF (off := 123) C hP (iw hw (fi_10 hk0)) hk0 fl_X10_60 rfl rfl (zw hw) dX10_known_19 ?_
      refine lv_iload_n hx hb dX10_known_22 rfl (lv_at hl 1 rfl) ?_
      refine r_putI C hP hS (iw hw (ff_10_9 hk0).2) (ff_10_9 hk0).1 fp_X10_322 rfl dX10_known_23 (fun H locs hP hS => ?_)
      obtain ⟨μ3, eμ3, h⟩ := vl_ex h
      have hP : fP w μ3 H := by rw [eμ3]; exact hP
      refine lv_iconst (v := (1)) hx hb dX10_known_26 (by decide) ?_
      exact r_zret C hr hP hS h dX10_known_27
    · replace h := if_f c2 h
      refine lv_iconst (v := (0)) hx hb dX10_known_16 (by decide) ?_
      exact r_zret C hr hP hS h dX10_known_17

def f_X10_tastes_L25 (v0 : Nat) (v1 : Int32) (v2 : Int32) (v3 : Int32) (μ : fMem) : Option (Nat × (Int32 × Int32 × fMem)) :=
  if (9 : Int32) < v3 then some (1, (v2, v3, μ)) else vl (μ.2.2 v0 2) fun x11 => gd (kd x11 = (4, 2)) (bd (f_X7_enter (v0 + 78) x11 μ) fun r14 μ13 => vl (μ13.2.2 v0 2) fun x16 => gd (kd x16 = (4, 2)) (bd (f_X0_begin (v0 + 84) x16 (v0 + 78) μ13) fun r19 μ18 => vl (sI μ18 (v0 + 84) 4 v1) fun μ21 => vl (sI μ21 (v0 + 84) 5 v3) fun μ22 => bd (f_X4_holdOn (v0 + 123) (v0 + 84) (v0 + 78) μ22) fun r24 μ23 => if r24 = 0 then vl (v3 + (1 : Int32)) fun x27 => some (0, (v2, x27, μ23)) else vl (v2 ||| (shl (1 : Int32) v3)) fun x28 => vl (v3 + (1 : Int32)) fun x29 => some (0, (x28, x29, μ23))))
def f_X10_tastes (v0 : Nat) (v1 : Int32) (μ : fMem) : Option (Int32 × fMem) :=
  vl (μ.2.2 v0 2) fun x1 => gd (kd x1 = (4, 2)) (bd (f_X2_has x1 (3 : Int32) v1 μ) fun r4 μ3 => if r4 = 0 then some ((-1 : Int32), μ3) else bd (f_X4_strike (v0 + 123) μ3) fun r8 μ7 => bd (lpn (fun (q : Int32 × Int32 × fMem) => f_X10_tastes_L25 v0 v1 q.1 q.2.1 q.2.2) fuel ((0 : Int32), (0 : Int32), μ7)) fun t30 q31 => (fun (x32 : Int32) (x33 : Int32) (μ34 : fMem) => some (x32, μ34)) q31.1 q31.2.1 q31.2.2)
def rm_X10_tastes : Room := { frames := 7, cells := 0, slots := 0, locals := 230 }
set_option maxHeartbeats 4000000 in
set_option maxRecDepth 100000 in
theorem m_X10_tastes (l : Launch) (w : fW) (hJ : fJ w) (hw : w.2.2.2 = sd 0) (v0 : Nat) (v1 : Int32) (hk0 : kd v0 = (4, 10)) (μ : fMem) {r : Int32} {μr : fMem} (h : f_X10_tastes v0 v1 μ = some (r, μr)) : Met l yX10_tastes (.code yX10_tastes cX10_tastes 4 (some .int) :: gw) rm_X10_tastes (fPc w [.ref (w.2.2.1 v0), .int v1] μ) (fQi w r μr) 0 0 (fA w) := by
  refine met_of hJ (by decide) ?_ (Nat.le_of_ble_eq_true rfl)
  generalize ([.ref (w.2.2.1 v0), .int v1] : List Value).toArray = args
  intro p e s m below meth c ls C hr hP hl hS
  obtain ⟨hx, hb, hml, hown, hts, hK, -, hlk, hT⟩ := id C
  have hl : lv_has ls 4 [(0, .ref (w.2.2.1 v0)), (1, .int v1)] := hl
  unfold f_X10_tastes at h
  refine lv_aload_n hx hb dX10_tastes_0 rfl (lv_at hl 0 rfl) ?_
  refine r_getRx C hP (iw hw (fi_10 hk0)) hk0 fl_X10_22 rfl (zw hw) dX10_tastes_1 (fun x1 ex1 => ?_)
  replace h := vl_ok ex1 h
  obtain ⟨g2, h⟩ := gd_ok h
  refine lv_iconst (v := (3)) hx hb dX10_tastes_4 (by decide) ?_
  refine lv_iload_n hx hb dX10_tastes_5 rfl (lv_at hl 1 rfl) ?_
  obtain ⟨r4, μ3, h5, h⟩ := bd_ok h
  refine go_i (callV_run (As := [.int (3 : Int32), .int v1]) (rest := []) C hl hP (hS.wide hJ).2.1 (iw hw (fi_2 g2)) g2 (m_X2_has l w hJ hw x1 (3 : Int32) v1 g2 μ h5) mv_X10_121 ⟨rfl, rfl, by decide, by decide⟩ rfl rfl (Nat.le_of_ble_eq_true rfl) ⟨Nat.zero_le _, Nat.zero_le _⟩ dX10_tastes_6) hS (fun H locs hP hS => ?_)
  refine lv_if_ne (tgt := 14) hx hb dX10_tastes_9 (by decide) (fun c6 => ?_) (fun c6 => ?_)
  · replace h := if_f c6 h
    refine lv_aload_n hx hb dX10_tastes_14 rfl (lv_at hl 0 rfl) ?_
    refine r_getF (off := 123) C hP (iw hw (fi_10 hk0)) hk0 fl_X10_60 rfl rfl (zw hw) dX10_tastes_15 ?_
    obtain ⟨r8, μ7, h9, h⟩ := bd_ok h
    refine go_v (callV_run (As := []) (rest := []) C hl hP (hS.wide hJ).2.1 (iw hw (ff_10_9 hk0).2) (ff_10_9 hk0).1 (m_X4_strike l w hJ hw (v0 + 123) (ff_10_9 hk0).1 μ3 h9) mv_X10_325 ⟨rfl, rfl, by decide, by decide⟩ rfl rfl (Nat.le_of_ble_eq_true rfl) ⟨Nat.zero_le _, Nat.zero_le _⟩ dX10_tastes_18) hS (fun H locs hP hS => ?_)
    refine lv_iconst (v := (0)) hx hb dX10_tastes_21 (by decide) ?_
    refine lv_istore_n (lv' := [(2, .int (0 : Int32)), (0, .ref (w.2.2.1 v0)), (1, .int v1)]) hx hb dX10_tastes_22 rfl hl (by decide) rfl (fun ls hl => ?_)
    refine lv_iconst (v := (0)) hx hb dX10_tastes_23 (by decide) ?_
    refine lv_istore_n (lv' := [(3, .int (0 : Int32)), (2, .int (0 : Int32)), (0, .ref (w.2.2.1 v0)), (1, .int v1)]) hx hb dX10_tastes_24 rfl hl (by decide) rfl (fun ls hl => ?_)
    obtain ⟨t30, q31, h35, h⟩ := bd_ok h
    refine lpn_ind (b := (fun (q : Int32 × Int32 × fMem) => f_X10_tastes_L25 v0 v1 q.1 q.2.1 q.2.2)) (P := fun (q : Int32 × Int32 × fMem) => WW p l e rm_X10_tastes s m args below meth c (MQ below (fQi w r μr) args s 0 0 (fA w)) w q.2.2 4 25 [] [(0, .ref (w.2.2.1 v0)), (1, .int v1), (2, .int q.1), (3, .int q.2.1)]) (K := fun _ (q : Int32 × Int32 × fMem) => WW p l e rm_X10_tastes s m args below meth c (MQ below (fQi w r μr) args s 0 0 (fA w)) w q.2.2 4 103 [] [(2, .int q.1)]) ?_ fuel ((0 : Int32), (0 : Int32), μ7) t30 q31 h35 ?_ _ _ _ hP hS (lv_sub hl [2, 3, 1, 0] rfl)
    · intro q tz25 sz25 h hP0_25 hK0_25 H locs ls hP hS hl
      obtain ⟨v2, v3, μ⟩ := q
      have hP : fP w μ H := hP
      have hl : lv_has ls 4 [(0, .ref (w.2.2.1 v0)), (1, .int v1), (2, .int v2), (3, .int v3)] := hl
      have h : f_X10_tastes_L25 v0 v1 v2 v3 μ = some (tz25, sz25) := h
      unfold f_X10_tastes_L25 at h
      refine lv_iload_n hx hb dX10_tastes_25 rfl (lv_at hl 3 rfl) ?_
      refine lv_bipush (v := (9)) hx hb dX10_tastes_26 (by decide) ?_
      refine lv_icmp_gt (tgt := 103) hx hb dX10_tastes_28 (by decide) (fun c10 => ?_) (fun c10 => ?_)
      · replace h := if_t c10 h
        obtain ⟨rfl, rfl⟩ := leaf h
        exact (hK0_25 0 rfl) _ _ _ hP hS (lv_sub hl [2] rfl)
      · replace h := if_f c10 h
        refine lv_aload_n hx hb dX10_tastes_31 rfl (lv_at hl 0 rfl) ?_
        refine r_getF (off := 78) C hP (iw hw (fi_10 hk0)) hk0 fl_X10_47 rfl rfl (zw hw) dX10_tastes_32 ?_
        refine lv_aload_n hx hb dX10_tastes_35 rfl (lv_at hl 0 rfl) ?_
        refine r_getRx C hP (iw hw (fi_10 hk0)) hk0 fl_X10_22 rfl (zw hw) dX10_tastes_36 (fun x11 ex11 => ?_)
        replace h := vl_ok ex11 h
        obtain ⟨g12, h⟩ := gd_ok h
        obtain ⟨r14, μ13, h15, h⟩ := bd_ok h
        refine go_v (callV_run (As := [.ref (w.2.2.1 x11)]) (rest := []) C hl hP (hS.wide hJ).2.1 (iw hw (ff_10_7 hk0).2) (ff_10_7 hk0).1 (m_X7_enter l w hJ hw (v0 + 78) x11 (ff_10_7 hk0).1 g12 μ h15) mv_X10_97 ⟨rfl, rfl, by decide, by decide⟩ rfl rfl (Nat.le_of_ble_eq_true rfl) ⟨Nat.zero_le _, Nat.zero_le _⟩ dX10_tastes_39) hS (fun H locs hP hS => ?_)
        refine lv_aload_n hx hb dX10_tastes_42 rfl (lv_at hl 0 rfl) ?_
        refine r_getF (off := 84) C hP (iw hw (fi_10 hk0)) hk0 fl_X10_53 rfl rfl (zw hw) dX10_tastes_43 ?_
        refine lv_aload_n hx hb dX10_tastes_46 rfl (lv_at hl 0 rfl) ?_
        refine r_getRx C hP (iw hw (fi_10 hk0)) hk0 fl_X10_22 rfl (zw hw) dX10_tastes_47 (fun x16 ex16 => ?_)
        replace h := vl_ok ex16 h
        obtain ⟨g17, h⟩ := gd_ok h
        refine lv_aload_n hx hb dX10_tastes_50 rfl (lv_at hl 0 rfl) ?_
        refine r_getF (off := 78) C hP (iw hw (fi_10 hk0)) hk0 fl_X10_47 rfl rfl (zw hw) dX10_tastes_51 ?_
        obtain ⟨r19, μ18, h20, h⟩ := bd_ok h
        refine go_v (callV_run (As := [.ref (w.2.2.1 x16), .ref (w.2.2.1 (v0 + 78))]) (rest := []) C hl hP (hS.wide hJ).2.1 (iw hw (ff_10_8 hk0).2) (ff_10_8 hk0).1 (m_X0_begin l w hJ hw (v0 + 84) x16 (v0 + 78) (ff_10_8 hk0).1 g17 (ff_10_7 hk0).1 μ13 h20) mv_X10_189 ⟨rfl, rfl, by decide, by decide⟩ rfl rfl (Nat.le_of_ble_eq_true rfl) ⟨Nat.zero_le _, Nat.zero_le _⟩ dX10_tastes_54) hS (fun H locs hP hS => ?_)
        refine lv_aload_n hx hb dX10_tastes_57 rfl (lv_at hl 0 rfl) ?_
        refine r_getF (off := 84) C hP (iw hw (fi_10 hk0)) hk0 fl_X10_53 rfl rfl (zw hw) dX10_tastes_58 ?_
        refine lv_iload_n hx hb dX10_tastes_61 rfl (lv_at hl 1 rfl) ?_
        refine r_putI C hP hS (iw hw (ff_10_8 hk0).2) (ff_10_8 hk0).1 fp_X10_328 rfl dX10_tastes_62 (fun H locs hP hS => ?_)
        obtain ⟨μ21, eμ21, h⟩ := vl_ex h
        have hP : fP w μ21 H := by rw [eμ21]; exact hP
        refine lv_aload_n hx hb dX10_tastes_65 rfl (lv_at hl 0 rfl) ?_
        refine r_getF (off := 84) C hP (iw hw (fi_10 hk0)) hk0 fl_X10_53 rfl rfl (zw hw) dX10_tastes_66 ?_
        refine lv_iload_n hx hb dX10_tastes_69 rfl (lv_at hl 3 rfl) ?_
        refine r_putI C hP hS (iw hw (ff_10_8 hk0).2) (ff_10_8 hk0).1 fp_X10_331 rfl dX10_tastes_70 (fun H locs hP hS => ?_)
        obtain ⟨μ22, eμ22, h⟩ := vl_ex h
        have hP : fP w μ22 H := by rw [eμ22]; exact hP
        refine lv_aload_n hx hb dX10_tastes_73 rfl (lv_at hl 0 rfl) ?_
        refine r_getF (off := 123) C hP (iw hw (fi_10 hk0)) hk0 fl_X10_60 rfl rfl (zw hw) dX10_tastes_74 ?_
        refine lv_aload_n hx hb dX10_tastes_77 rfl (lv_at hl 0 rfl) ?_
        refine r_getF (off := 84) C hP (iw hw (fi_10 hk0)) hk0 fl_X10_53 rfl rfl (zw hw) dX10_tastes_78 ?_
        refine lv_aload_n hx hb dX10_tastes_81 rfl (lv_at hl 0 rfl) ?_
        refine r_getF (off := 78) C hP (iw hw (fi_10 hk0)) hk0 fl_X10_47 rfl rfl (zw hw) dX10_tastes_82 ?_
        obtain ⟨r24, μ23, h25, h⟩ := bd_ok h
        refine go_i (callV_run (As := [.ref (w.2.2.1 (v0 + 84)), .ref (w.2.2.1 (v0 + 78))]) (rest := []) C hl hP (hS.wide hJ).2.1 (iw hw (ff_10_9 hk0).2) (ff_10_9 hk0).1 (m_X4_holdOn l w hJ hw (v0 + 123) (v0 + 84) (v0 + 78) (ff_10_9 hk0).1 (ff_10_8 hk0).1 (ff_10_7 hk0).1 μ22 h25) mv_X10_334 ⟨rfl, rfl, by decide, by decide⟩ rfl rfl (Nat.le_of_ble_eq_true rfl) ⟨Nat.zero_le _, Nat.zero_le _⟩ dX10_tastes_85) hS (fun H locs hP hS => ?_)
        refine lv_if_eq (tgt := 97) hx hb dX10_tastes_88 (by decide) (fun c26 => ?_) (fun c26 => ?_)
        · replace h := if_t c26 h
          obtain ⟨x27, ex27⟩ : ∃ y : Int32, y = (v3 + (1 : Int32)) := ⟨_, rfl⟩
          replace h := vl_ok ex27 h
          refine lv_iinc (v := x27) (lv' := [(3, .int x27), (0, .ref (w.2.2.1 v0)), (1, .int v1), (2, .int v2)]) hx hb dX10_tastes_97 hl (k := 3) rfl (by rw [ex27]; rfl) (by decide) rfl (fun ls hl => ?_)
          refine lv_goto (tgt := 25) hx hb dX10_tastes_100 (by decide) ?_
          obtain ⟨rfl, rfl⟩ := leaf h
          exact hP0_25 rfl _ _ _ hP hS (lv_sub hl [1, 2, 3, 0] rfl)
        · replace h := if_f c26 h
          refine lv_iload_n hx hb dX10_tastes_91 rfl (lv_at hl 2 rfl) ?_
          refine lv_iconst (v := (1)) hx hb dX10_tastes_92 (by decide) ?_
          refine lv_iload_n hx hb dX10_tastes_93 rfl (lv_at hl 3 rfl) ?_
          refine r_ishl hx hb dX10_tastes_94 ?_
          refine lv_ior hx hb dX10_tastes_95 ?_
          refine lv_topi (fun x28 ex28 => ?_)
          replace h := vl_ok ex28 h
          refine lv_istore_n (lv' := [(2, .int x28), (0, .ref (w.2.2.1 v0)), (1, .int v1), (3, .int v3)]) hx hb dX10_tastes_96 rfl hl (by decide) rfl (fun ls hl => ?_)
          obtain ⟨x29, ex29⟩ : ∃ y : Int32, y = (v3 + (1 : Int32)) := ⟨_, rfl⟩
          replace h := vl_ok ex29 h
          refine lv_iinc (v := x29) (lv' := [(3, .int x29), (2, .int x28), (0, .ref (w.2.2.1 v0)), (1, .int v1)]) hx hb dX10_tastes_97 hl (k := 3) rfl (by rw [ex29]; rfl) (by decide) rfl (fun ls hl => ?_)
          refine lv_goto (tgt := 25) hx hb dX10_tastes_100 (by decide) ?_
          obtain ⟨rfl, rfl⟩ := leaf h
          exact hP0_25 rfl _ _ _ hP hS (lv_sub hl [2, 3, 1, 0] rfl)
    · obtain ⟨x32, x33, μ34⟩ := q31
      intro H locs ls hP hS hl
      have hP : fP w μ34 H := hP
      have hl : lv_has ls 4 [(2, .int x32)] := hl
      try dsimp only at h
      refine lv_iload_n hx hb dX10_tastes_103 rfl (lv_at hl 0 rfl) ?_
      exact r_iret C hr hP hS h dX10_tastes_104
  · replace h := if_t c6 h
    refine lv_iconst (v := (-1)) hx hb dX10_tastes_12 (by decide) ?_
    exact r_iret C hr hP hS h dX10_tastes_13

def f_X11_thrown (v0 : Nat) (μ : fMem) : Option (Int32 × fMem) :=
  some ((μ.1 v0 0), μ)
def rm_X11_thrown : Room := { frames := 0, cells := 0, slots := 0, locals := 0 }
set_option maxHeartbeats 4000000 in
set_option maxRecDepth 100000 in
theorem m_X11_thrown (l : Launch) (w : fW) (hJ : fJ w) (hw : w.2.2.2 = sd 1) (v0 : Nat) (hk0 : kd v0 = (4, 11)) (μ : fMem) {r : Int32} {μr : fMem} (h : f_X11_thrown v0 μ = some (r, μr)) : Met l yX11_thrown (.code yX11_thrown cX11_thrown 1 (some .int) :: gw) rm_X11_thrown (fPc w [.ref (w.2.2.1 v0)] μ) (fQi w r μr) 0 0 (fA w) := by
  refine met_of hJ (by decide) ?_ (Nat.le_of_ble_eq_true rfl)
  generalize ([.ref (w.2.2.1 v0)] : List Value).toArray = args
  intro p e s m below meth c ls C hr hP hl hS
  obtain ⟨hx, hb, hml, hown, hts, hK, -, hlk, hT⟩ := id C
  have hl : lv_has ls 1 [(0, .ref (w.2.2.1 v0))] := hl
  unfold f_X11_thrown at h
  refine lv_aload_n hx hb dX11_thrown_0 rfl (lv_at hl 0 rfl) ?_
  refine r_getI C hP (iw hw (fi_11 hk0)) hk0 fl_X11_148 (Or.inl rfl) dX11_thrown_1 ?_
  exact r_iret C hr hP hS h dX11_thrown_4

def f_X11_feed_j73 (v0 : Nat) (v1 : Int32) (v2 : Int32) (v3 : Int32) (v4 : Int32) (v5 : Int32) (v6 : Int32) (t0 : Int32) (μ : fMem) : Option (Nat × (Int32 × fMem)) :=
  gd (ixo ((μ.1 v0 2) + v6) 700) (vl (sI μ (v0 + 1) (Int32.toNatClampNeg ((μ.1 v0 2) + v6)) ((shr t0 ((24 : Int32) - ((8 : Int32) * (irm v6 (4 : Int32))))) &&& (255 : Int32))) fun μ8 => vl (v6 + (1 : Int32)) fun x10 => some (0, (x10, μ8)))
def f_X11_feed_L20 (v0 : Nat) (v1 : Int32) (v2 : Int32) (v3 : Int32) (v4 : Int32) (v5 : Int32) (v6 : Int32) (μ : fMem) : Option (Nat × (Int32 × fMem)) :=
  if (20 : Int32) ≤ v6 then some (1, (v6, μ)) else if (4 : Int32) ≤ v6 then if (8 : Int32) ≤ v6 then if (12 : Int32) ≤ v6 then if (16 : Int32) ≤ v6 then f_X11_feed_j73 v0 v1 v2 v3 v4 v5 v6 v5 μ else f_X11_feed_j73 v0 v1 v2 v3 v4 v5 v6 v4 μ else f_X11_feed_j73 v0 v1 v2 v3 v4 v5 v6 v3 μ else f_X11_feed_j73 v0 v1 v2 v3 v4 v5 v6 v2 μ else f_X11_feed_j73 v0 v1 v2 v3 v4 v5 v6 v1 μ
def f_X11_feed (v0 : Nat) (v1 : Int32) (v2 : Int32) (v3 : Int32) (v4 : Int32) (v5 : Int32) (μ : fMem) : Option (Int32 × fMem) :=
  vl (sI μ v0 0 (0 : Int32)) fun μ1 => if (μ1.1 v0 2) ≤ (680 : Int32) then bd (lpn (fun (q : Int32 × fMem) => f_X11_feed_L20 v0 v1 v2 v3 v4 v5 q.1 q.2) fuel ((0 : Int32), μ1)) fun t11 q12 => (fun (x13 : Int32) (μ14 : fMem) => vl (sI μ14 v0 2 ((μ14.1 v0 2) + (20 : Int32))) fun μ15 => some ((μ15.1 v0 2), μ15)) q12.1 q12.2 else some ((-1 : Int32), μ1)
def rm_X11_feed : Room := { frames := 0, cells := 0, slots := 0, locals := 0 }
set_option maxHeartbeats 4000000 in
set_option maxRecDepth 100000 in
theorem m_X11_feed (l : Launch) (w : fW) (hJ : fJ w) (hw : w.2.2.2 = sd 1) (v0 : Nat) (v1 : Int32) (v2 : Int32) (v3 : Int32) (v4 : Int32) (v5 : Int32) (hk0 : kd v0 = (4, 11)) (μ : fMem) {r : Int32} {μr : fMem} (h : f_X11_feed v0 v1 v2 v3 v4 v5 μ = some (r, μr)) : Met l yX11_feed (.code yX11_feed cX11_feed 8 (some .int) :: gw) rm_X11_feed (fPc w [.ref (w.2.2.1 v0), .int v1, .int v2, .int v3, .int v4, .int v5] μ) (fQi w r μr) 0 0 (fA w) := by
  refine met_of hJ (by decide) ?_ (Nat.le_of_ble_eq_true rfl)
  generalize ([.ref (w.2.2.1 v0), .int v1, .int v2, .int v3, .int v4, .int v5] : List Value).toArray = args
  intro p e s m below meth c ls C hr hP hl hS
  obtain ⟨hx, hb, hml, hown, hts, hK, -, hlk, hT⟩ := id C
  have hl : lv_has ls 8 [(0, .ref (w.2.2.1 v0)), (1, .int v1), (2, .int v2), (3, .int v3), (4, .int v4), (5, .int v5)] := hl
  unfold f_X11_feed at h
  refine lv_aload_n hx hb dX11_feed_0 rfl (lv_at hl 0 rfl) ?_
  refine lv_iconst (v := (0)) hx hb dX11_feed_1 (by decide) ?_
  refine r_putI C hP hS (iw hw (fi_11 hk0)) hk0 fp_X11_148 rfl dX11_feed_2 (fun H locs hP hS => ?_)
  obtain ⟨μ1, eμ1, h⟩ := vl_ex h
  have hP : fP w μ1 H := by rw [eμ1]; exact hP
  refine lv_aload_n hx hb dX11_feed_5 rfl (lv_at hl 0 rfl) ?_
  refine r_getI C hP (iw hw (fi_11 hk0)) hk0 fl_X11_151 (Or.inl rfl) dX11_feed_6 ?_
  refine lv_sipush (v := (680)) hx hb dX11_feed_9 (by decide) ?_
  refine lv_icmp_le (tgt := 17) hx hb dX11_feed_12 (by decide) (fun c2 => ?_) (fun c2 => ?_)
  · replace h := if_t c2 h
    refine lv_iconst (v := (0)) hx hb dX11_feed_17 (by decide) ?_
    refine lv_istore (lv' := [(6, .int (0 : Int32)), (0, .ref (w.2.2.1 v0)), (1, .int v1), (2, .int v2), (3, .int v3), (4, .int v4), (5, .int v5)]) hx hb dX11_feed_18 hl (by decide) rfl (fun ls hl => ?_)
    obtain ⟨t11, q12, h16, h⟩ := bd_ok h
    refine lpn_ind (b := (fun (q : Int32 × fMem) => f_X11_feed_L20 v0 v1 v2 v3 v4 v5 q.1 q.2)) (P := fun (q : Int32 × fMem) => WW p l e rm_X11_feed s m args below meth c (MQ below (fQi w r μr) args s 0 0 (fA w)) w q.2 8 20 [] [(0, .ref (w.2.2.1 v0)), (1, .int v1), (2, .int v2), (3, .int v3), (4, .int v4), (5, .int v5), (6, .int q.1)]) (K := fun _ (q : Int32 × fMem) => WW p l e rm_X11_feed s m args below meth c (MQ below (fQi w r μr) args s 0 0 (fA w)) w q.2 8 110 [] [(0, .ref (w.2.2.1 v0))]) ?_ fuel ((0 : Int32), μ1) t11 q12 h16 ?_ _ _ _ hP hS (lv_sub hl [1, 2, 3, 4, 5, 6, 0] rfl)
    · intro q tz20 sz20 h hP0_20 hK0_20 H locs ls hP hS hl
      obtain ⟨v6, μ⟩ := q
      have hP : fP w μ H := hP
      have hl : lv_has ls 8 [(0, .ref (w.2.2.1 v0)), (1, .int v1), (2, .int v2), (3, .int v3), (4, .int v4), (5, .int v5), (6, .int v6)] := hl
      have h : f_X11_feed_L20 v0 v1 v2 v3 v4 v5 v6 μ = some (tz20, sz20) := h
      unfold f_X11_feed_L20 at h
      have J73 : ∀ (v6 : Int32) (t0 : Int32) (μ : fMem), f_X11_feed_j73 v0 v1 v2 v3 v4 v5 v6 t0 μ = some (tz20, sz20) → WW p l e rm_X11_feed s m args below meth c (MQ below (fQi w r μr) args s 0 0 (fA w)) w μ 8 73 [.int t0] [(0, .ref (w.2.2.1 v0)), (1, .int v1), (2, .int v2), (3, .int v3), (4, .int v4), (5, .int v5), (6, .int v6)] := by
        intro v6 t0 μ  h H locs ls hP hS hl
        unfold f_X11_feed_j73 at h
        refine lv_istore (lv' := [(7, .int t0), (0, .ref (w.2.2.1 v0)), (1, .int v1), (2, .int v2), (3, .int v3), (4, .int v4), (5, .int v5), (6, .int v6)]) hx hb dX11_feed_73 hl (by decide) rfl (fun ls hl => ?_)
        refine lv_aload_n hx hb dX11_feed_75 rfl (lv_at hl 1 rfl) ?_
        refine r_getF (off := 1) C hP (iw hw (fi_11 hk0)) hk0 fl_X11_7 rfl rfl (zw hw) dX11_feed_76 ?_
        refine lv_aload_n hx hb dX11_feed_79 rfl (lv_at hl 1 rfl) ?_
        refine r_getI C hP (iw hw (fi_11 hk0)) hk0 fl_X11_151 (Or.inl rfl) dX11_feed_80 ?_
        refine lv_iload hx hb dX11_feed_83 (lv_at hl 7 rfl) ?_
        refine lv_iadd hx hb dX11_feed_85 ?_
        refine lv_iload hx hb dX11_feed_86 (lv_at hl 0 rfl) ?_
        refine lv_bipush (v := (24)) hx hb dX11_feed_88 (by decide) ?_
        refine lv_bipush (v := (8)) hx hb dX11_feed_90 (by decide) ?_
        refine lv_iload hx hb dX11_feed_92 (lv_at hl 7 rfl) ?_
        refine lv_iconst (v := (4)) hx hb dX11_feed_94 (by decide) ?_
        refine r_irem hx hb dX11_feed_95 (by decide) ?_
        refine lv_imul hx hb dX11_feed_96 ?_
        refine lv_isub hx hb dX11_feed_97 ?_
        refine r_ishr hx hb dX11_feed_98 ?_
        refine lv_sipush (v := (255)) hx hb dX11_feed_99 (by decide) ?_
        refine lv_iand hx hb dX11_feed_102 ?_
        obtain ⟨g9, h⟩ := gd_ok h
        refine r_iast C hP hS (iw hw (ff_11_1 hk0).2) (ff_11_1 hk0).1 g9 dX11_feed_103 (fun H locs hP hS => ?_)
        obtain ⟨μ8, eμ8, h⟩ := vl_ex h
        have hP : fP w μ8 H := by rw [eμ8]; exact hP
        obtain ⟨x10, ex10⟩ : ∃ y : Int32, y = (v6 + (1 : Int32)) := ⟨_, rfl⟩
        replace h := vl_ok ex10 h
        refine lv_iinc (v := x10) (lv' := [(6, .int x10), (7, .int t0), (0, .ref (w.2.2.1 v0)), (1, .int v1), (2, .int v2), (3, .int v3), (4, .int v4), (5, .int v5)]) hx hb dX11_feed_104 hl (k := 7) rfl (by rw [ex10]; rfl) (by decide) rfl (fun ls hl => ?_)
        refine lv_goto (tgt := 20) hx hb dX11_feed_107 (by decide) ?_
        obtain ⟨rfl, rfl⟩ := leaf h
        exact hP0_20 rfl _ _ _ hP hS (lv_sub hl [2, 3, 4, 5, 6, 7, 0] rfl)
      refine lv_iload hx hb dX11_feed_20 (lv_at hl 6 rfl) ?_
      refine lv_bipush (v := (20)) hx hb dX11_feed_22 (by decide) ?_
      refine lv_icmp_ge (tgt := 110) hx hb dX11_feed_24 (by decide) (fun c3 => ?_) (fun c3 => ?_)
      · replace h := if_t c3 h
        obtain ⟨rfl, rfl⟩ := leaf h
        exact (hK0_20 0 rfl) _ _ _ hP hS (lv_sub hl [0] rfl)
      · replace h := if_f c3 h
        refine lv_iload hx hb dX11_feed_27 (lv_at hl 6 rfl) ?_
        refine lv_iconst (v := (4)) hx hb dX11_feed_29 (by decide) ?_
        refine lv_icmp_ge (tgt := 37) hx hb dX11_feed_30 (by decide) (fun c4 => ?_) (fun c4 => ?_)
        · replace h := if_t c4 h
          refine lv_iload hx hb dX11_feed_37 (lv_at hl 6 rfl) ?_
          refine lv_bipush (v := (8)) hx hb dX11_feed_39 (by decide) ?_
          refine lv_icmp_ge (tgt := 48) hx hb dX11_feed_41 (by decide) (fun c5 => ?_) (fun c5 => ?_)
          · replace h := if_t c5 h
            refine lv_iload hx hb dX11_feed_48 (lv_at hl 6 rfl) ?_
            refine lv_bipush (v := (12)) hx hb dX11_feed_50 (by decide) ?_
            refine lv_icmp_ge (tgt := 59) hx hb dX11_feed_52 (by decide) (fun c6 => ?_) (fun c6 => ?_)
            · replace h := if_t c6 h
              refine lv_iload hx hb dX11_feed_59 (lv_at hl 6 rfl) ?_
              refine lv_bipush (v := (16)) hx hb dX11_feed_61 (by decide) ?_
              refine lv_icmp_ge (tgt := 71) hx hb dX11_feed_63 (by decide) (fun c7 => ?_) (fun c7 => ?_)
              · replace h := if_t c7 h
                refine lv_iload hx hb dX11_feed_71 (lv_at hl 5 rfl) ?_
                exact J73 v6 v5 μ  h _ _ _ hP hS (lv_sub hl [0, 1, 2, 3, 4, 5, 6] rfl)
              · replace h := if_f c7 h
                refine lv_iload hx hb dX11_feed_66 (lv_at hl 4 rfl) ?_
                refine lv_goto (tgt := 73) hx hb dX11_feed_68 (by decide) ?_
                exact J73 v6 v4 μ  h _ _ _ hP hS (lv_sub hl [0, 1, 2, 3, 4, 5, 6] rfl)
            · replace h := if_f c6 h
              refine lv_iload_n hx hb dX11_feed_55 rfl (lv_at hl 3 rfl) ?_
              refine lv_goto (tgt := 73) hx hb dX11_feed_56 (by decide) ?_
              exact J73 v6 v3 μ  h _ _ _ hP hS (lv_sub hl [0, 1, 2, 3, 4, 5, 6] rfl)
          · replace h := if_f c5 h
            refine lv_iload_n hx hb dX11_feed_44 rfl (lv_at hl 2 rfl) ?_
            refine lv_goto (tgt := 73) hx hb dX11_feed_45 (by decide) ?_
            exact J73 v6 v2 μ  h _ _ _ hP hS (lv_sub hl [0, 1, 2, 3, 4, 5, 6] rfl)
        · replace h := if_f c4 h
          refine lv_iload_n hx hb dX11_feed_33 rfl (lv_at hl 1 rfl) ?_
          refine lv_goto (tgt := 73) hx hb dX11_feed_34 (by decide) ?_
          exact J73 v6 v1 μ  h _ _ _ hP hS (lv_sub hl [0, 1, 2, 3, 4, 5, 6] rfl)
    · obtain ⟨x13, μ14⟩ := q12
      intro H locs ls hP hS hl
      have hP : fP w μ14 H := hP
      have hl : lv_has ls 8 [(0, .ref (w.2.2.1 v0))] := hl
      try dsimp only at h
      refine lv_aload_n hx hb dX11_feed_110 rfl (lv_at hl 0 rfl) ?_
      refine lv_dup hx hb dX11_feed_111 rfl ?_
      refine r_getI C hP (iw hw (fi_11 hk0)) hk0 fl_X11_151 (Or.inl rfl) dX11_feed_112 ?_
      refine lv_bipush (v := (20)) hx hb dX11_feed_115 (by decide) ?_
      refine lv_iadd hx hb dX11_feed_117 ?_
      refine r_putI C hP hS (iw hw (fi_11 hk0)) hk0 fp_X11_151 rfl dX11_feed_118 (fun H locs hP hS => ?_)
      obtain ⟨μ15, eμ15, h⟩ := vl_ex h
      have hP : fP w μ15 H := by rw [eμ15]; exact hP
      refine lv_aload_n hx hb dX11_feed_121 rfl (lv_at hl 0 rfl) ?_
      refine r_getI C hP (iw hw (fi_11 hk0)) hk0 fl_X11_151 (Or.inl rfl) dX11_feed_122 ?_
      exact r_iret C hr hP hS h dX11_feed_125
  · replace h := if_f c2 h
    refine lv_iconst (v := (-1)) hx hb dX11_feed_15 (by decide) ?_
    exact r_iret C hr hP hS h dX11_feed_16

def f_X11_here (v0 : Nat) (μ : fMem) : Option (Int32 × fMem) :=
  if (μ.1 v0 23) ≤ (μ.1 v0 24) then some ((-1 : Int32), μ) else gd (ixo (μ.1 v0 24) 700) (some ((μ.1 (v0 + 1) (Int32.toNatClampNeg (μ.1 v0 24))), μ))
def rm_X11_here : Room := { frames := 0, cells := 0, slots := 0, locals := 0 }
set_option maxHeartbeats 4000000 in
set_option maxRecDepth 100000 in
theorem m_X11_here (l : Launch) (w : fW) (hJ : fJ w) (hw : w.2.2.2 = sd 1) (v0 : Nat) (hk0 : kd v0 = (4, 11)) (μ : fMem) {r : Int32} {μr : fMem} (h : f_X11_here v0 μ = some (r, μr)) : Met l yX11_here (.code yX11_here cX11_here 1 (some .int) :: gw) rm_X11_here (fPc w [.ref (w.2.2.1 v0)] μ) (fQi w r μr) 0 0 (fA w) := by
  refine met_of hJ (by decide) ?_ (Nat.le_of_ble_eq_true rfl)
  generalize ([.ref (w.2.2.1 v0)] : List Value).toArray = args
  intro p e s m below meth c ls C hr hP hl hS
  obtain ⟨hx, hb, hml, hown, hts, hK, -, hlk, hT⟩ := id C
  have hl : lv_has ls 1 [(0, .ref (w.2.2.1 v0))] := hl
  unfold f_X11_here at h
  refine lv_aload_n hx hb dX11_here_0 rfl (lv_at hl 0 rfl) ?_
  refine r_getI C hP (iw hw (fi_11 hk0)) hk0 fl_X11_154 (Or.inl rfl) dX11_here_1 ?_
  refine lv_aload_n hx hb dX11_here_4 rfl (lv_at hl 0 rfl) ?_
  refine r_getI C hP (iw hw (fi_11 hk0)) hk0 fl_X11_157 (Or.inl rfl) dX11_here_5 ?_
  refine lv_icmp_ge (tgt := 23) hx hb dX11_here_8 (by decide) (fun c1 => ?_) (fun c1 => ?_)
  · replace h := if_t c1 h
    refine lv_iconst (v := (-1)) hx hb dX11_here_23 (by decide) ?_
    exact r_iret C hr hP hS h dX11_here_24
  · replace h := if_f c1 h
    refine lv_aload_n hx hb dX11_here_11 rfl (lv_at hl 0 rfl) ?_
    refine r_getF (off := 1) C hP (iw hw (fi_11 hk0)) hk0 fl_X11_7 rfl rfl (zw hw) dX11_here_12 ?_
    refine lv_aload_n hx hb dX11_here_15 rfl (lv_at hl 0 rfl) ?_
    refine r_getI C hP (iw hw (fi_11 hk0)) hk0 fl_X11_154 (Or.inl rfl) dX11_here_16 ?_
    obtain ⟨g2, h⟩ := gd_ok h
    refine r_iald C hP (iw hw (ff_11_1 hk0).2) (ff_11_1 hk0).1 g2 dX11_here_19 ?_
    refine lv_goto (tgt := 24) hx hb dX11_here_20 (by decide) ?_
    exact r_iret C hr hP hS h dX11_here_24

def f_X11_isSmall (v0 : Int32) (μ : fMem) : Option (Int32 × fMem) :=
  if v0 < (97 : Int32) then gd (bl (0 : Int32)) (some ((0 : Int32), μ)) else if (122 : Int32) < v0 then gd (bl (0 : Int32)) (some ((0 : Int32), μ)) else gd (bl (1 : Int32)) (some ((1 : Int32), μ))
def rm_X11_isSmall : Room := { frames := 0, cells := 0, slots := 0, locals := 0 }
set_option maxHeartbeats 4000000 in
set_option maxRecDepth 100000 in
theorem m_X11_isSmall (l : Launch) (w : fW) (hJ : fJ w) (hw : w.2.2.2 = sd 1) (v0 : Int32) (μ : fMem) {r : Int32} {μr : fMem} (h : f_X11_isSmall v0 μ = some (r, μr)) : Met l yX11_isSmall (.code yX11_isSmall cX11_isSmall 1 (some .boolean) :: gw) rm_X11_isSmall (fPc w [.int v0] μ) (fQi w r μr) 0 0 (fA w) := by
  refine met_of hJ (by decide) ?_ (Nat.le_of_ble_eq_true rfl)
  generalize ([.int v0] : List Value).toArray = args
  intro p e s m below meth c ls C hr hP hl hS
  obtain ⟨hx, hb, hml, hown, hts, hK, -, hlk, hT⟩ := id C
  have hl : lv_has ls 1 [(0, .int v0)] := hl
  unfold f_X11_isSmall at h
  refine lv_iload_n hx hb dX11_isSmall_0 rfl (lv_at hl 0 rfl) ?_
  refine lv_bipush (v := (97)) hx hb dX11_isSmall_1 (by decide) ?_
  refine lv_icmp_lt (tgt := 16) hx hb dX11_isSmall_3 (by decide) (fun c1 => ?_) (fun c1 => ?_)
  · replace h := if_t c1 h
    refine lv_iconst (v := (0)) hx hb dX11_isSmall_16 (by decide) ?_
    exact r_zret C hr hP hS h dX11_isSmall_17
  · replace h := if_f c1 h
    refine lv_iload_n hx hb dX11_isSmall_6 rfl (lv_at hl 0 rfl) ?_
    refine lv_bipush (v := (122)) hx hb dX11_isSmall_7 (by decide) ?_
    refine lv_icmp_gt (tgt := 16) hx hb dX11_isSmall_9 (by decide) (fun c2 => ?_) (fun c2 => ?_)
    · replace h := if_t c2 h
      refine lv_iconst (v := (0)) hx hb dX11_isSmall_16 (by decide) ?_
      exact r_zret C hr hP hS h dX11_isSmall_17
    · replace h := if_f c2 h
      refine lv_iconst (v := (1)) hx hb dX11_isSmall_12 (by decide) ?_
      refine lv_goto (tgt := 17) hx hb dX11_isSmall_13 (by decide) ?_
      exact r_zret C hr hP hS h dX11_isSmall_17

def f_X11_isDigit (v0 : Int32) (μ : fMem) : Option (Int32 × fMem) :=
  if v0 < (48 : Int32) then gd (bl (0 : Int32)) (some ((0 : Int32), μ)) else if (57 : Int32) < v0 then gd (bl (0 : Int32)) (some ((0 : Int32), μ)) else gd (bl (1 : Int32)) (some ((1 : Int32), μ))
def rm_X11_isDigit : Room := { frames := 0, cells := 0, slots := 0, locals := 0 }
set_option maxHeartbeats 4000000 in
set_option maxRecDepth 100000 in
theorem m_X11_isDigit (l : Launch) (w : fW) (hJ : fJ w) (hw : w.2.2.2 = sd 1) (v0 : Int32) (μ : fMem) {r : Int32} {μr : fMem} (h : f_X11_isDigit v0 μ = some (r, μr)) : Met l yX11_isDigit (.code yX11_isDigit cX11_isDigit 1 (some .boolean) :: gw) rm_X11_isDigit (fPc w [.int v0] μ) (fQi w r μr) 0 0 (fA w) := by
  refine met_of hJ (by decide) ?_ (Nat.le_of_ble_eq_true rfl)
  generalize ([.int v0] : List Value).toArray = args
  intro p e s m below meth c ls C hr hP hl hS
  obtain ⟨hx, hb, hml, hown, hts, hK, -, hlk, hT⟩ := id C
  have hl : lv_has ls 1 [(0, .int v0)] := hl
  unfold f_X11_isDigit at h
  refine lv_iload_n hx hb dX11_isDigit_0 rfl (lv_at hl 0 rfl) ?_
  refine lv_bipush (v := (48)) hx hb dX11_isDigit_1 (by decide) ?_
  refine lv_icmp_lt (tgt := 16) hx hb dX11_isDigit_3 (by decide) (fun c1 => ?_) (fun c1 => ?_)
  · replace h := if_t c1 h
    refine lv_iconst (v := (0)) hx hb dX11_isDigit_16 (by decide) ?_
    exact r_zret C hr hP hS h dX11_isDigit_17
  · replace h := if_f c1 h
    refine lv_iload_n hx hb dX11_isDigit_6 rfl (lv_at hl 0 rfl) ?_
    refine lv_bipush (v := (57)) hx hb dX11_isDigit_7 (by decide) ?_
    refine lv_icmp_gt (tgt := 16) hx hb dX11_isDigit_9 (by decide) (fun c2 => ?_) (fun c2 => ?_)
    · replace h := if_t c2 h
      refine lv_iconst (v := (0)) hx hb dX11_isDigit_16 (by decide) ?_
      exact r_zret C hr hP hS h dX11_isDigit_17
    · replace h := if_f c2 h
      refine lv_iconst (v := (1)) hx hb dX11_isDigit_12 (by decide) ?_
      refine lv_goto (tgt := 17) hx hb dX11_isDigit_13 (by decide) ?_
      exact r_zret C hr hP hS h dX11_isDigit_17

def f_X11_word_L15 (v0 : Nat) (v1 : Int32) (v2 : Int32) (v3 : Int32) (μ : fMem) : Option (Nat × (Int32 × fMem)) :=
  gd (ixo (v2 + v3) (lenW 1)) (if (wch (v2 + v3)) = (32 : Int32) then some (1, (v3, μ)) else if (μ.1 v0 24) ≤ ((μ.1 v0 25) + v3) then some (1, (v3, μ)) else gd (ixo ((μ.1 v0 25) + v3) 700) (gd (ixo (v2 + v3) (lenW 1)) (if (μ.1 (v0 + 1) (Int32.toNatClampNeg ((μ.1 v0 25) + v3))) = (wch (v2 + v3)) then vl (v3 + (1 : Int32)) fun x8 => some (0, (x8, μ)) else some (1, (v3, μ)))))
def f_X11_word_L97 (v0 : Nat) (v1 : Int32) (v2 : Int32) (μ : fMem) : Option (Nat × (Int32 × fMem)) :=
  gd (ixo v2 (lenW 1)) (if (wch v2) = (32 : Int32) then some (1, (v2, μ)) else vl (v2 + (1 : Int32)) fun x19 => some (0, (x19, μ)))
def f_X11_word_j97 (v0 : Nat) (v1 : Int32) (v2 : Int32) (μ : fMem) : Option (Nat × (Int32 × Int32 × fMem)) :=
  bd (lpn (fun (q : Int32 × fMem) => f_X11_word_L97 v0 v1 q.1 q.2) fuel (v2, μ)) fun t20 q21 => (fun (x22 : Int32) (μ23 : fMem) => vl (x22 + (1 : Int32)) fun x24 => vl (v1 + (1 : Int32)) fun x25 => some (0, (x25, x24, μ23))) q21.1 q21.2
def f_X11_word_L4 (v0 : Nat) (v1 : Int32) (v2 : Int32) (μ : fMem) : Option (Nat × (Int32 × Int32 × fMem)) :=
  if (Int32.ofNat (lenW 1)) ≤ v2 then some (1, (v1, v2, μ)) else bd (lpn (fun (q : Int32 × fMem) => f_X11_word_L15 v0 v1 v2 q.1 q.2) fuel ((0 : Int32), μ)) fun t9 q10 => (fun (x11 : Int32) (μ12 : fMem) => gd (ixo (v2 + x11) (lenW 1)) (if (wch (v2 + x11)) = (32 : Int32) then if ((μ12.1 v0 25) + x11) = (μ12.1 v0 24) then some (2, (v1, v2, μ12)) else f_X11_word_j97 v0 v1 v2 μ12 else f_X11_word_j97 v0 v1 v2 μ12)) q10.1 q10.2
def f_X11_word (v0 : Nat) (μ : fMem) : Option (Int32 × fMem) :=
  bd (lpn (fun (q : Int32 × Int32 × fMem) => f_X11_word_L4 v0 q.1 q.2.1 q.2.2) fuel ((0 : Int32), (0 : Int32), μ)) fun t27 q28 => (fun (x29 : Int32) (x30 : Int32) (μ31 : fMem) => if t27 = 0 then some ((-1 : Int32), μ31) else some (x29, μ31)) q28.1 q28.2.1 q28.2.2
def rm_X11_word : Room := { frames := 4, cells := 0, slots := 0, locals := 120 }
set_option maxHeartbeats 4000000 in
set_option maxRecDepth 100000 in
theorem m_X11_word (l : Launch) (w : fW) (hJ : fJ w) (hw : w.2.2.2 = sd 1) (v0 : Nat) (hk0 : kd v0 = (4, 11)) (μ : fMem) {r : Int32} {μr : fMem} (h : f_X11_word v0 μ = some (r, μr)) : Met l yX11_word (.code yX11_word cX11_word 4 (some .int) :: gw) rm_X11_word (fPc w [.ref (w.2.2.1 v0)] μ) (fQi w r μr) 0 0 (fA w) := by
  refine met_of hJ (by decide) ?_ (Nat.le_of_ble_eq_true rfl)
  generalize ([.ref (w.2.2.1 v0)] : List Value).toArray = args
  intro p e s m below meth c ls C hr hP hl hS
  obtain ⟨hx, hb, hml, hown, hts, hK, -, hlk, hT⟩ := id C
  obtain ⟨-, -, hE, -, hZs⟩ := id hT
  have hl : lv_has ls 4 [(0, .ref (w.2.2.1 v0))] := hl
  unfold f_X11_word at h
  refine lv_iconst (v := (0)) hx hb dX11_word_0 (by decide) ?_
  refine lv_istore_n (lv' := [(1, .int (0 : Int32)), (0, .ref (w.2.2.1 v0))]) hx hb dX11_word_1 rfl hl (by decide) rfl (fun ls hl => ?_)
  refine lv_iconst (v := (0)) hx hb dX11_word_2 (by decide) ?_
  refine lv_istore_n (lv' := [(2, .int (0 : Int32)), (1, .int (0 : Int32)), (0, .ref (w.2.2.1 v0))]) hx hb dX11_word_3 rfl hl (by decide) rfl (fun ls hl => ?_)
  obtain ⟨t27, q28, h32, h⟩ := bd_ok h
  refine lpn_ind (b := (fun (q : Int32 × Int32 × fMem) => f_X11_word_L4 v0 q.1 q.2.1 q.2.2)) (P := fun (q : Int32 × Int32 × fMem) => WW p l e rm_X11_word s m args below meth c (MQ below (fQi w r μr) args s 0 0 (fA w)) w q.2.2 4 4 [] [(0, .ref (w.2.2.1 v0)), (1, .int q.1), (2, .int q.2.1)]) (K := fun t (q : Int32 × Int32 × fMem) => (t = 0 → WW p l e rm_X11_word s m args below meth c (MQ below (fQi w r μr) args s 0 0 (fA w)) w q.2.2 4 123 [] []) ∧ (t = 1 → WW p l e rm_X11_word s m args below meth c (MQ below (fQi w r μr) args s 0 0 (fA w)) w q.2.2 4 95 [] [(1, .int q.1)])) ?_ fuel ((0 : Int32), (0 : Int32), μ) t27 q28 h32 ?_ _ _ _ hP hS (lv_sub hl [2, 1, 0] rfl)
  · intro q tz4 sz4 h hP0_4 hK0_4 H locs ls hP hS hl
    obtain ⟨v1, v2, μ⟩ := q
    have hP : fP w μ H := hP
    have hl : lv_has ls 4 [(0, .ref (w.2.2.1 v0)), (1, .int v1), (2, .int v2)] := hl
    have h : f_X11_word_L4 v0 v1 v2 μ = some (tz4, sz4) := h
    unfold f_X11_word_L4 at h
    have J97 : ∀ (v1 : Int32) (v2 : Int32) (μ : fMem), f_X11_word_j97 v0 v1 v2 μ = some (tz4, sz4) → WW p l e rm_X11_word s m args below meth c (MQ below (fQi w r μr) args s 0 0 (fA w)) w μ 4 97 [] [(0, .ref (w.2.2.1 v0)), (1, .int v1), (2, .int v2)] := by
      intro v1 v2 μ  h H locs ls hP hS hl
      unfold f_X11_word_j97 at h
      obtain ⟨t20, q21, h26, h⟩ := bd_ok h
      refine lpn_ind (b := (fun (q : Int32 × fMem) => f_X11_word_L97 v0 v1 q.1 q.2)) (P := fun (q : Int32 × fMem) => WW p l e rm_X11_word s m args below meth c (MQ below (fQi w r μr) args s 0 0 (fA w)) w q.2 4 97 [] [(0, .ref (w.2.2.1 v0)), (1, .int v1), (2, .int q.1)]) (K := fun _ (q : Int32 × fMem) => WW p l e rm_X11_word s m args below meth c (MQ below (fQi w r μr) args s 0 0 (fA w)) w q.2 4 114 [] [(0, .ref (w.2.2.1 v0)), (1, .int v1), (2, .int q.1)]) ?_ fuel (v2, μ) t20 q21 h26 ?_ _ _ _ hP hS (lv_sub hl [0, 1, 2] rfl)
      · intro q tz97 sz97 h hP0_97 hK0_97 H locs ls hP hS hl
        obtain ⟨v2, μ⟩ := q
        have hP : fP w μ H := hP
        have hl : lv_has ls 4 [(0, .ref (w.2.2.1 v0)), (1, .int v1), (2, .int v2)] := hl
        have h : f_X11_word_L97 v0 v1 v2 μ = some (tz97, sz97) := h
        unfold f_X11_word_L97 at h
        refine va_ldcS hx hb hown hZs dX11_word_97 ?_
        refine lv_iload_n hx hb dX11_word_99 rfl (lv_at hl 2 rfl) ?_
        obtain ⟨g17, h⟩ := gd_ok h
        refine go_i (callX_run (As := [.int v2]) (rest := []) C hl hP (hS.wide hJ).2.1 (vk_recv hE (by decide) (hS.wide hJ)) (t_charAt l w hJ 1 (by decide) v2 g17 μ) mx_X11_198 ⟨rfl, rfl, by decide, by decide⟩ rfl rfl (Nat.le_of_ble_eq_true rfl) ⟨Nat.zero_le _, Nat.zero_le _⟩ dX11_word_100) hS (fun H locs hP hS => ?_)
        refine lv_bipush (v := (32)) hx hb dX11_word_103 (by decide) ?_
        refine lv_icmp_eq (tgt := 114) hx hb dX11_word_105 (by decide) (fun c18 => ?_) (fun c18 => ?_)
        · replace h := if_t c18 h
          obtain ⟨rfl, rfl⟩ := leaf h
          exact (hK0_97 0 rfl) _ _ _ hP hS (lv_sub hl [0, 1, 2] rfl)
        · replace h := if_f c18 h
          obtain ⟨x19, ex19⟩ : ∃ y : Int32, y = (v2 + (1 : Int32)) := ⟨_, rfl⟩
          replace h := vl_ok ex19 h
          refine lv_iinc (v := x19) (lv' := [(2, .int x19), (0, .ref (w.2.2.1 v0)), (1, .int v1)]) hx hb dX11_word_108 hl (k := 2) rfl (by rw [ex19]; rfl) (by decide) rfl (fun ls hl => ?_)
          refine lv_goto (tgt := 97) hx hb dX11_word_111 (by decide) ?_
          obtain ⟨rfl, rfl⟩ := leaf h
          exact hP0_97 rfl _ _ _ hP hS (lv_sub hl [1, 2, 0] rfl)
      · obtain ⟨x22, μ23⟩ := q21
        intro H locs ls hP hS hl
        have hP : fP w μ23 H := hP
        have hl : lv_has ls 4 [(0, .ref (w.2.2.1 v0)), (1, .int v1), (2, .int x22)] := hl
        try dsimp only at h
        obtain ⟨x24, ex24⟩ : ∃ y : Int32, y = (x22 + (1 : Int32)) := ⟨_, rfl⟩
        replace h := vl_ok ex24 h
        refine lv_iinc (v := x24) (lv' := [(2, .int x24), (0, .ref (w.2.2.1 v0)), (1, .int v1)]) hx hb dX11_word_114 hl (k := 2) rfl (by rw [ex24]; rfl) (by decide) rfl (fun ls hl => ?_)
        obtain ⟨x25, ex25⟩ : ∃ y : Int32, y = (v1 + (1 : Int32)) := ⟨_, rfl⟩
        replace h := vl_ok ex25 h
        refine lv_iinc (v := x25) (lv' := [(1, .int x25), (2, .int x24), (0, .ref (w.2.2.1 v0))]) hx hb dX11_word_117 hl (k := 2) rfl (by rw [ex25]; rfl) (by decide) rfl (fun ls hl => ?_)
        refine lv_goto (tgt := 4) hx hb dX11_word_120 (by decide) ?_
        obtain ⟨rfl, rfl⟩ := leaf h
        exact hP0_4 rfl _ _ _ hP hS (lv_sub hl [2, 0, 1] rfl)
    refine lv_iload_n hx hb dX11_word_4 rfl (lv_at hl 2 rfl) ?_
    refine va_ldcS hx hb hown hZs dX11_word_5 ?_
    refine go_i (callX_run (As := []) (rest := [.int v2]) C hl hP (hS.wide hJ).2.1 (vk_recv hE (by decide) (hS.wide hJ)) (t_length l w hJ 1 (by decide) μ) mx_X11_193 ⟨rfl, rfl, by decide, by decide⟩ rfl rfl (Nat.le_of_ble_eq_true rfl) ⟨Nat.zero_le _, Nat.zero_le _⟩ dX11_word_7) hS (fun H locs hP hS => ?_)
    refine lv_icmp_ge (tgt := 123) hx hb dX11_word_10 (by decide) (fun c1 => ?_) (fun c1 => ?_)
    · replace h := if_t c1 h
      obtain ⟨rfl, rfl⟩ := leaf h
      exact ((hK0_4 0 rfl).1 rfl) _ _ _ hP hS (lv_sub hl [] rfl)
    · replace h := if_f c1 h
      refine lv_iconst (v := (0)) hx hb dX11_word_13 (by decide) ?_
      refine lv_istore_n (lv' := [(3, .int (0 : Int32)), (0, .ref (w.2.2.1 v0)), (1, .int v1), (2, .int v2)]) hx hb dX11_word_14 rfl hl (by decide) rfl (fun ls hl => ?_)
      obtain ⟨t9, q10, h16, h⟩ := bd_ok h
      refine lpn_ind (b := (fun (q : Int32 × fMem) => f_X11_word_L15 v0 v1 v2 q.1 q.2)) (P := fun (q : Int32 × fMem) => WW p l e rm_X11_word s m args below meth c (MQ below (fQi w r μr) args s 0 0 (fA w)) w q.2 4 15 [] [(0, .ref (w.2.2.1 v0)), (1, .int v1), (2, .int v2), (3, .int q.1)]) (K := fun _ (q : Int32 × fMem) => WW p l e rm_X11_word s m args below meth c (MQ below (fQi w r μr) args s 0 0 (fA w)) w q.2 4 69 [] [(0, .ref (w.2.2.1 v0)), (1, .int v1), (2, .int v2), (3, .int q.1)]) ?_ fuel ((0 : Int32), μ) t9 q10 h16 ?_ _ _ _ hP hS (lv_sub hl [1, 2, 3, 0] rfl)
      · intro q tz15 sz15 h hP0_15 hK0_15 H locs ls hP hS hl
        obtain ⟨v3, μ⟩ := q
        have hP : fP w μ H := hP
        have hl : lv_has ls 4 [(0, .ref (w.2.2.1 v0)), (1, .int v1), (2, .int v2), (3, .int v3)] := hl
        have h : f_X11_word_L15 v0 v1 v2 v3 μ = some (tz15, sz15) := h
        unfold f_X11_word_L15 at h
        refine va_ldcS hx hb hown hZs dX11_word_15 ?_
        refine lv_iload_n hx hb dX11_word_17 rfl (lv_at hl 2 rfl) ?_
        refine lv_iload_n hx hb dX11_word_18 rfl (lv_at hl 3 rfl) ?_
        refine lv_iadd hx hb dX11_word_19 ?_
        obtain ⟨g2, h⟩ := gd_ok h
        refine go_i (callX_run (As := [.int (v2 + v3)]) (rest := []) C hl hP (hS.wide hJ).2.1 (vk_recv hE (by decide) (hS.wide hJ)) (t_charAt l w hJ 1 (by decide) (v2 + v3) g2 μ) mx_X11_198 ⟨rfl, rfl, by decide, by decide⟩ rfl rfl (Nat.le_of_ble_eq_true rfl) ⟨Nat.zero_le _, Nat.zero_le _⟩ dX11_word_20) hS (fun H locs hP hS => ?_)
        refine lv_bipush (v := (32)) hx hb dX11_word_23 (by decide) ?_
        refine lv_icmp_eq (tgt := 69) hx hb dX11_word_25 (by decide) (fun c3 => ?_) (fun c3 => ?_)
        · replace h := if_t c3 h
          obtain ⟨rfl, rfl⟩ := leaf h
          exact (hK0_15 0 rfl) _ _ _ hP hS (lv_sub hl [0, 1, 2, 3] rfl)
        · replace h := if_f c3 h
          refine lv_aload_n hx hb dX11_word_28 rfl (lv_at hl 0 rfl) ?_
          refine r_getI C hP (iw hw (fi_11 hk0)) hk0 fl_X11_164 (Or.inl rfl) dX11_word_29 ?_
          refine lv_iload_n hx hb dX11_word_32 rfl (lv_at hl 3 rfl) ?_
          refine lv_iadd hx hb dX11_word_33 ?_
          refine lv_aload_n hx hb dX11_word_34 rfl (lv_at hl 0 rfl) ?_
          refine r_getI C hP (iw hw (fi_11 hk0)) hk0 fl_X11_154 (Or.inl rfl) dX11_word_35 ?_
          refine lv_icmp_ge (tgt := 69) hx hb dX11_word_38 (by decide) (fun c4 => ?_) (fun c4 => ?_)
          · replace h := if_t c4 h
            obtain ⟨rfl, rfl⟩ := leaf h
            exact (hK0_15 0 rfl) _ _ _ hP hS (lv_sub hl [0, 1, 2, 3] rfl)
          · replace h := if_f c4 h
            refine lv_aload_n hx hb dX11_word_41 rfl (lv_at hl 0 rfl) ?_
            refine r_getF (off := 1) C hP (iw hw (fi_11 hk0)) hk0 fl_X11_7 rfl rfl (zw hw) dX11_word_42 ?_
            refine lv_aload_n hx hb dX11_word_45 rfl (lv_at hl 0 rfl) ?_
            refine r_getI C hP (iw hw (fi_11 hk0)) hk0 fl_X11_164 (Or.inl rfl) dX11_word_46 ?_
            refine lv_iload_n hx hb dX11_word_49 rfl (lv_at hl 3 rfl) ?_
            refine lv_iadd hx hb dX11_word_50 ?_
            obtain ⟨g5, h⟩ := gd_ok h
            refine r_iald C hP (iw hw (ff_11_1 hk0).2) (ff_11_1 hk0).1 g5 dX11_word_51 ?_
            refine va_ldcS hx hb hown hZs dX11_word_52 ?_
            refine lv_iload_n hx hb dX11_word_54 rfl (lv_at hl 2 rfl) ?_
            refine lv_iload_n hx hb dX11_word_55 rfl (lv_at hl 3 rfl) ?_
            refine lv_iadd hx hb dX11_word_56 ?_
            obtain ⟨g6, h⟩ := gd_ok h
            refine go_i (callX_run (As := [.int (v2 + v3)]) (rest := [.int (μ.1 (v0 + 1) (Int32.toNatClampNeg ((μ.1 v0 25) + v3)))]) C hl hP (hS.wide hJ).2.1 (vk_recv hE (by decide) (hS.wide hJ)) (t_charAt l w hJ 1 (by decide) (v2 + v3) g6 μ) mx_X11_198 ⟨rfl, rfl, by decide, by decide⟩ rfl rfl (Nat.le_of_ble_eq_true rfl) ⟨Nat.zero_le _, Nat.zero_le _⟩ dX11_word_57) hS (fun H locs hP hS => ?_)
            refine lv_icmp_ne (tgt := 69) hx hb dX11_word_60 (by decide) (fun c7 => ?_) (fun c7 => ?_)
            · replace h := if_f c7 h
              obtain ⟨rfl, rfl⟩ := leaf h
              exact (hK0_15 0 rfl) _ _ _ hP hS (lv_sub hl [0, 1, 2, 3] rfl)
            · replace h := if_t c7 h
              obtain ⟨x8, ex8⟩ : ∃ y : Int32, y = (v3 + (1 : Int32)) := ⟨_, rfl⟩
              replace h := vl_ok ex8 h
              refine lv_iinc (v := x8) (lv' := [(3, .int x8), (0, .ref (w.2.2.1 v0)), (1, .int v1), (2, .int v2)]) hx hb dX11_word_63 hl (k := 3) rfl (by rw [ex8]; rfl) (by decide) rfl (fun ls hl => ?_)
              refine lv_goto (tgt := 15) hx hb dX11_word_66 (by decide) ?_
              obtain ⟨rfl, rfl⟩ := leaf h
              exact hP0_15 rfl _ _ _ hP hS (lv_sub hl [1, 2, 3, 0] rfl)
      · obtain ⟨x11, μ12⟩ := q10
        intro H locs ls hP hS hl
        have hP : fP w μ12 H := hP
        have hl : lv_has ls 4 [(0, .ref (w.2.2.1 v0)), (1, .int v1), (2, .int v2), (3, .int x11)] := hl
        try dsimp only at h
        refine va_ldcS hx hb hown hZs dX11_word_69 ?_
        refine lv_iload_n hx hb dX11_word_71 rfl (lv_at hl 2 rfl) ?_
        refine lv_iload_n hx hb dX11_word_72 rfl (lv_at hl 3 rfl) ?_
        refine lv_iadd hx hb dX11_word_73 ?_
        obtain ⟨g13, h⟩ := gd_ok h
        refine go_i (callX_run (As := [.int (v2 + x11)]) (rest := []) C hl hP (hS.wide hJ).2.1 (vk_recv hE (by decide) (hS.wide hJ)) (t_charAt l w hJ 1 (by decide) (v2 + x11) g13 μ12) mx_X11_198 ⟨rfl, rfl, by decide, by decide⟩ rfl rfl (Nat.le_of_ble_eq_true rfl) ⟨Nat.zero_le _, Nat.zero_le _⟩ dX11_word_74) hS (fun H locs hP hS => ?_)
        refine lv_bipush (v := (32)) hx hb dX11_word_77 (by decide) ?_
        refine lv_icmp_ne (tgt := 97) hx hb dX11_word_79 (by decide) (fun c14 => ?_) (fun c14 => ?_)
        · replace h := if_f c14 h
          exact J97 v1 v2 μ12  h _ _ _ hP hS (lv_sub hl [0, 1, 2] rfl)
        · replace h := if_t c14 h
          refine lv_aload_n hx hb dX11_word_82 rfl (lv_at hl 0 rfl) ?_
          refine r_getI C hP (iw hw (fi_11 hk0)) hk0 fl_X11_164 (Or.inl rfl) dX11_word_83 ?_
          refine lv_iload_n hx hb dX11_word_86 rfl (lv_at hl 3 rfl) ?_
          refine lv_iadd hx hb dX11_word_87 ?_
          refine lv_aload_n hx hb dX11_word_88 rfl (lv_at hl 0 rfl) ?_
          refine r_getI C hP (iw hw (fi_11 hk0)) hk0 fl_X11_154 (Or.inl rfl) dX11_word_89 ?_
          refine lv_icmp_ne (tgt := 97) hx hb dX11_word_92 (by decide) (fun c15 => ?_) (fun c15 => ?_)
          · replace h := if_f c15 h
            exact J97 v1 v2 μ12  h _ _ _ hP hS (lv_sub hl [0, 1, 2] rfl)
          · replace h := if_t c15 h
            obtain ⟨rfl, rfl⟩ := leaf h
            exact ((hK0_4 1 rfl).2 rfl) _ _ _ hP hS (lv_sub hl [1] rfl)
  · obtain ⟨x29, x30, μ31⟩ := q28
    try dsimp only at h
    refine ⟨fun ht => ?_, fun ht => ?_⟩
    · intro H locs ls hP hS hl
      have hP : fP w μ31 H := hP
      have hl : lv_has ls 4 [] := hl
      replace h := if_t ht h
      refine lv_iconst (v := (-1)) hx hb dX11_word_123 (by decide) ?_
      exact r_iret C hr hP hS h dX11_word_124
    · intro H locs ls hP hS hl
      have hP : fP w μ31 H := hP
      have hl : lv_has ls 4 [(1, .int x29)] := hl
      replace h := if_f (by rw [ht]; decide) h
      refine lv_iload_n hx hb dX11_word_95 rfl (lv_at hl 0 rfl) ?_
      exact r_iret C hr hP hS h dX11_word_96

def f_X11_name_L7 (v0 : Nat) (v1 : Int32) (μ : fMem) : Option (Nat × (Int32 × fMem)) :=
  if (6 : Int32) ≤ v1 then some (1, (v1, μ)) else if (μ.1 v0 24) ≤ ((μ.1 v0 25) + v1) then vl (sI μ v0 27 ((shl (μ.1 v0 27) (5 : Int32)) ||| (0 : Int32))) fun μ4 => vl (v1 + (1 : Int32)) fun x5 => some (0, (x5, μ4)) else gd (ixo ((μ.1 v0 25) + v1) 700) (vl (sI μ v0 27 ((shl (μ.1 v0 27) (5 : Int32)) ||| (((μ.1 (v0 + 1) (Int32.toNatClampNeg ((μ.1 v0 25) + v1))) - (97 : Int32)) + (1 : Int32)))) fun μ7 => vl (v1 + (1 : Int32)) fun x8 => some (0, (x8, μ7)))
def f_X11_name (v0 : Nat) (μ : fMem) : Option (Unit × fMem) :=
  vl (sI μ v0 27 (0 : Int32)) fun μ1 => bd (lpn (fun (q : Int32 × fMem) => f_X11_name_L7 v0 q.1 q.2) fuel ((0 : Int32), μ1)) fun t9 q10 => (fun (x11 : Int32) (μ12 : fMem) => some ((), μ12)) q10.1 q10.2
def rm_X11_name : Room := { frames := 0, cells := 0, slots := 0, locals := 0 }
set_option maxHeartbeats 4000000 in
set_option maxRecDepth 100000 in
theorem m_X11_name (l : Launch) (w : fW) (hJ : fJ w) (hw : w.2.2.2 = sd 1) (v0 : Nat) (hk0 : kd v0 = (4, 11)) (μ : fMem) {r : Unit} {μr : fMem} (h : f_X11_name v0 μ = some (r, μr)) : Met l yX11_name (.code yX11_name cX11_name 2 none :: gw) rm_X11_name (fPc w [.ref (w.2.2.1 v0)] μ) (fQv w μr) 0 0 (fA w) := by
  refine met_of hJ (by decide) ?_ (Nat.le_of_ble_eq_true rfl)
  generalize ([.ref (w.2.2.1 v0)] : List Value).toArray = args
  intro p e s m below meth c ls C hr hP hl hS
  obtain ⟨hx, hb, hml, hown, hts, hK, -, hlk, hT⟩ := id C
  have hl : lv_has ls 2 [(0, .ref (w.2.2.1 v0))] := hl
  unfold f_X11_name at h
  refine lv_aload_n hx hb dX11_name_0 rfl (lv_at hl 0 rfl) ?_
  refine lv_iconst (v := (0)) hx hb dX11_name_1 (by decide) ?_
  refine r_putI C hP hS (iw hw (fi_11 hk0)) hk0 fp_X11_177 rfl dX11_name_2 (fun H locs hP hS => ?_)
  obtain ⟨μ1, eμ1, h⟩ := vl_ex h
  have hP : fP w μ1 H := by rw [eμ1]; exact hP
  refine lv_iconst (v := (0)) hx hb dX11_name_5 (by decide) ?_
  refine lv_istore_n (lv' := [(1, .int (0 : Int32)), (0, .ref (w.2.2.1 v0))]) hx hb dX11_name_6 rfl hl (by decide) rfl (fun ls hl => ?_)
  obtain ⟨t9, q10, h13, h⟩ := bd_ok h
  refine lpn_ind (b := (fun (q : Int32 × fMem) => f_X11_name_L7 v0 q.1 q.2)) (P := fun (q : Int32 × fMem) => WW p l e rm_X11_name s m args below meth c (MQ below (fQv w μr) args s 0 0 (fA w)) w q.2 2 7 [] [(0, .ref (w.2.2.1 v0)), (1, .int q.1)]) (K := fun _ (q : Int32 × fMem) => WW p l e rm_X11_name s m args below meth c (MQ below (fQv w μr) args s 0 0 (fA w)) w q.2 2 63 [] []) ?_ fuel ((0 : Int32), μ1) t9 q10 h13 ?_ _ _ _ hP hS (lv_sub hl [1, 0] rfl)
  · intro q tz7 sz7 h hP0_7 hK0_7 H locs ls hP hS hl
    obtain ⟨v1, μ⟩ := q
    have hP : fP w μ H := hP
    have hl : lv_has ls 2 [(0, .ref (w.2.2.1 v0)), (1, .int v1)] := hl
    have h : f_X11_name_L7 v0 v1 μ = some (tz7, sz7) := h
    unfold f_X11_name_L7 at h
    refine lv_iload_n hx hb dX11_name_7 rfl (lv_at hl 1 rfl) ?_
    refine lv_bipush (v := (6)) hx hb dX11_name_8 (by decide) ?_
    refine lv_icmp_ge (tgt := 63) hx hb dX11_name_10 (by decide) (fun c2 => ?_) (fun c2 => ?_)
    · replace h := if_t c2 h
      obtain ⟨rfl, rfl⟩ := leaf h
      exact (hK0_7 0 rfl) _ _ _ hP hS (lv_sub hl [] rfl)
    · replace h := if_f c2 h
      refine lv_aload_n hx hb dX11_name_13 rfl (lv_at hl 0 rfl) ?_
      refine lv_aload_n hx hb dX11_name_14 rfl (lv_at hl 0 rfl) ?_
      refine r_getI C hP (iw hw (fi_11 hk0)) hk0 fl_X11_177 (Or.inl rfl) dX11_name_15 ?_
      refine lv_iconst (v := (5)) hx hb dX11_name_18 (by decide) ?_
      refine r_ishl hx hb dX11_name_19 ?_
      refine lv_aload_n hx hb dX11_name_20 rfl (lv_at hl 0 rfl) ?_
      refine r_getI C hP (iw hw (fi_11 hk0)) hk0 fl_X11_164 (Or.inl rfl) dX11_name_21 ?_
      refine lv_iload_n hx hb dX11_name_24 rfl (lv_at hl 1 rfl) ?_
      refine lv_iadd hx hb dX11_name_25 ?_
      refine lv_aload_n hx hb dX11_name_26 rfl (lv_at hl 0 rfl) ?_
      refine r_getI C hP (iw hw (fi_11 hk0)) hk0 fl_X11_154 (Or.inl rfl) dX11_name_27 ?_
      refine lv_icmp_ge (tgt := 52) hx hb dX11_name_30 (by decide) (fun c3 => ?_) (fun c3 => ?_)
      · replace h := if_t c3 h
        refine lv_iconst (v := (0)) hx hb dX11_name_52 (by decide) ?_
        refine lv_ior hx hb dX11_name_53 ?_
        refine r_putI C hP hS (iw hw (fi_11 hk0)) hk0 fp_X11_177 rfl dX11_name_54 (fun H locs hP hS => ?_)
        obtain ⟨μ4, eμ4, h⟩ := vl_ex h
        have hP : fP w μ4 H := by rw [eμ4]; exact hP
        obtain ⟨x5, ex5⟩ : ∃ y : Int32, y = (v1 + (1 : Int32)) := ⟨_, rfl⟩
        replace h := vl_ok ex5 h
        refine lv_iinc (v := x5) (lv' := [(1, .int x5), (0, .ref (w.2.2.1 v0))]) hx hb dX11_name_57 hl (k := 1) rfl (by rw [ex5]; rfl) (by decide) rfl (fun ls hl => ?_)
        refine lv_goto (tgt := 7) hx hb dX11_name_60 (by decide) ?_
        obtain ⟨rfl, rfl⟩ := leaf h
        exact hP0_7 rfl _ _ _ hP hS (lv_sub hl [1, 0] rfl)
      · replace h := if_f c3 h
        refine lv_aload_n hx hb dX11_name_33 rfl (lv_at hl 0 rfl) ?_
        refine r_getF (off := 1) C hP (iw hw (fi_11 hk0)) hk0 fl_X11_7 rfl rfl (zw hw) dX11_name_34 ?_
        refine lv_aload_n hx hb dX11_name_37 rfl (lv_at hl 0 rfl) ?_
        refine r_getI C hP (iw hw (fi_11 hk0)) hk0 fl_X11_164 (Or.inl rfl) dX11_name_38 ?_
        refine lv_iload_n hx hb dX11_name_41 rfl (lv_at hl 1 rfl) ?_
        refine lv_iadd hx hb dX11_name_42 ?_
        obtain ⟨g6, h⟩ := gd_ok h
        refine r_iald C hP (iw hw (ff_11_1 hk0).2) (ff_11_1 hk0).1 g6 dX11_name_43 ?_
        refine lv_bipush (v := (97)) hx hb dX11_name_44 (by decide) ?_
        refine lv_isub hx hb dX11_name_46 ?_
        refine lv_iconst (v := (1)) hx hb dX11_name_47 (by decide) ?_
        refine lv_iadd hx hb dX11_name_48 ?_
        refine lv_goto (tgt := 53) hx hb dX11_name_49 (by decide) ?_
        refine lv_ior hx hb dX11_name_53 ?_
        refine r_putI C hP hS (iw hw (fi_11 hk0)) hk0 fp_X11_177 rfl dX11_name_54 (fun H locs hP hS => ?_)
        obtain ⟨μ7, eμ7, h⟩ := vl_ex h
        have hP : fP w μ7 H := by rw [eμ7]; exact hP
        obtain ⟨x8, ex8⟩ : ∃ y : Int32, y = (v1 + (1 : Int32)) := ⟨_, rfl⟩
        replace h := vl_ok ex8 h
        refine lv_iinc (v := x8) (lv' := [(1, .int x8), (0, .ref (w.2.2.1 v0))]) hx hb dX11_name_57 hl (k := 1) rfl (by rw [ex8]; rfl) (by decide) rfl (fun ls hl => ?_)
        refine lv_goto (tgt := 7) hx hb dX11_name_60 (by decide) ?_
        obtain ⟨rfl, rfl⟩ := leaf h
        exact hP0_7 rfl _ _ _ hP hS (lv_sub hl [1, 0] rfl)
  · obtain ⟨x11, μ12⟩ := q10
    intro H locs ls hP hS hl
    have hP : fP w μ12 H := hP
    have hl : lv_has ls 2 [] := hl
    try dsimp only at h
    exact r_vret C hr hP hS h dX11_name_63

def f_X11_sign_j150 (v0 : Nat) (μ : fMem) : Option (Unit × fMem) :=
  if (μ.1 v0 27) < (256 : Int32) then some ((), μ) else vl (sI μ v0 24 ((μ.1 v0 24) + (1 : Int32))) fun μ33 => some ((), μ33)
def f_X11_sign_j128 (v0 : Nat) (v1 : Int32) (μ : fMem) : Option (Unit × fMem) :=
  if v1 = (62 : Int32) then bd (f_X11_here v0 μ) fun r28 μ27 => if r28 = (61 : Int32) then vl (sI μ27 v0 27 (258 : Int32)) fun μ31 => f_X11_sign_j150 v0 μ31 else f_X11_sign_j150 v0 μ27 else f_X11_sign_j150 v0 μ
def f_X11_sign_j106 (v0 : Nat) (v1 : Int32) (μ : fMem) : Option (Unit × fMem) :=
  if v1 = (60 : Int32) then bd (f_X11_here v0 μ) fun r22 μ21 => if r22 = (62 : Int32) then vl (sI μ21 v0 27 (257 : Int32)) fun μ25 => f_X11_sign_j128 v0 v1 μ25 else f_X11_sign_j128 v0 v1 μ21 else f_X11_sign_j128 v0 v1 μ
def f_X11_sign_j76 (v0 : Nat) (v1 : Int32) (t0 : Nat) (t1 : Int32) (μ : fMem) : Option (Unit × fMem) :=
  vl (sI μ t0 26 t1) fun μ12 => vl (sI μ12 v0 27 v1) fun μ13 => if v1 = (60 : Int32) then bd (f_X11_here v0 μ13) fun r16 μ15 => if r16 = (61 : Int32) then vl (sI μ15 v0 27 (256 : Int32)) fun μ19 => f_X11_sign_j106 v0 v1 μ19 else f_X11_sign_j106 v0 v1 μ15 else f_X11_sign_j106 v0 v1 μ13
def f_X11_sign_j71 (v0 : Nat) (v1 : Int32) (t0 : Nat) (μ : fMem) : Option (Unit × fMem) :=
  f_X11_sign_j76 v0 v1 t0 (3 : Int32) μ
def f_X11_sign (v0 : Nat) (v1 : Int32) (μ : fMem) : Option (Unit × fMem) :=
  vl (sI μ v0 24 ((μ.1 v0 24) + (1 : Int32))) fun μ1 => if v1 = (59 : Int32) then f_X11_sign_j71 v0 v1 v0 μ1 else if v1 = (40 : Int32) then f_X11_sign_j71 v0 v1 v0 μ1 else if v1 = (41 : Int32) then f_X11_sign_j71 v0 v1 v0 μ1 else if v1 = (43 : Int32) then f_X11_sign_j71 v0 v1 v0 μ1 else if v1 = (45 : Int32) then f_X11_sign_j71 v0 v1 v0 μ1 else if v1 = (42 : Int32) then f_X11_sign_j71 v0 v1 v0 μ1 else if v1 = (47 : Int32) then f_X11_sign_j71 v0 v1 v0 μ1 else if v1 = (60 : Int32) then f_X11_sign_j71 v0 v1 v0 μ1 else if v1 = (61 : Int32) then f_X11_sign_j71 v0 v1 v0 μ1 else if v1 = (62 : Int32) then f_X11_sign_j71 v0 v1 v0 μ1 else f_X11_sign_j76 v0 v1 v0 (5 : Int32) μ1
def rm_X11_sign : Room := { frames := 1, cells := 0, slots := 0, locals := 20 }
set_option maxHeartbeats 4000000 in
set_option maxRecDepth 100000 in
theorem m_X11_sign (l : Launch) (w : fW) (hJ : fJ w) (hw : w.2.2.2 = sd 1) (v0 : Nat) (v1 : Int32) (hk0 : kd v0 = (4, 11)) (μ : fMem) {r : Unit} {μr : fMem} (h : f_X11_sign v0 v1 μ = some (r, μr)) : Met l yX11_sign (.code yX11_sign cX11_sign 2 none :: gw) rm_X11_sign (fPc w [.ref (w.2.2.1 v0), .int v1] μ) (fQv w μr) 0 0 (fA w) := by
  refine met_of hJ (by decide) ?_ (Nat.le_of_ble_eq_true rfl)
  generalize ([.ref (w.2.2.1 v0), .int v1] : List Value).toArray = args
  intro p e s m below meth c ls C hr hP hl hS
  obtain ⟨hx, hb, hml, hown, hts, hK, -, hlk, hT⟩ := id C
  have hl : lv_has ls 2 [(0, .ref (w.2.2.1 v0)), (1, .int v1)] := hl
  unfold f_X11_sign at h
  have J150 : ∀  (μ : fMem), f_X11_sign_j150 v0 μ = some (r, μr) → WW p l e rm_X11_sign s m args below meth c (MQ below (fQv w μr) args s 0 0 (fA w)) w μ 2 150 [] [(0, .ref (w.2.2.1 v0))] := by
    intro  μ  h H locs ls hP hS hl
    unfold f_X11_sign_j150 at h
    refine lv_aload_n hx hb dX11_sign_150 rfl (lv_at hl 0 rfl) ?_
    refine r_getI C hP (iw hw (fi_11 hk0)) hk0 fl_X11_177 (Or.inl rfl) dX11_sign_151 ?_
    refine lv_sipush (v := (256)) hx hb dX11_sign_154 (by decide) ?_
    refine lv_icmp_lt (tgt := 170) hx hb dX11_sign_157 (by decide) (fun c32 => ?_) (fun c32 => ?_)
    · replace h := if_t c32 h
      exact r_vret C hr hP hS h dX11_sign_170
    · replace h := if_f c32 h
      refine lv_aload_n hx hb dX11_sign_160 rfl (lv_at hl 0 rfl) ?_
      refine lv_dup hx hb dX11_sign_161 rfl ?_
      refine r_getI C hP (iw hw (fi_11 hk0)) hk0 fl_X11_154 (Or.inl rfl) dX11_sign_162 ?_
      refine lv_iconst (v := (1)) hx hb dX11_sign_165 (by decide) ?_
      refine lv_iadd hx hb dX11_sign_166 ?_
      refine r_putI C hP hS (iw hw (fi_11 hk0)) hk0 fp_X11_154 rfl dX11_sign_167 (fun H locs hP hS => ?_)
      obtain ⟨μ33, eμ33, h⟩ := vl_ex h
      have hP : fP w μ33 H := by rw [eμ33]; exact hP
      exact r_vret C hr hP hS h dX11_sign_170
  have J128 : ∀  (μ : fMem), f_X11_sign_j128 v0 v1 μ = some (r, μr) → WW p l e rm_X11_sign s m args below meth c (MQ below (fQv w μr) args s 0 0 (fA w)) w μ 2 128 [] [(0, .ref (w.2.2.1 v0)), (1, .int v1)] := by
    intro  μ  h H locs ls hP hS hl
    unfold f_X11_sign_j128 at h
    refine lv_iload_n hx hb dX11_sign_128 rfl (lv_at hl 1 rfl) ?_
    refine lv_bipush (v := (62)) hx hb dX11_sign_129 (by decide) ?_
    refine lv_icmp_ne (tgt := 150) hx hb dX11_sign_131 (by decide) (fun c26 => ?_) (fun c26 => ?_)
    · replace h := if_f c26 h
      exact J150  μ  h _ _ _ hP hS (lv_sub hl [0] rfl)
    · replace h := if_t c26 h
      refine lv_aload_n hx hb dX11_sign_134 rfl (lv_at hl 0 rfl) ?_
      obtain ⟨r28, μ27, h29, h⟩ := bd_ok h
      refine go_i (callV_run (As := []) (rest := []) C hl hP (hS.wide hJ).2.1 (iw hw (fi_11 hk0)) hk0 (m_X11_here l w hJ hw v0 hk0 μ h29) mv_X11_160 ⟨rfl, rfl, by decide, by decide⟩ rfl rfl (Nat.le_of_ble_eq_true rfl) ⟨Nat.zero_le _, Nat.zero_le _⟩ dX11_sign_135) hS (fun H locs hP hS => ?_)
      refine lv_bipush (v := (61)) hx hb dX11_sign_138 (by decide) ?_
      refine lv_icmp_ne (tgt := 150) hx hb dX11_sign_140 (by decide) (fun c30 => ?_) (fun c30 => ?_)
      · replace h := if_f c30 h
        exact J150  μ27  h _ _ _ hP hS (lv_sub hl [0] rfl)
      · replace h := if_t c30 h
        refine lv_aload_n hx hb dX11_sign_143 rfl (lv_at hl 0 rfl) ?_
        refine lv_sipush (v := (258)) hx hb dX11_sign_144 (by decide) ?_
        refine r_putI C hP hS (iw hw (fi_11 hk0)) hk0 fp_X11_177 rfl dX11_sign_147 (fun H locs hP hS => ?_)
        obtain ⟨μ31, eμ31, h⟩ := vl_ex h
        have hP : fP w μ31 H := by rw [eμ31]; exact hP
        exact J150  μ31  h _ _ _ hP hS (lv_sub hl [0] rfl)
  have J106 : ∀  (μ : fMem), f_X11_sign_j106 v0 v1 μ = some (r, μr) → WW p l e rm_X11_sign s m args below meth c (MQ below (fQv w μr) args s 0 0 (fA w)) w μ 2 106 [] [(0, .ref (w.2.2.1 v0)), (1, .int v1)] := by
    intro  μ  h H locs ls hP hS hl
    unfold f_X11_sign_j106 at h
    refine lv_iload_n hx hb dX11_sign_106 rfl (lv_at hl 1 rfl) ?_
    refine lv_bipush (v := (60)) hx hb dX11_sign_107 (by decide) ?_
    refine lv_icmp_ne (tgt := 128) hx hb dX11_sign_109 (by decide) (fun c20 => ?_) (fun c20 => ?_)
    · replace h := if_f c20 h
      exact J128  μ  h _ _ _ hP hS (lv_sub hl [0, 1] rfl)
    · replace h := if_t c20 h
      refine lv_aload_n hx hb dX11_sign_112 rfl (lv_at hl 0 rfl) ?_
      obtain ⟨r22, μ21, h23, h⟩ := bd_ok h
      refine go_i (callV_run (As := []) (rest := []) C hl hP (hS.wide hJ).2.1 (iw hw (fi_11 hk0)) hk0 (m_X11_here l w hJ hw v0 hk0 μ h23) mv_X11_160 ⟨rfl, rfl, by decide, by decide⟩ rfl rfl (Nat.le_of_ble_eq_true rfl) ⟨Nat.zero_le _, Nat.zero_le _⟩ dX11_sign_113) hS (fun H locs hP hS => ?_)
      refine lv_bipush (v := (62)) hx hb dX11_sign_116 (by decide) ?_
      refine lv_icmp_ne (tgt := 128) hx hb dX11_sign_118 (by decide) (fun c24 => ?_) (fun c24 => ?_)
      · replace h := if_f c24 h
        exact J128  μ21  h _ _ _ hP hS (lv_sub hl [0, 1] rfl)
      · replace h := if_t c24 h
        refine lv_aload_n hx hb dX11_sign_121 rfl (lv_at hl 0 rfl) ?_
        refine lv_sipush (v := (257)) hx hb dX11_sign_122 (by decide) ?_
        refine r_putI C hP hS (iw hw (fi_11 hk0)) hk0 fp_X11_177 rfl dX11_sign_125 (fun H locs hP hS => ?_)
        obtain ⟨μ25, eμ25, h⟩ := vl_ex h
        have hP : fP w μ25 H := by rw [eμ25]; exact hP
        exact J128  μ25  h _ _ _ hP hS (lv_sub hl [0, 1] rfl)
  have J76 : ∀ (t0 : Nat) (t1 : Int32) (μ : fMem) (_ : kd t0 = (4, 11)) (_ : inW w.2.2.2 t0), f_X11_sign_j76 v0 v1 t0 t1 μ = some (r, μr) → WW p l e rm_X11_sign s m args below meth c (MQ below (fQv w μr) args s 0 0 (fA w)) w μ 2 76 [.int t1, .ref (w.2.2.1 t0)] [(0, .ref (w.2.2.1 v0)), (1, .int v1)] := by
    intro t0 t1 μ kt0 it0 h H locs ls hP hS hl
    unfold f_X11_sign_j76 at h
    refine r_putI C hP hS it0 kt0 fp_X11_167 rfl dX11_sign_76 (fun H locs hP hS => ?_)
    obtain ⟨μ12, eμ12, h⟩ := vl_ex h
    have hP : fP w μ12 H := by rw [eμ12]; exact hP
    refine lv_aload_n hx hb dX11_sign_79 rfl (lv_at hl 0 rfl) ?_
    refine lv_iload_n hx hb dX11_sign_80 rfl (lv_at hl 1 rfl) ?_
    refine r_putI C hP hS (iw hw (fi_11 hk0)) hk0 fp_X11_177 rfl dX11_sign_81 (fun H locs hP hS => ?_)
    obtain ⟨μ13, eμ13, h⟩ := vl_ex h
    have hP : fP w μ13 H := by rw [eμ13]; exact hP
    refine lv_iload_n hx hb dX11_sign_84 rfl (lv_at hl 1 rfl) ?_
    refine lv_bipush (v := (60)) hx hb dX11_sign_85 (by decide) ?_
    refine lv_icmp_ne (tgt := 106) hx hb dX11_sign_87 (by decide) (fun c14 => ?_) (fun c14 => ?_)
    · replace h := if_f c14 h
      exact J106  μ13  h _ _ _ hP hS (lv_sub hl [0, 1] rfl)
    · replace h := if_t c14 h
      refine lv_aload_n hx hb dX11_sign_90 rfl (lv_at hl 0 rfl) ?_
      obtain ⟨r16, μ15, h17, h⟩ := bd_ok h
      refine go_i (callV_run (As := []) (rest := []) C hl hP (hS.wide hJ).2.1 (iw hw (fi_11 hk0)) hk0 (m_X11_here l w hJ hw v0 hk0 μ13 h17) mv_X11_160 ⟨rfl, rfl, by decide, by decide⟩ rfl rfl (Nat.le_of_ble_eq_true rfl) ⟨Nat.zero_le _, Nat.zero_le _⟩ dX11_sign_91) hS (fun H locs hP hS => ?_)
      refine lv_bipush (v := (61)) hx hb dX11_sign_94 (by decide) ?_
      refine lv_icmp_ne (tgt := 106) hx hb dX11_sign_96 (by decide) (fun c18 => ?_) (fun c18 => ?_)
      · replace h := if_f c18 h
        exact J106  μ15  h _ _ _ hP hS (lv_sub hl [0, 1] rfl)
      · replace h := if_t c18 h
        refine lv_aload_n hx hb dX11_sign_99 rfl (lv_at hl 0 rfl) ?_
        refine lv_sipush (v := (256)) hx hb dX11_sign_100 (by decide) ?_
        refine r_putI C hP hS (iw hw (fi_11 hk0)) hk0 fp_X11_177 rfl dX11_sign_103 (fun H locs hP hS => ?_)
        obtain ⟨μ19, eμ19, h⟩ := vl_ex h
        have hP : fP w μ19 H := by rw [eμ19]; exact hP
        exact J106  μ19  h _ _ _ hP hS (lv_sub hl [0, 1] rfl)
  have J71 : ∀ (t0 : Nat) (μ : fMem) (_ : kd t0 = (4, 11)) (_ : inW w.2.2.2 t0), f_X11_sign_j71 v0 v1 t0 μ = some (r, μr) → WW p l e rm_X11_sign s m args below meth c (MQ below (fQv w μr) args s 0 0 (fA w)) w μ 2 71 [.ref (w.2.2.1 t0)] [(0, .ref (w.2.2.1 v0)), (1, .int v1)] := by
    intro t0 μ kt0 it0 h H locs ls hP hS hl
    unfold f_X11_sign_j71 at h
    refine lv_iconst (v := (3)) hx hb dX11_sign_71 (by decide) ?_
    refine lv_goto (tgt := 76) hx hb dX11_sign_72 (by decide) ?_
    exact J76 t0 (3 : Int32) μ kt0 it0 h _ _ _ hP hS (lv_sub hl [0, 1] rfl)
  refine lv_aload_n hx hb dX11_sign_0 rfl (lv_at hl 0 rfl) ?_
  refine lv_dup hx hb dX11_sign_1 rfl ?_
  refine r_getI C hP (iw hw (fi_11 hk0)) hk0 fl_X11_154 (Or.inl rfl) dX11_sign_2 ?_
  refine lv_iconst (v := (1)) hx hb dX11_sign_5 (by decide) ?_
  refine lv_iadd hx hb dX11_sign_6 ?_
  refine r_putI C hP hS (iw hw (fi_11 hk0)) hk0 fp_X11_154 rfl dX11_sign_7 (fun H locs hP hS => ?_)
  obtain ⟨μ1, eμ1, h⟩ := vl_ex h
  have hP : fP w μ1 H := by rw [eμ1]; exact hP
  refine lv_aload_n hx hb dX11_sign_10 rfl (lv_at hl 0 rfl) ?_
  refine lv_iload_n hx hb dX11_sign_11 rfl (lv_at hl 1 rfl) ?_
  refine lv_bipush (v := (59)) hx hb dX11_sign_12 (by decide) ?_
  refine lv_icmp_eq (tgt := 71) hx hb dX11_sign_14 (by decide) (fun c2 => ?_) (fun c2 => ?_)
  · replace h := if_t c2 h
    exact J71 v0 μ1 hk0 (iw hw (fi_11 hk0)) h _ _ _ hP hS (lv_sub hl [0, 1] rfl)
  · replace h := if_f c2 h
    refine lv_iload_n hx hb dX11_sign_17 rfl (lv_at hl 1 rfl) ?_
    refine lv_bipush (v := (40)) hx hb dX11_sign_18 (by decide) ?_
    refine lv_icmp_eq (tgt := 71) hx hb dX11_sign_20 (by decide) (fun c3 => ?_) (fun c3 => ?_)
    · replace h := if_t c3 h
      exact J71 v0 μ1 hk0 (iw hw (fi_11 hk0)) h _ _ _ hP hS (lv_sub hl [0, 1] rfl)
    · replace h := if_f c3 h
      refine lv_iload_n hx hb dX11_sign_23 rfl (lv_at hl 1 rfl) ?_
      refine lv_bipush (v := (41)) hx hb dX11_sign_24 (by decide) ?_
      refine lv_icmp_eq (tgt := 71) hx hb dX11_sign_26 (by decide) (fun c4 => ?_) (fun c4 => ?_)
      · replace h := if_t c4 h
        exact J71 v0 μ1 hk0 (iw hw (fi_11 hk0)) h _ _ _ hP hS (lv_sub hl [0, 1] rfl)
      · replace h := if_f c4 h
        refine lv_iload_n hx hb dX11_sign_29 rfl (lv_at hl 1 rfl) ?_
        refine lv_bipush (v := (43)) hx hb dX11_sign_30 (by decide) ?_
        refine lv_icmp_eq (tgt := 71) hx hb dX11_sign_32 (by decide) (fun c5 => ?_) (fun c5 => ?_)
        · replace h := if_t c5 h
          exact J71 v0 μ1 hk0 (iw hw (fi_11 hk0)) h _ _ _ hP hS (lv_sub hl [0, 1] rfl)
        · replace h := if_f c5 h
          refine lv_iload_n hx hb dX11_sign_35 rfl (lv_at hl 1 rfl) ?_
          refine lv_bipush (v := (45)) hx hb dX11_sign_36 (by decide) ?_
          refine lv_icmp_eq (tgt := 71) hx hb dX11_sign_38 (by decide) (fun c6 => ?_) (fun c6 => ?_)
          · replace h := if_t c6 h
            exact J71 v0 μ1 hk0 (iw hw (fi_11 hk0)) h _ _ _ hP hS (lv_sub hl [0, 1] rfl)
          · replace h := if_f c6 h
            refine lv_iload_n hx hb dX11_sign_41 rfl (lv_at hl 1 rfl) ?_
            refine lv_bipush (v := (42)) hx hb dX11_sign_42 (by decide) ?_
            refine lv_icmp_eq (tgt := 71) hx hb dX11_sign_44 (by decide) (fun c7 => ?_) (fun c7 => ?_)
            · replace h := if_t c7 h
              exact J71 v0 μ1 hk0 (iw hw (fi_11 hk0)) h _ _ _ hP hS (lv_sub hl [0, 1] rfl)
            · replace h := if_f c7 h
              refine lv_iload_n hx hb dX11_sign_47 rfl (lv_at hl 1 rfl) ?_
              refine lv_bipush (v := (47)) hx hb dX11_sign_48 (by decide) ?_
              refine lv_icmp_eq (tgt := 71) hx hb dX11_sign_50 (by decide) (fun c8 => ?_) (fun c8 => ?_)
              · replace h := if_t c8 h
                exact J71 v0 μ1 hk0 (iw hw (fi_11 hk0)) h _ _ _ hP hS (lv_sub hl [0, 1] rfl)
              · replace h := if_f c8 h
                refine lv_iload_n hx hb dX11_sign_53 rfl (lv_at hl 1 rfl) ?_
                refine lv_bipush (v := (60)) hx hb dX11_sign_54 (by decide) ?_
                refine lv_icmp_eq (tgt := 71) hx hb dX11_sign_56 (by decide) (fun c9 => ?_) (fun c9 => ?_)
                · replace h := if_t c9 h
                  exact J71 v0 μ1 hk0 (iw hw (fi_11 hk0)) h _ _ _ hP hS (lv_sub hl [0, 1] rfl)
                · replace h := if_f c9 h
                  refine lv_iload_n hx hb dX11_sign_59 rfl (lv_at hl 1 rfl) ?_
                  refine lv_bipush (v := (61)) hx hb dX11_sign_60 (by decide) ?_
                  refine lv_icmp_eq (tgt := 71) hx hb dX11_sign_62 (by decide) (fun c10 => ?_) (fun c10 => ?_)
                  · replace h := if_t c10 h
                    exact J71 v0 μ1 hk0 (iw hw (fi_11 hk0)) h _ _ _ hP hS (lv_sub hl [0, 1] rfl)
                  · replace h := if_f c10 h
                    refine lv_iload_n hx hb dX11_sign_65 rfl (lv_at hl 1 rfl) ?_
                    refine lv_bipush (v := (62)) hx hb dX11_sign_66 (by decide) ?_
                    refine lv_icmp_ne (tgt := 75) hx hb dX11_sign_68 (by decide) (fun c11 => ?_) (fun c11 => ?_)
                    · replace h := if_f c11 h
                      refine lv_iconst (v := (5)) hx hb dX11_sign_75 (by decide) ?_
                      exact J76 v0 (5 : Int32) μ1 hk0 (iw hw (fi_11 hk0)) h _ _ _ hP hS (lv_sub hl [0, 1] rfl)
                    · replace h := if_t c11 h
                      exact J71 v0 μ1 hk0 (iw hw (fi_11 hk0)) h _ _ _ hP hS (lv_sub hl [0, 1] rfl)

def f_X11_token_j18 (v0 : Nat) (μ : fMem) : Option (Nat × (fMem)) :=
  vl (sI μ v0 24 ((μ.1 v0 24) + (1 : Int32))) fun μ9 => some (0, (μ9))
def f_X11_token_L0 (v0 : Nat)  (μ : fMem) : Option (Nat × (fMem)) :=
  bd (f_X11_here v0 μ) fun r2 μ1 => if r2 = (10 : Int32) then f_X11_token_j18 v0 μ1 else bd (f_X11_here v0 μ1) fun r6 μ5 => if r6 = (32 : Int32) then f_X11_token_j18 v0 μ5 else some (1, (μ5))
def f_X11_token_j204 (v0 : Nat) (t0 : Nat) (t1 : Int32) (μ : fMem) : Option (Nat × (fMem)) :=
  vl (sI μ t0 27 t1) fun μ42 => vl (sI μ42 v0 24 ((μ42.1 v0 24) + (1 : Int32))) fun μ43 => some (0, (μ43))
def f_X11_token_L162 (v0 : Nat)  (μ : fMem) : Option (Nat × (fMem)) :=
  bd (f_X11_here v0 μ) fun r32 μ31 => bd (f_X11_isDigit r32 μ31) fun r35 μ34 => if r35 = 0 then some (1, (μ34)) else if (μ34.1 v0 27) ≤ (99999 : Int32) then bd (f_X11_here v0 μ34) fun r40 μ39 => f_X11_token_j204 v0 v0 ((((10 : Int32) * (μ34.1 v0 27)) + r40) - (48 : Int32)) μ39 else f_X11_token_j204 v0 v0 (μ34.1 v0 27) μ34
def f_X11_token_L64 (v0 : Nat)  (μ : fMem) : Option (Nat × (fMem)) :=
  bd (f_X11_here v0 μ) fun r49 μ48 => bd (f_X11_isSmall r49 μ48) fun r52 μ51 => if r52 = 0 then some (1, (μ51)) else vl (sI μ51 v0 24 ((μ51.1 v0 24) + (1 : Int32))) fun μ55 => some (0, (μ55))
def f_X11_token_j127 (v0 : Nat) (t0 : Nat) (t1 : Int32) (μ : fMem) : Option (Unit × fMem) :=
  vl (sI μ t0 26 t1) fun μ68 => if (μ68.1 v0 26) = (1 : Int32) then bd (f_X11_name v0 μ68) fun r71 μ70 => some ((), μ70) else some ((), μ68)
def f_X11_token (v0 : Nat) (μ : fMem) : Option (Unit × fMem) :=
  bd (lpn (fun (q : fMem) => f_X11_token_L0 v0 q) fuel (μ)) fun t10 q11 => (fun  (q11 : fMem) => vl (sI q11 v0 25 (q11.1 v0 24)) fun μ13 => bd (f_X11_here v0 μ13) fun r15 μ14 => if r15 = (-1 : Int32) then vl (sI μ14 v0 26 (4 : Int32)) fun μ66 => some ((), μ66) else bd (f_X11_isSmall r15 μ14) fun r19 μ18 => if r19 = 0 then bd (f_X11_isDigit r15 μ18) fun r23 μ22 => if r23 = 0 then bd (f_X11_sign v0 r15 μ22) fun r27 μ26 => some ((), μ26) else vl (sI μ22 v0 26 (2 : Int32)) fun μ29 => vl (sI μ29 v0 27 (0 : Int32)) fun μ30 => bd (lpn (fun (q : fMem) => f_X11_token_L162 v0 q) fuel (μ30)) fun t44 q45 => (fun  (q45 : fMem) => some ((), q45)) q45 else bd (lpn (fun (q : fMem) => f_X11_token_L64 v0 q) fuel (μ18)) fun t56 q57 => (fun  (q57 : fMem) => bd (f_X11_word v0 q57) fun r60 μ59 => vl (sI μ59 v0 27 r60) fun μ62 => if (μ62.1 v0 27) = (-1 : Int32) then if ((μ62.1 v0 24) - (μ62.1 v0 25)) ≤ (6 : Int32) then f_X11_token_j127 v0 v0 (1 : Int32) μ62 else f_X11_token_j127 v0 v0 (5 : Int32) μ62 else f_X11_token_j127 v0 v0 (0 : Int32) μ62) q57) q11
def rm_X11_token : Room := { frames := 5, cells := 0, slots := 0, locals := 143 }
set_option maxHeartbeats 4000000 in
set_option maxRecDepth 100000 in
theorem m_X11_token (l : Launch) (w : fW) (hJ : fJ w) (hw : w.2.2.2 = sd 1) (v0 : Nat) (hk0 : kd v0 = (4, 11)) (μ : fMem) {r : Unit} {μr : fMem} (h : f_X11_token v0 μ = some (r, μr)) : Met l yX11_token (.code yX11_token cX11_token 2 none :: gw) rm_X11_token (fPc w [.ref (w.2.2.1 v0)] μ) (fQv w μr) 0 0 (fA w) := by
  refine met_of hJ (by decide) ?_ (Nat.le_of_ble_eq_true rfl)
  generalize ([.ref (w.2.2.1 v0)] : List Value).toArray = args
  intro p e s m below meth c ls C hr hP hl hS
  obtain ⟨hx, hb, hml, hown, hts, hK, -, hlk, hT⟩ := id C
  have hl : lv_has ls 2 [(0, .ref (w.2.2.1 v0))] := hl
  unfold f_X11_token at h
  have J127 : ∀ (t0 : Nat) (t1 : Int32) (μ : fMem) (_ : kd t0 = (4, 11)) (_ : inW w.2.2.2 t0), f_X11_token_j127 v0 t0 t1 μ = some (r, μr) → WW p l e rm_X11_token s m args below meth c (MQ below (fQv w μr) args s 0 0 (fA w)) w μ 2 127 [.int t1, .ref (w.2.2.1 t0)] [(0, .ref (w.2.2.1 v0))] := by
    intro t0 t1 μ kt0 it0 h H locs ls hP hS hl
    unfold f_X11_token_j127 at h
    refine r_putI C hP hS it0 kt0 fp_X11_167 rfl dX11_token_127 (fun H locs hP hS => ?_)
    obtain ⟨μ68, eμ68, h⟩ := vl_ex h
    have hP : fP w μ68 H := by rw [eμ68]; exact hP
    refine lv_aload_n hx hb dX11_token_130 rfl (lv_at hl 0 rfl) ?_
    refine r_getI C hP (iw hw (fi_11 hk0)) hk0 fl_X11_167 (Or.inl rfl) dX11_token_131 ?_
    refine lv_iconst (v := (1)) hx hb dX11_token_134 (by decide) ?_
    refine lv_icmp_ne (tgt := 225) hx hb dX11_token_135 (by decide) (fun c69 => ?_) (fun c69 => ?_)
    · replace h := if_f c69 h
      exact r_vret C hr hP hS h dX11_token_225
    · replace h := if_t c69 h
      refine lv_aload_n hx hb dX11_token_138 rfl (lv_at hl 0 rfl) ?_
      obtain ⟨r71, μ70, h72, h⟩ := bd_ok h
      refine go_v (callV_run (As := []) (rest := []) C hl hP (hS.wide hJ).2.1 (iw hw (fi_11 hk0)) hk0 (m_X11_name l w hJ hw v0 hk0 μ68 h72) mv_X11_180 ⟨rfl, rfl, by decide, by decide⟩ rfl rfl (Nat.le_of_ble_eq_true rfl) ⟨Nat.zero_le _, Nat.zero_le _⟩ dX11_token_139) hS (fun H locs hP hS => ?_)
      refine lv_goto (tgt := 225) hx hb dX11_token_142 (by decide) ?_
      exact r_vret C hr hP hS h dX11_token_225
  obtain ⟨t10, q11, h67, h⟩ := bd_ok h
  refine lpn_ind (b := (fun (q : fMem) => f_X11_token_L0 v0 q)) (P := fun (q : fMem) => WW p l e rm_X11_token s m args below meth c (MQ below (fQv w μr) args s 0 0 (fA w)) w q 2 0 [] [(0, .ref (w.2.2.1 v0))]) (K := fun _ (q : fMem) => WW p l e rm_X11_token s m args below meth c (MQ below (fQv w μr) args s 0 0 (fA w)) w q 2 31 [] [(0, .ref (w.2.2.1 v0))]) ?_ fuel (μ) t10 q11 h67 ?_ _ _ _ hP hS (lv_sub hl [0] rfl)
  · intro μ tz0 sz0 h hP0_0 hK0_0 H locs ls hP hS hl
    have hP : fP w μ H := hP
    have hl : lv_has ls 2 [(0, .ref (w.2.2.1 v0))] := hl
    have h : f_X11_token_L0 v0  μ = some (tz0, sz0) := h
    unfold f_X11_token_L0 at h
    have J18 : ∀  (μ : fMem), f_X11_token_j18 v0 μ = some (tz0, sz0) → WW p l e rm_X11_token s m args below meth c (MQ below (fQv w μr) args s 0 0 (fA w)) w μ 2 18 [] [(0, .ref (w.2.2.1 v0))] := by
      intro  μ  h H locs ls hP hS hl
      unfold f_X11_token_j18 at h
      refine lv_aload_n hx hb dX11_token_18 rfl (lv_at hl 0 rfl) ?_
      refine lv_dup hx hb dX11_token_19 rfl ?_
      refine r_getI C hP (iw hw (fi_11 hk0)) hk0 fl_X11_154 (Or.inl rfl) dX11_token_20 ?_
      refine lv_iconst (v := (1)) hx hb dX11_token_23 (by decide) ?_
      refine lv_iadd hx hb dX11_token_24 ?_
      refine r_putI C hP hS (iw hw (fi_11 hk0)) hk0 fp_X11_154 rfl dX11_token_25 (fun H locs hP hS => ?_)
      obtain ⟨μ9, eμ9, h⟩ := vl_ex h
      have hP : fP w μ9 H := by rw [eμ9]; exact hP
      refine lv_goto (tgt := 0) hx hb dX11_token_28 (by decide) ?_
      obtain ⟨rfl, rfl⟩ := leaf h
      exact hP0_0 rfl _ _ _ hP hS (lv_sub hl [0] rfl)
    refine lv_aload_n hx hb dX11_token_0 rfl (lv_at hl 0 rfl) ?_
    obtain ⟨r2, μ1, h3, h⟩ := bd_ok h
    refine go_i (callV_run (As := []) (rest := []) C hl hP (hS.wide hJ).2.1 (iw hw (fi_11 hk0)) hk0 (m_X11_here l w hJ hw v0 hk0 μ h3) mv_X11_160 ⟨rfl, rfl, by decide, by decide⟩ rfl rfl (Nat.le_of_ble_eq_true rfl) ⟨Nat.zero_le _, Nat.zero_le _⟩ dX11_token_1) hS (fun H locs hP hS => ?_)
    refine lv_bipush (v := (10)) hx hb dX11_token_4 (by decide) ?_
    refine lv_icmp_eq (tgt := 18) hx hb dX11_token_6 (by decide) (fun c4 => ?_) (fun c4 => ?_)
    · replace h := if_t c4 h
      exact J18  μ1  h _ _ _ hP hS (lv_sub hl [0] rfl)
    · replace h := if_f c4 h
      refine lv_aload_n hx hb dX11_token_9 rfl (lv_at hl 0 rfl) ?_
      obtain ⟨r6, μ5, h7, h⟩ := bd_ok h
      refine go_i (callV_run (As := []) (rest := []) C hl hP (hS.wide hJ).2.1 (iw hw (fi_11 hk0)) hk0 (m_X11_here l w hJ hw v0 hk0 μ1 h7) mv_X11_160 ⟨rfl, rfl, by decide, by decide⟩ rfl rfl (Nat.le_of_ble_eq_true rfl) ⟨Nat.zero_le _, Nat.zero_le _⟩ dX11_token_10) hS (fun H locs hP hS => ?_)
      refine lv_bipush (v := (32)) hx hb dX11_token_13 (by decide) ?_
      refine lv_icmp_ne (tgt := 31) hx hb dX11_token_15 (by decide) (fun c8 => ?_) (fun c8 => ?_)
      · replace h := if_f c8 h
        obtain ⟨rfl, rfl⟩ := leaf h
        exact (hK0_0 0 rfl) _ _ _ hP hS (lv_sub hl [0] rfl)
      · replace h := if_t c8 h
        exact J18  μ5  h _ _ _ hP hS (lv_sub hl [0] rfl)
  · skip
    intro H locs ls hP hS hl
    have hP : fP w q11 H := hP
    have hl : lv_has ls 2 [(0, .ref (w.2.2.1 v0))] := hl
    try dsimp only at h
    refine lv_aload_n hx hb dX11_token_31 rfl (lv_at hl 0 rfl) ?_
    refine lv_aload_n hx hb dX11_token_32 rfl (lv_at hl 0 rfl) ?_
    refine r_getI C hP (iw hw (fi_11 hk0)) hk0 fl_X11_154 (Or.inl rfl) dX11_token_33 ?_
    refine r_putI C hP hS (iw hw (fi_11 hk0)) hk0 fp_X11_164 rfl dX11_token_36 (fun H locs hP hS => ?_)
    obtain ⟨μ13, eμ13, h⟩ := vl_ex h
    have hP : fP w μ13 H := by rw [eμ13]; exact hP
    refine lv_aload_n hx hb dX11_token_39 rfl (lv_at hl 0 rfl) ?_
    obtain ⟨r15, μ14, h16, h⟩ := bd_ok h
    refine go_i (callV_run (As := []) (rest := []) C hl hP (hS.wide hJ).2.1 (iw hw (fi_11 hk0)) hk0 (m_X11_here l w hJ hw v0 hk0 μ13 h16) mv_X11_160 ⟨rfl, rfl, by decide, by decide⟩ rfl rfl (Nat.le_of_ble_eq_true rfl) ⟨Nat.zero_le _, Nat.zero_le _⟩ dX11_token_40) hS (fun H locs hP hS => ?_)
    refine lv_istore_n (lv' := [(1, .int r15), (0, .ref (w.2.2.1 v0))]) hx hb dX11_token_43 rfl hl (by decide) rfl (fun ls hl => ?_)
    refine lv_iload_n hx hb dX11_token_44 rfl (lv_at hl 0 rfl) ?_
    refine lv_iconst (v := (-1)) hx hb dX11_token_45 (by decide) ?_
    refine lv_icmp_ne (tgt := 57) hx hb dX11_token_46 (by decide) (fun c17 => ?_) (fun c17 => ?_)
    · replace h := if_f c17 h
      refine lv_iload_n hx hb dX11_token_57 rfl (lv_at hl 0 rfl) ?_
      obtain ⟨r19, μ18, h20, h⟩ := bd_ok h
      refine go_i (callS_run (As := [.int r15]) (rest := []) C hl hP (hS.wide hJ).2.1 (m_X11_isSmall l w hJ hw r15  μ14 h20) ms_X11_170 ⟨rfl, rfl, by decide, by decide⟩ rfl rfl (Nat.le_of_ble_eq_true rfl) ⟨Nat.zero_le _, Nat.zero_le _⟩ dX11_token_58) hS (fun H locs hP hS => ?_)
      refine lv_if_eq (tgt := 145) hx hb dX11_token_61 (by decide) (fun c21 => ?_) (fun c21 => ?_)
      · replace h := if_t c21 h
        refine lv_iload_n hx hb dX11_token_145 rfl (lv_at hl 0 rfl) ?_
        obtain ⟨r23, μ22, h24, h⟩ := bd_ok h
        refine go_i (callS_run (As := [.int r15]) (rest := []) C hl hP (hS.wide hJ).2.1 (m_X11_isDigit l w hJ hw r15  μ18 h24) ms_X11_183 ⟨rfl, rfl, by decide, by decide⟩ rfl rfl (Nat.le_of_ble_eq_true rfl) ⟨Nat.zero_le _, Nat.zero_le _⟩ dX11_token_146) hS (fun H locs hP hS => ?_)
        refine lv_if_eq (tgt := 220) hx hb dX11_token_149 (by decide) (fun c25 => ?_) (fun c25 => ?_)
        · replace h := if_t c25 h
          refine lv_aload_n hx hb dX11_token_220 rfl (lv_at hl 1 rfl) ?_
          refine lv_iload_n hx hb dX11_token_221 rfl (lv_at hl 0 rfl) ?_
          obtain ⟨r27, μ26, h28, h⟩ := bd_ok h
          refine go_v (callV_run (As := [.int r15]) (rest := []) C hl hP (hS.wide hJ).2.1 (iw hw (fi_11 hk0)) hk0 (m_X11_sign l w hJ hw v0 r15 hk0 μ22 h28) mv_X11_187 ⟨rfl, rfl, by decide, by decide⟩ rfl rfl (Nat.le_of_ble_eq_true rfl) ⟨Nat.zero_le _, Nat.zero_le _⟩ dX11_token_222) hS (fun H locs hP hS => ?_)
          exact r_vret C hr hP hS h dX11_token_225
        · replace h := if_f c25 h
          refine lv_aload_n hx hb dX11_token_152 rfl (lv_at hl 1 rfl) ?_
          refine lv_iconst (v := (2)) hx hb dX11_token_153 (by decide) ?_
          refine r_putI C hP hS (iw hw (fi_11 hk0)) hk0 fp_X11_167 rfl dX11_token_154 (fun H locs hP hS => ?_)
          obtain ⟨μ29, eμ29, h⟩ := vl_ex h
          have hP : fP w μ29 H := by rw [eμ29]; exact hP
          refine lv_aload_n hx hb dX11_token_157 rfl (lv_at hl 1 rfl) ?_
          refine lv_iconst (v := (0)) hx hb dX11_token_158 (by decide) ?_
          refine r_putI C hP hS (iw hw (fi_11 hk0)) hk0 fp_X11_177 rfl dX11_token_159 (fun H locs hP hS => ?_)
          obtain ⟨μ30, eμ30, h⟩ := vl_ex h
          have hP : fP w μ30 H := by rw [eμ30]; exact hP
          obtain ⟨t44, q45, h47, h⟩ := bd_ok h
          refine lpn_ind (b := (fun (q : fMem) => f_X11_token_L162 v0 q)) (P := fun (q : fMem) => WW p l e rm_X11_token s m args below meth c (MQ below (fQv w μr) args s 0 0 (fA w)) w q 2 162 [] [(0, .ref (w.2.2.1 v0))]) (K := fun _ (q : fMem) => WW p l e rm_X11_token s m args below meth c (MQ below (fQv w μr) args s 0 0 (fA w)) w q 2 225 [] []) ?_ fuel (μ30) t44 q45 h47 ?_ _ _ _ hP hS (lv_sub hl [1] rfl)
          · intro μ tz162 sz162 h hP0_162 hK0_162 H locs ls hP hS hl
            have hP : fP w μ H := hP
            have hl : lv_has ls 2 [(0, .ref (w.2.2.1 v0))] := hl
            have h : f_X11_token_L162 v0  μ = some (tz162, sz162) := h
            unfold f_X11_token_L162 at h
            have J204 : ∀ (t0 : Nat) (t1 : Int32) (μ : fMem) (_ : kd t0 = (4, 11)) (_ : inW w.2.2.2 t0), f_X11_token_j204 v0 t0 t1 μ = some (tz162, sz162) → WW p l e rm_X11_token s m args below meth c (MQ below (fQv w μr) args s 0 0 (fA w)) w μ 2 204 [.int t1, .ref (w.2.2.1 t0)] [(0, .ref (w.2.2.1 v0))] := by
              intro t0 t1 μ kt0 it0 h H locs ls hP hS hl
              unfold f_X11_token_j204 at h
              refine r_putI C hP hS it0 kt0 fp_X11_177 rfl dX11_token_204 (fun H locs hP hS => ?_)
              obtain ⟨μ42, eμ42, h⟩ := vl_ex h
              have hP : fP w μ42 H := by rw [eμ42]; exact hP
              refine lv_aload_n hx hb dX11_token_207 rfl (lv_at hl 0 rfl) ?_
              refine lv_dup hx hb dX11_token_208 rfl ?_
              refine r_getI C hP (iw hw (fi_11 hk0)) hk0 fl_X11_154 (Or.inl rfl) dX11_token_209 ?_
              refine lv_iconst (v := (1)) hx hb dX11_token_212 (by decide) ?_
              refine lv_iadd hx hb dX11_token_213 ?_
              refine r_putI C hP hS (iw hw (fi_11 hk0)) hk0 fp_X11_154 rfl dX11_token_214 (fun H locs hP hS => ?_)
              obtain ⟨μ43, eμ43, h⟩ := vl_ex h
              have hP : fP w μ43 H := by rw [eμ43]; exact hP
              refine lv_goto (tgt := 162) hx hb dX11_token_217 (by decide) ?_
              obtain ⟨rfl, rfl⟩ := leaf h
              exact hP0_162 rfl _ _ _ hP hS (lv_sub hl [0] rfl)
            refine lv_aload_n hx hb dX11_token_162 rfl (lv_at hl 0 rfl) ?_
            obtain ⟨r32, μ31, h33, h⟩ := bd_ok h
            refine go_i (callV_run (As := []) (rest := []) C hl hP (hS.wide hJ).2.1 (iw hw (fi_11 hk0)) hk0 (m_X11_here l w hJ hw v0 hk0 μ h33) mv_X11_160 ⟨rfl, rfl, by decide, by decide⟩ rfl rfl (Nat.le_of_ble_eq_true rfl) ⟨Nat.zero_le _, Nat.zero_le _⟩ dX11_token_163) hS (fun H locs hP hS => ?_)
            obtain ⟨r35, μ34, h36, h⟩ := bd_ok h
            refine go_i (callS_run (As := [.int r32]) (rest := []) C hl hP (hS.wide hJ).2.1 (m_X11_isDigit l w hJ hw r32  μ31 h36) ms_X11_183 ⟨rfl, rfl, by decide, by decide⟩ rfl rfl (Nat.le_of_ble_eq_true rfl) ⟨Nat.zero_le _, Nat.zero_le _⟩ dX11_token_166) hS (fun H locs hP hS => ?_)
            refine lv_if_eq (tgt := 225) hx hb dX11_token_169 (by decide) (fun c37 => ?_) (fun c37 => ?_)
            · replace h := if_t c37 h
              obtain ⟨rfl, rfl⟩ := leaf h
              exact (hK0_162 0 rfl) _ _ _ hP hS (lv_sub hl [] rfl)
            · replace h := if_f c37 h
              refine lv_aload_n hx hb dX11_token_172 rfl (lv_at hl 0 rfl) ?_
              refine lv_aload_n hx hb dX11_token_173 rfl (lv_at hl 0 rfl) ?_
              refine r_getI C hP (iw hw (fi_11 hk0)) hk0 fl_X11_177 (Or.inl rfl) dX11_token_174 ?_
              refine lv_ldc hx hb hown (hts _ ct_X11_186) dX11_token_177 ?_
              refine lv_icmp_le (tgt := 189) hx hb dX11_token_179 (by decide) (fun c38 => ?_) (fun c38 => ?_)
              · replace h := if_t c38 h
                refine lv_bipush (v := (10)) hx hb dX11_token_189 (by decide) ?_
                refine lv_aload_n hx hb dX11_token_191 rfl (lv_at hl 0 rfl) ?_
                refine r_getI C hP (iw hw (fi_11 hk0)) hk0 fl_X11_177 (Or.inl rfl) dX11_token_192 ?_
                refine lv_imul hx hb dX11_token_195 ?_
                refine lv_aload_n hx hb dX11_token_196 rfl (lv_at hl 0 rfl) ?_
                obtain ⟨r40, μ39, h41, h⟩ := bd_ok h
                refine go_i (callV_run (As := []) (rest := [.int ((10 : Int32) * (μ34.1 v0 27)), .ref (w.2.2.1 v0)]) C hl hP (hS.wide hJ).2.1 (iw hw (fi_11 hk0)) hk0 (m_X11_here l w hJ hw v0 hk0 μ34 h41) mv_X11_160 ⟨rfl, rfl, by decide, by decide⟩ rfl rfl (Nat.le_of_ble_eq_true rfl) ⟨Nat.zero_le _, Nat.zero_le _⟩ dX11_token_197) hS (fun H locs hP hS => ?_)
                refine lv_iadd hx hb dX11_token_200 ?_
                refine lv_bipush (v := (48)) hx hb dX11_token_201 (by decide) ?_
                refine lv_isub hx hb dX11_token_203 ?_
                exact J204 v0 ((((10 : Int32) * (μ34.1 v0 27)) + r40) - (48 : Int32)) μ39 hk0 (iw hw (fi_11 hk0)) h _ _ _ hP hS (lv_sub hl [0] rfl)
              · replace h := if_f c38 h
                refine lv_aload_n hx hb dX11_token_182 rfl (lv_at hl 0 rfl) ?_
                refine r_getI C hP (iw hw (fi_11 hk0)) hk0 fl_X11_177 (Or.inl rfl) dX11_token_183 ?_
                refine lv_goto (tgt := 204) hx hb dX11_token_186 (by decide) ?_
                exact J204 v0 (μ34.1 v0 27) μ34 hk0 (iw hw (fi_11 hk0)) h _ _ _ hP hS (lv_sub hl [0] rfl)
          · skip
            intro H locs ls hP hS hl
            have hP : fP w q45 H := hP
            have hl : lv_has ls 2 [] := hl
            try dsimp only at h
            exact r_vret C hr hP hS h dX11_token_225
      · replace h := if_f c21 h
        obtain ⟨t56, q57, h65, h⟩ := bd_ok h
        refine lpn_ind (b := (fun (q : fMem) => f_X11_token_L64 v0 q)) (P := fun (q : fMem) => WW p l e rm_X11_token s m args below meth c (MQ below (fQv w μr) args s 0 0 (fA w)) w q 2 64 [] [(0, .ref (w.2.2.1 v0))]) (K := fun _ (q : fMem) => WW p l e rm_X11_token s m args below meth c (MQ below (fQv w μr) args s 0 0 (fA w)) w q 2 87 [] [(0, .ref (w.2.2.1 v0))]) ?_ fuel (μ18) t56 q57 h65 ?_ _ _ _ hP hS (lv_sub hl [1] rfl)
        · intro μ tz64 sz64 h hP0_64 hK0_64 H locs ls hP hS hl
          have hP : fP w μ H := hP
          have hl : lv_has ls 2 [(0, .ref (w.2.2.1 v0))] := hl
          have h : f_X11_token_L64 v0  μ = some (tz64, sz64) := h
          unfold f_X11_token_L64 at h
          refine lv_aload_n hx hb dX11_token_64 rfl (lv_at hl 0 rfl) ?_
          obtain ⟨r49, μ48, h50, h⟩ := bd_ok h
          refine go_i (callV_run (As := []) (rest := []) C hl hP (hS.wide hJ).2.1 (iw hw (fi_11 hk0)) hk0 (m_X11_here l w hJ hw v0 hk0 μ h50) mv_X11_160 ⟨rfl, rfl, by decide, by decide⟩ rfl rfl (Nat.le_of_ble_eq_true rfl) ⟨Nat.zero_le _, Nat.zero_le _⟩ dX11_token_65) hS (fun H locs hP hS => ?_)
          obtain ⟨r52, μ51, h53, h⟩ := bd_ok h
          refine go_i (callS_run (As := [.int r49]) (rest := []) C hl hP (hS.wide hJ).2.1 (m_X11_isSmall l w hJ hw r49  μ48 h53) ms_X11_170 ⟨rfl, rfl, by decide, by decide⟩ rfl rfl (Nat.le_of_ble_eq_true rfl) ⟨Nat.zero_le _, Nat.zero_le _⟩ dX11_token_68) hS (fun H locs hP hS => ?_)
          refine lv_if_eq (tgt := 87) hx hb dX11_token_71 (by decide) (fun c54 => ?_) (fun c54 => ?_)
          · replace h := if_t c54 h
            obtain ⟨rfl, rfl⟩ := leaf h
            exact (hK0_64 0 rfl) _ _ _ hP hS (lv_sub hl [0] rfl)
          · replace h := if_f c54 h
            refine lv_aload_n hx hb dX11_token_74 rfl (lv_at hl 0 rfl) ?_
            refine lv_dup hx hb dX11_token_75 rfl ?_
            refine r_getI C hP (iw hw (fi_11 hk0)) hk0 fl_X11_154 (Or.inl rfl) dX11_token_76 ?_
            refine lv_iconst (v := (1)) hx hb dX11_token_79 (by decide) ?_
            refine lv_iadd hx hb dX11_token_80 ?_
            refine r_putI C hP hS (iw hw (fi_11 hk0)) hk0 fp_X11_154 rfl dX11_token_81 (fun H locs hP hS => ?_)
            obtain ⟨μ55, eμ55, h⟩ := vl_ex h
            have hP : fP w μ55 H := by rw [eμ55]; exact hP
            refine lv_goto (tgt := 64) hx hb dX11_token_84 (by decide) ?_
            obtain ⟨rfl, rfl⟩ := leaf h
            exact hP0_64 rfl _ _ _ hP hS (lv_sub hl [0] rfl)
        · skip
          intro H locs ls hP hS hl
          have hP : fP w q57 H := hP
          have hl : lv_has ls 2 [(0, .ref (w.2.2.1 v0))] := hl
          try dsimp only at h
          refine lv_aload_n hx hb dX11_token_87 rfl (lv_at hl 0 rfl) ?_
          refine lv_aload_n hx hb dX11_token_88 rfl (lv_at hl 0 rfl) ?_
          obtain ⟨r60, μ59, h61, h⟩ := bd_ok h
          refine go_i (callV_run (As := []) (rest := [.ref (w.2.2.1 v0)]) C hl hP (hS.wide hJ).2.1 (iw hw (fi_11 hk0)) hk0 (m_X11_word l w hJ hw v0 hk0 q57 h61) mv_X11_174 ⟨rfl, rfl, by decide, by decide⟩ rfl rfl (Nat.le_of_ble_eq_true rfl) ⟨Nat.zero_le _, Nat.zero_le _⟩ dX11_token_89) hS (fun H locs hP hS => ?_)
          refine r_putI C hP hS (iw hw (fi_11 hk0)) hk0 fp_X11_177 rfl dX11_token_92 (fun H locs hP hS => ?_)
          obtain ⟨μ62, eμ62, h⟩ := vl_ex h
          have hP : fP w μ62 H := by rw [eμ62]; exact hP
          refine lv_aload_n hx hb dX11_token_95 rfl (lv_at hl 0 rfl) ?_
          refine lv_aload_n hx hb dX11_token_96 rfl (lv_at hl 0 rfl) ?_
          refine r_getI C hP (iw hw (fi_11 hk0)) hk0 fl_X11_177 (Or.inl rfl) dX11_token_97 ?_
          refine lv_iconst (v := (-1)) hx hb dX11_token_100 (by decide) ?_
          refine lv_icmp_eq (tgt := 108) hx hb dX11_token_101 (by decide) (fun c63 => ?_) (fun c63 => ?_)
          · replace h := if_t c63 h
            refine lv_aload_n hx hb dX11_token_108 rfl (lv_at hl 0 rfl) ?_
            refine r_getI C hP (iw hw (fi_11 hk0)) hk0 fl_X11_154 (Or.inl rfl) dX11_token_109 ?_
            refine lv_aload_n hx hb dX11_token_112 rfl (lv_at hl 0 rfl) ?_
            refine r_getI C hP (iw hw (fi_11 hk0)) hk0 fl_X11_164 (Or.inl rfl) dX11_token_113 ?_
            refine lv_isub hx hb dX11_token_116 ?_
            refine lv_bipush (v := (6)) hx hb dX11_token_117 (by decide) ?_
            refine lv_icmp_le (tgt := 126) hx hb dX11_token_119 (by decide) (fun c64 => ?_) (fun c64 => ?_)
            · replace h := if_t c64 h
              refine lv_iconst (v := (1)) hx hb dX11_token_126 (by decide) ?_
              exact J127 v0 (1 : Int32) μ62 hk0 (iw hw (fi_11 hk0)) h _ _ _ hP hS (lv_sub hl [0] rfl)
            · replace h := if_f c64 h
              refine lv_iconst (v := (5)) hx hb dX11_token_122 (by decide) ?_
              refine lv_goto (tgt := 127) hx hb dX11_token_123 (by decide) ?_
              exact J127 v0 (5 : Int32) μ62 hk0 (iw hw (fi_11 hk0)) h _ _ _ hP hS (lv_sub hl [0] rfl)
          · replace h := if_f c63 h
            refine lv_iconst (v := (0)) hx hb dX11_token_104 (by decide) ?_
            refine lv_goto (tgt := 127) hx hb dX11_token_105 (by decide) ?_
            exact J127 v0 (0 : Int32) μ62 hk0 (iw hw (fi_11 hk0)) h _ _ _ hP hS (lv_sub hl [0] rfl)
    · replace h := if_t c17 h
      refine lv_aload_n hx hb dX11_token_49 rfl (lv_at hl 1 rfl) ?_
      refine lv_iconst (v := (4)) hx hb dX11_token_50 (by decide) ?_
      refine r_putI C hP hS (iw hw (fi_11 hk0)) hk0 fp_X11_167 rfl dX11_token_51 (fun H locs hP hS => ?_)
      obtain ⟨μ66, eμ66, h⟩ := vl_ex h
      have hP : fP w μ66 H := by rw [eμ66]; exact hP
      refine lv_goto (tgt := 225) hx hb dX11_token_54 (by decide) ?_
      exact r_vret C hr hP hS h dX11_token_225

def f_X11_wrong (v0 : Nat) (v1 : Int32) (μ : fMem) : Option (Unit × fMem) :=
  if (μ.1 v0 28) = 0 then vl (sI μ v0 28 v1) fun μ2 => vl (sI μ2 v0 29 (μ2.1 v0 25)) fun μ3 => some ((), μ3) else some ((), μ)
def rm_X11_wrong : Room := { frames := 0, cells := 0, slots := 0, locals := 0 }
set_option maxHeartbeats 4000000 in
set_option maxRecDepth 100000 in
theorem m_X11_wrong (l : Launch) (w : fW) (hJ : fJ w) (hw : w.2.2.2 = sd 1) (v0 : Nat) (v1 : Int32) (hk0 : kd v0 = (4, 11)) (μ : fMem) {r : Unit} {μr : fMem} (h : f_X11_wrong v0 v1 μ = some (r, μr)) : Met l yX11_wrong (.code yX11_wrong cX11_wrong 2 none :: gw) rm_X11_wrong (fPc w [.ref (w.2.2.1 v0), .int v1] μ) (fQv w μr) 0 0 (fA w) := by
  refine met_of hJ (by decide) ?_ (Nat.le_of_ble_eq_true rfl)
  generalize ([.ref (w.2.2.1 v0), .int v1] : List Value).toArray = args
  intro p e s m below meth c ls C hr hP hl hS
  obtain ⟨hx, hb, hml, hown, hts, hK, -, hlk, hT⟩ := id C
  have hl : lv_has ls 2 [(0, .ref (w.2.2.1 v0)), (1, .int v1)] := hl
  unfold f_X11_wrong at h
  refine lv_aload_n hx hb dX11_wrong_0 rfl (lv_at hl 0 rfl) ?_
  refine r_getI C hP (iw hw (fi_11 hk0)) hk0 fl_X11_202 (Or.inl rfl) dX11_wrong_1 ?_
  refine lv_if_eq (tgt := 8) hx hb dX11_wrong_4 (by decide) (fun c1 => ?_) (fun c1 => ?_)
  · replace h := if_t c1 h
    refine lv_aload_n hx hb dX11_wrong_8 rfl (lv_at hl 0 rfl) ?_
    refine lv_iload_n hx hb dX11_wrong_9 rfl (lv_at hl 1 rfl) ?_
    refine r_putI C hP hS (iw hw (fi_11 hk0)) hk0 fp_X11_202 rfl dX11_wrong_10 (fun H locs hP hS => ?_)
    obtain ⟨μ2, eμ2, h⟩ := vl_ex h
    have hP : fP w μ2 H := by rw [eμ2]; exact hP
    refine lv_aload_n hx hb dX11_wrong_13 rfl (lv_at hl 0 rfl) ?_
    refine lv_aload_n hx hb dX11_wrong_14 rfl (lv_at hl 0 rfl) ?_
    refine r_getI C hP (iw hw (fi_11 hk0)) hk0 fl_X11_164 (Or.inl rfl) dX11_wrong_15 ?_
    refine r_putI C hP hS (iw hw (fi_11 hk0)) hk0 fp_X11_205 rfl dX11_wrong_18 (fun H locs hP hS => ?_)
    obtain ⟨μ3, eμ3, h⟩ := vl_ex h
    have hP : fP w μ3 H := by rw [eμ3]; exact hP
    exact r_vret C hr hP hS h dX11_wrong_21
  · replace h := if_f c1 h
    exact r_vret C hr hP hS h dX11_wrong_7

def f_X11_isWord (v0 : Nat) (v1 : Int32) (μ : fMem) : Option (Int32 × fMem) :=
  if (μ.1 v0 28) = 0 then if (μ.1 v0 26) = 0 then if (μ.1 v0 27) = v1 then gd (bl (1 : Int32)) (some ((1 : Int32), μ)) else gd (bl (0 : Int32)) (some ((0 : Int32), μ)) else gd (bl (0 : Int32)) (some ((0 : Int32), μ)) else gd (bl (0 : Int32)) (some ((0 : Int32), μ))
def rm_X11_isWord : Room := { frames := 0, cells := 0, slots := 0, locals := 0 }
set_option maxHeartbeats 4000000 in
set_option maxRecDepth 100000 in
theorem m_X11_isWord (l : Launch) (w : fW) (hJ : fJ w) (hw : w.2.2.2 = sd 1) (v0 : Nat) (v1 : Int32) (hk0 : kd v0 = (4, 11)) (μ : fMem) {r : Int32} {μr : fMem} (h : f_X11_isWord v0 v1 μ = some (r, μr)) : Met l yX11_isWord (.code yX11_isWord cX11_isWord 2 (some .boolean) :: gw) rm_X11_isWord (fPc w [.ref (w.2.2.1 v0), .int v1] μ) (fQi w r μr) 0 0 (fA w) := by
  refine met_of hJ (by decide) ?_ (Nat.le_of_ble_eq_true rfl)
  generalize ([.ref (w.2.2.1 v0), .int v1] : List Value).toArray = args
  intro p e s m below meth c ls C hr hP hl hS
  obtain ⟨hx, hb, hml, hown, hts, hK, -, hlk, hT⟩ := id C
  have hl : lv_has ls 2 [(0, .ref (w.2.2.1 v0)), (1, .int v1)] := hl
  unfold f_X11_isWord at h
  refine lv_aload_n hx hb dX11_isWord_0 rfl (lv_at hl 0 rfl) ?_
  refine r_getI C hP (iw hw (fi_11 hk0)) hk0 fl_X11_202 (Or.inl rfl) dX11_isWord_1 ?_
  refine lv_if_ne (tgt := 26) hx hb dX11_isWord_4 (by decide) (fun c1 => ?_) (fun c1 => ?_)
  · replace h := if_f c1 h
    refine lv_iconst (v := (0)) hx hb dX11_isWord_26 (by decide) ?_
    exact r_zret C hr hP hS h dX11_isWord_27
  · replace h := if_t c1 h
    refine lv_aload_n hx hb dX11_isWord_7 rfl (lv_at hl 0 rfl) ?_
    refine r_getI C hP (iw hw (fi_11 hk0)) hk0 fl_X11_167 (Or.inl rfl) dX11_isWord_8 ?_
    refine lv_if_ne (tgt := 26) hx hb dX11_isWord_11 (by decide) (fun c2 => ?_) (fun c2 => ?_)
    · replace h := if_f c2 h
      refine lv_iconst (v := (0)) hx hb dX11_isWord_26 (by decide) ?_
      exact r_zret C hr hP hS h dX11_isWord_27
    · replace h := if_t c2 h
      refine lv_aload_n hx hb dX11_isWord_14 rfl (lv_at hl 0 rfl) ?_
      refine r_getI C hP (iw hw (fi_11 hk0)) hk0 fl_X11_177 (Or.inl rfl) dX11_isWord_15 ?_
      refine lv_iload_n hx hb dX11_isWord_18 rfl (lv_at hl 1 rfl) ?_
      refine lv_icmp_ne (tgt := 26) hx hb dX11_isWord_19 (by decide) (fun c3 => ?_) (fun c3 => ?_)
      · replace h := if_f c3 h
        refine lv_iconst (v := (0)) hx hb dX11_isWord_26 (by decide) ?_
        exact r_zret C hr hP hS h dX11_isWord_27
      · replace h := if_t c3 h
        refine lv_iconst (v := (1)) hx hb dX11_isWord_22 (by decide) ?_
        refine lv_goto (tgt := 27) hx hb dX11_isWord_23 (by decide) ?_
        exact r_zret C hr hP hS h dX11_isWord_27

def f_X11_isSign (v0 : Nat) (v1 : Int32) (μ : fMem) : Option (Int32 × fMem) :=
  if (μ.1 v0 28) = 0 then if (μ.1 v0 26) = (3 : Int32) then if (μ.1 v0 27) = v1 then gd (bl (1 : Int32)) (some ((1 : Int32), μ)) else gd (bl (0 : Int32)) (some ((0 : Int32), μ)) else gd (bl (0 : Int32)) (some ((0 : Int32), μ)) else gd (bl (0 : Int32)) (some ((0 : Int32), μ))
def rm_X11_isSign : Room := { frames := 0, cells := 0, slots := 0, locals := 0 }
set_option maxHeartbeats 4000000 in
set_option maxRecDepth 100000 in
theorem m_X11_isSign (l : Launch) (w : fW) (hJ : fJ w) (hw : w.2.2.2 = sd 1) (v0 : Nat) (v1 : Int32) (hk0 : kd v0 = (4, 11)) (μ : fMem) {r : Int32} {μr : fMem} (h : f_X11_isSign v0 v1 μ = some (r, μr)) : Met l yX11_isSign (.code yX11_isSign cX11_isSign 2 (some .boolean) :: gw) rm_X11_isSign (fPc w [.ref (w.2.2.1 v0), .int v1] μ) (fQi w r μr) 0 0 (fA w) := by
  refine met_of hJ (by decide) ?_ (Nat.le_of_ble_eq_true rfl)
  generalize ([.ref (w.2.2.1 v0), .int v1] : List Value).toArray = args
  intro p e s m below meth c ls C hr hP hl hS
  obtain ⟨hx, hb, hml, hown, hts, hK, -, hlk, hT⟩ := id C
  have hl : lv_has ls 2 [(0, .ref (w.2.2.1 v0)), (1, .int v1)] := hl
  unfold f_X11_isSign at h
  refine lv_aload_n hx hb dX11_isSign_0 rfl (lv_at hl 0 rfl) ?_
  refine r_getI C hP (iw hw (fi_11 hk0)) hk0 fl_X11_202 (Or.inl rfl) dX11_isSign_1 ?_
  refine lv_if_ne (tgt := 27) hx hb dX11_isSign_4 (by decide) (fun c1 => ?_) (fun c1 => ?_)
  · replace h := if_f c1 h
    refine lv_iconst (v := (0)) hx hb dX11_isSign_27 (by decide) ?_
    exact r_zret C hr hP hS h dX11_isSign_28
  · replace h := if_t c1 h
    refine lv_aload_n hx hb dX11_isSign_7 rfl (lv_at hl 0 rfl) ?_
    refine r_getI C hP (iw hw (fi_11 hk0)) hk0 fl_X11_167 (Or.inl rfl) dX11_isSign_8 ?_
    refine lv_iconst (v := (3)) hx hb dX11_isSign_11 (by decide) ?_
    refine lv_icmp_ne (tgt := 27) hx hb dX11_isSign_12 (by decide) (fun c2 => ?_) (fun c2 => ?_)
    · replace h := if_f c2 h
      refine lv_iconst (v := (0)) hx hb dX11_isSign_27 (by decide) ?_
      exact r_zret C hr hP hS h dX11_isSign_28
    · replace h := if_t c2 h
      refine lv_aload_n hx hb dX11_isSign_15 rfl (lv_at hl 0 rfl) ?_
      refine r_getI C hP (iw hw (fi_11 hk0)) hk0 fl_X11_177 (Or.inl rfl) dX11_isSign_16 ?_
      refine lv_iload_n hx hb dX11_isSign_19 rfl (lv_at hl 1 rfl) ?_
      refine lv_icmp_ne (tgt := 27) hx hb dX11_isSign_20 (by decide) (fun c3 => ?_) (fun c3 => ?_)
      · replace h := if_f c3 h
        refine lv_iconst (v := (0)) hx hb dX11_isSign_27 (by decide) ?_
        exact r_zret C hr hP hS h dX11_isSign_28
      · replace h := if_t c3 h
        refine lv_iconst (v := (1)) hx hb dX11_isSign_23 (by decide) ?_
        refine lv_goto (tgt := 28) hx hb dX11_isSign_24 (by decide) ?_
        exact r_zret C hr hP hS h dX11_isSign_28

def f_X11_goOn (v0 : Nat) (μ : fMem) : Option (Unit × fMem) :=
  if (μ.1 v0 28) = 0 then bd (f_X11_token v0 μ) fun r3 μ2 => some ((), μ2) else some ((), μ)
def rm_X11_goOn : Room := { frames := 6, cells := 0, slots := 0, locals := 164 }
set_option maxHeartbeats 4000000 in
set_option maxRecDepth 100000 in
theorem m_X11_goOn (l : Launch) (w : fW) (hJ : fJ w) (hw : w.2.2.2 = sd 1) (v0 : Nat) (hk0 : kd v0 = (4, 11)) (μ : fMem) {r : Unit} {μr : fMem} (h : f_X11_goOn v0 μ = some (r, μr)) : Met l yX11_goOn (.code yX11_goOn cX11_goOn 1 none :: gw) rm_X11_goOn (fPc w [.ref (w.2.2.1 v0)] μ) (fQv w μr) 0 0 (fA w) := by
  refine met_of hJ (by decide) ?_ (Nat.le_of_ble_eq_true rfl)
  generalize ([.ref (w.2.2.1 v0)] : List Value).toArray = args
  intro p e s m below meth c ls C hr hP hl hS
  obtain ⟨hx, hb, hml, hown, hts, hK, -, hlk, hT⟩ := id C
  have hl : lv_has ls 1 [(0, .ref (w.2.2.1 v0))] := hl
  unfold f_X11_goOn at h
  refine lv_aload_n hx hb dX11_goOn_0 rfl (lv_at hl 0 rfl) ?_
  refine r_getI C hP (iw hw (fi_11 hk0)) hk0 fl_X11_202 (Or.inl rfl) dX11_goOn_1 ?_
  refine lv_if_ne (tgt := 11) hx hb dX11_goOn_4 (by decide) (fun c1 => ?_) (fun c1 => ?_)
  · replace h := if_f c1 h
    exact r_vret C hr hP hS h dX11_goOn_11
  · replace h := if_t c1 h
    refine lv_aload_n hx hb dX11_goOn_7 rfl (lv_at hl 0 rfl) ?_
    obtain ⟨r3, μ2, h4, h⟩ := bd_ok h
    refine go_v (callV_run (As := []) (rest := []) C hl hP (hS.wide hJ).2.1 (iw hw (fi_11 hk0)) hk0 (m_X11_token l w hJ hw v0 hk0 μ h4) mv_X11_208 ⟨rfl, rfl, by decide, by decide⟩ rfl rfl (Nat.le_of_ble_eq_true rfl) ⟨Nat.zero_le _, Nat.zero_le _⟩ dX11_goOn_8) hS (fun H locs hP hS => ?_)
    exact r_vret C hr hP hS h dX11_goOn_11

def f_X11_numeral_j46 (v0 : Nat) (v1 : Int32) (μ : fMem) : Option (Int32 × fMem) :=
  if (μ.1 v0 28) = 0 then vl (μ.1 v0 27) fun x9 => bd (f_X11_token v0 μ) fun r11 μ10 => some (x9, μ10) else some (v1, μ)
def f_X11_numeral_j41 (v0 : Nat) (v1 : Int32) (μ : fMem) : Option (Int32 × fMem) :=
  bd (f_X11_wrong v0 (2 : Int32) μ) fun r14 μ13 => f_X11_numeral_j46 v0 v1 μ13
def f_X11_numeral (v0 : Nat) (v1 : Int32) (v2 : Int32) (μ : fMem) : Option (Int32 × fMem) :=
  if (μ.1 v0 28) = 0 then if (μ.1 v0 26) = (2 : Int32) then if (μ.1 v0 27) < v1 then f_X11_numeral_j41 v0 v1 μ else if (μ.1 v0 27) ≤ v2 then f_X11_numeral_j46 v0 v1 μ else f_X11_numeral_j41 v0 v1 μ else bd (f_X11_wrong v0 (1 : Int32) μ) fun r6 μ5 => f_X11_numeral_j46 v0 v1 μ5 else some (v1, μ)
def rm_X11_numeral : Room := { frames := 6, cells := 0, slots := 0, locals := 164 }
set_option maxHeartbeats 4000000 in
set_option maxRecDepth 100000 in
theorem m_X11_numeral (l : Launch) (w : fW) (hJ : fJ w) (hw : w.2.2.2 = sd 1) (v0 : Nat) (v1 : Int32) (v2 : Int32) (hk0 : kd v0 = (4, 11)) (μ : fMem) {r : Int32} {μr : fMem} (h : f_X11_numeral v0 v1 v2 μ = some (r, μr)) : Met l yX11_numeral (.code yX11_numeral cX11_numeral 4 (some .int) :: gw) rm_X11_numeral (fPc w [.ref (w.2.2.1 v0), .int v1, .int v2] μ) (fQi w r μr) 0 0 (fA w) := by
  refine met_of hJ (by decide) ?_ (Nat.le_of_ble_eq_true rfl)
  generalize ([.ref (w.2.2.1 v0), .int v1, .int v2] : List Value).toArray = args
  intro p e s m below meth c ls C hr hP hl hS
  obtain ⟨hx, hb, hml, hown, hts, hK, -, hlk, hT⟩ := id C
  have hl : lv_has ls 4 [(0, .ref (w.2.2.1 v0)), (1, .int v1), (2, .int v2)] := hl
  unfold f_X11_numeral at h
  have J46 : ∀  (μ : fMem), f_X11_numeral_j46 v0 v1 μ = some (r, μr) → WW p l e rm_X11_numeral s m args below meth c (MQ below (fQi w r μr) args s 0 0 (fA w)) w μ 4 46 [] [(0, .ref (w.2.2.1 v0)), (1, .int v1)] := by
    intro  μ  h H locs ls hP hS hl
    unfold f_X11_numeral_j46 at h
    refine lv_aload_n hx hb dX11_numeral_46 rfl (lv_at hl 0 rfl) ?_
    refine r_getI C hP (iw hw (fi_11 hk0)) hk0 fl_X11_202 (Or.inl rfl) dX11_numeral_47 ?_
    refine lv_if_eq (tgt := 55) hx hb dX11_numeral_50 (by decide) (fun c8 => ?_) (fun c8 => ?_)
    · replace h := if_t c8 h
      refine lv_aload_n hx hb dX11_numeral_55 rfl (lv_at hl 0 rfl) ?_
      refine r_getI C hP (iw hw (fi_11 hk0)) hk0 fl_X11_177 (Or.inl rfl) dX11_numeral_56 ?_
      refine lv_topi (fun x9 ex9 => ?_)
      replace h := vl_ok ex9 h
      refine lv_istore_n (lv' := [(3, .int x9), (0, .ref (w.2.2.1 v0)), (1, .int v1)]) hx hb dX11_numeral_59 rfl hl (by decide) rfl (fun ls hl => ?_)
      refine lv_aload_n hx hb dX11_numeral_60 rfl (lv_at hl 1 rfl) ?_
      obtain ⟨r11, μ10, h12, h⟩ := bd_ok h
      refine go_v (callV_run (As := []) (rest := []) C hl hP (hS.wide hJ).2.1 (iw hw (fi_11 hk0)) hk0 (m_X11_token l w hJ hw v0 hk0 μ h12) mv_X11_208 ⟨rfl, rfl, by decide, by decide⟩ rfl rfl (Nat.le_of_ble_eq_true rfl) ⟨Nat.zero_le _, Nat.zero_le _⟩ dX11_numeral_61) hS (fun H locs hP hS => ?_)
      refine lv_iload_n hx hb dX11_numeral_64 rfl (lv_at hl 0 rfl) ?_
      exact r_iret C hr hP hS h dX11_numeral_65
    · replace h := if_f c8 h
      refine lv_iload_n hx hb dX11_numeral_53 rfl (lv_at hl 1 rfl) ?_
      exact r_iret C hr hP hS h dX11_numeral_54
  have J41 : ∀  (μ : fMem), f_X11_numeral_j41 v0 v1 μ = some (r, μr) → WW p l e rm_X11_numeral s m args below meth c (MQ below (fQi w r μr) args s 0 0 (fA w)) w μ 4 41 [] [(0, .ref (w.2.2.1 v0)), (1, .int v1)] := by
    intro  μ  h H locs ls hP hS hl
    unfold f_X11_numeral_j41 at h
    refine lv_aload_n hx hb dX11_numeral_41 rfl (lv_at hl 0 rfl) ?_
    refine lv_iconst (v := (2)) hx hb dX11_numeral_42 (by decide) ?_
    obtain ⟨r14, μ13, h15, h⟩ := bd_ok h
    refine go_v (callV_run (As := [.int (2 : Int32)]) (rest := []) C hl hP (hS.wide hJ).2.1 (iw hw (fi_11 hk0)) hk0 (m_X11_wrong l w hJ hw v0 (2 : Int32) hk0 μ h15) mv_X11_211 ⟨rfl, rfl, by decide, by decide⟩ rfl rfl (Nat.le_of_ble_eq_true rfl) ⟨Nat.zero_le _, Nat.zero_le _⟩ dX11_numeral_43) hS (fun H locs hP hS => ?_)
    exact J46  μ13  h _ _ _ hP hS (lv_sub hl [0, 1] rfl)
  refine lv_aload_n hx hb dX11_numeral_0 rfl (lv_at hl 0 rfl) ?_
  refine r_getI C hP (iw hw (fi_11 hk0)) hk0 fl_X11_202 (Or.inl rfl) dX11_numeral_1 ?_
  refine lv_if_eq (tgt := 9) hx hb dX11_numeral_4 (by decide) (fun c1 => ?_) (fun c1 => ?_)
  · replace h := if_t c1 h
    refine lv_aload_n hx hb dX11_numeral_9 rfl (lv_at hl 0 rfl) ?_
    refine r_getI C hP (iw hw (fi_11 hk0)) hk0 fl_X11_167 (Or.inl rfl) dX11_numeral_10 ?_
    refine lv_iconst (v := (2)) hx hb dX11_numeral_13 (by decide) ?_
    refine lv_icmp_eq (tgt := 25) hx hb dX11_numeral_14 (by decide) (fun c2 => ?_) (fun c2 => ?_)
    · replace h := if_t c2 h
      refine lv_aload_n hx hb dX11_numeral_25 rfl (lv_at hl 0 rfl) ?_
      refine r_getI C hP (iw hw (fi_11 hk0)) hk0 fl_X11_177 (Or.inl rfl) dX11_numeral_26 ?_
      refine lv_iload_n hx hb dX11_numeral_29 rfl (lv_at hl 1 rfl) ?_
      refine lv_icmp_lt (tgt := 41) hx hb dX11_numeral_30 (by decide) (fun c3 => ?_) (fun c3 => ?_)
      · replace h := if_t c3 h
        exact J41  μ  h _ _ _ hP hS (lv_sub hl [0, 1] rfl)
      · replace h := if_f c3 h
        refine lv_aload_n hx hb dX11_numeral_33 rfl (lv_at hl 0 rfl) ?_
        refine r_getI C hP (iw hw (fi_11 hk0)) hk0 fl_X11_177 (Or.inl rfl) dX11_numeral_34 ?_
        refine lv_iload_n hx hb dX11_numeral_37 rfl (lv_at hl 2 rfl) ?_
        refine lv_icmp_le (tgt := 46) hx hb dX11_numeral_38 (by decide) (fun c4 => ?_) (fun c4 => ?_)
        · replace h := if_t c4 h
          exact J46  μ  h _ _ _ hP hS (lv_sub hl [0, 1] rfl)
        · replace h := if_f c4 h
          exact J41  μ  h _ _ _ hP hS (lv_sub hl [0, 1] rfl)
    · replace h := if_f c2 h
      refine lv_aload_n hx hb dX11_numeral_17 rfl (lv_at hl 0 rfl) ?_
      refine lv_iconst (v := (1)) hx hb dX11_numeral_18 (by decide) ?_
      obtain ⟨r6, μ5, h7, h⟩ := bd_ok h
      refine go_v (callV_run (As := [.int (1 : Int32)]) (rest := []) C hl hP (hS.wide hJ).2.1 (iw hw (fi_11 hk0)) hk0 (m_X11_wrong l w hJ hw v0 (1 : Int32) hk0 μ h7) mv_X11_211 ⟨rfl, rfl, by decide, by decide⟩ rfl rfl (Nat.le_of_ble_eq_true rfl) ⟨Nat.zero_le _, Nat.zero_le _⟩ dX11_numeral_19) hS (fun H locs hP hS => ?_)
      refine lv_goto (tgt := 46) hx hb dX11_numeral_22 (by decide) ?_
      exact J46  μ5  h _ _ _ hP hS (lv_sub hl [0, 1] rfl)
  · replace h := if_f c1 h
    refine lv_iload_n hx hb dX11_numeral_7 rfl (lv_at hl 1 rfl) ?_
    exact r_iret C hr hP hS h dX11_numeral_8

def f_X11_found_L3 (v0 : Nat) (v1 : Int32) (v2 : Int32) (v3 : Int32) (v4 : Int32) (μ : fMem) : Option (Nat × (Int32 × fMem)) :=
  if v2 ≤ v4 then some (1, (v4, μ)) else gd (ixo (v1 + v4) (kd v0).2) (if (μ.1 v0 (Int32.toNatClampNeg (v1 + v4))) = v3 then some (2, (v4, μ)) else vl (v4 + (1 : Int32)) fun x4 => some (0, (x4, μ)))
def f_X11_found (v0 : Nat) (v1 : Int32) (v2 : Int32) (v3 : Int32) (μ : fMem) : Option (Int32 × fMem) :=
  bd (lpn (fun (q : Int32 × fMem) => f_X11_found_L3 v0 v1 v2 v3 q.1 q.2) fuel ((0 : Int32), μ)) fun t5 q6 => (fun (x7 : Int32) (μ8 : fMem) => if t5 = 0 then some ((-1 : Int32), μ8) else some (x7, μ8)) q6.1 q6.2
def rm_X11_found : Room := { frames := 0, cells := 0, slots := 0, locals := 0 }
set_option maxHeartbeats 4000000 in
set_option maxRecDepth 100000 in
theorem m_X11_found (l : Launch) (w : fW) (hJ : fJ w) (hw : w.2.2.2 = sd 1) (v0 : Nat) (v1 : Int32) (v2 : Int32) (v3 : Int32) (hk0 : kd v0 = (0, (kd v0).2)) (hi0 : inW w.2.2.2 v0) (μ : fMem) {r : Int32} {μr : fMem} (h : f_X11_found v0 v1 v2 v3 μ = some (r, μr)) : Met l yX11_found (.code yX11_found cX11_found 5 (some .int) :: gw) rm_X11_found (fPc w [.ref (w.2.2.1 v0), .int v1, .int v2, .int v3] μ) (fQi w r μr) 0 0 (fA w) := by
  refine met_of hJ (by decide) ?_ (Nat.le_of_ble_eq_true rfl)
  generalize ([.ref (w.2.2.1 v0), .int v1, .int v2, .int v3] : List Value).toArray = args
  intro p e s m below meth c ls C hr hP hl hS
  obtain ⟨hx, hb, hml, hown, hts, hK, -, hlk, hT⟩ := id C
  have hl : lv_has ls 5 [(0, .ref (w.2.2.1 v0)), (1, .int v1), (2, .int v2), (3, .int v3)] := hl
  unfold f_X11_found at h
  refine lv_iconst (v := (0)) hx hb dX11_found_0 (by decide) ?_
  refine lv_istore (lv' := [(4, .int (0 : Int32)), (0, .ref (w.2.2.1 v0)), (1, .int v1), (2, .int v2), (3, .int v3)]) hx hb dX11_found_1 hl (by decide) rfl (fun ls hl => ?_)
  obtain ⟨t5, q6, h9, h⟩ := bd_ok h
  refine lpn_ind (b := (fun (q : Int32 × fMem) => f_X11_found_L3 v0 v1 v2 v3 q.1 q.2)) (P := fun (q : Int32 × fMem) => WW p l e rm_X11_found s m args below meth c (MQ below (fQi w r μr) args s 0 0 (fA w)) w q.2 5 3 [] [(0, .ref (w.2.2.1 v0)), (1, .int v1), (2, .int v2), (3, .int v3), (4, .int q.1)]) (K := fun t (q : Int32 × fMem) => (t = 0 → WW p l e rm_X11_found s m args below meth c (MQ below (fQi w r μr) args s 0 0 (fA w)) w q.2 5 28 [] []) ∧ (t = 1 → WW p l e rm_X11_found s m args below meth c (MQ below (fQi w r μr) args s 0 0 (fA w)) w q.2 5 19 [] [(4, .int q.1)])) ?_ fuel ((0 : Int32), μ) t5 q6 h9 ?_ _ _ _ hP hS (lv_sub hl [1, 2, 3, 4, 0] rfl)
  · intro q tz3 sz3 h hP0_3 hK0_3 H locs ls hP hS hl
    obtain ⟨v4, μ⟩ := q
    have hP : fP w μ H := hP
    have hl : lv_has ls 5 [(0, .ref (w.2.2.1 v0)), (1, .int v1), (2, .int v2), (3, .int v3), (4, .int v4)] := hl
    have h : f_X11_found_L3 v0 v1 v2 v3 v4 μ = some (tz3, sz3) := h
    unfold f_X11_found_L3 at h
    refine lv_iload hx hb dX11_found_3 (lv_at hl 4 rfl) ?_
    refine lv_iload_n hx hb dX11_found_5 rfl (lv_at hl 2 rfl) ?_
    refine lv_icmp_ge (tgt := 28) hx hb dX11_found_6 (by decide) (fun c1 => ?_) (fun c1 => ?_)
    · replace h := if_t c1 h
      obtain ⟨rfl, rfl⟩ := leaf h
      exact ((hK0_3 0 rfl).1 rfl) _ _ _ hP hS (lv_sub hl [] rfl)
    · replace h := if_f c1 h
      refine lv_aload_n hx hb dX11_found_9 rfl (lv_at hl 0 rfl) ?_
      refine lv_iload_n hx hb dX11_found_10 rfl (lv_at hl 1 rfl) ?_
      refine lv_iload hx hb dX11_found_11 (lv_at hl 4 rfl) ?_
      refine lv_iadd hx hb dX11_found_13 ?_
      obtain ⟨g2, h⟩ := gd_ok h
      refine r_iald C hP hi0 hk0 g2 dX11_found_14 ?_
      refine lv_iload_n hx hb dX11_found_15 rfl (lv_at hl 3 rfl) ?_
      refine lv_icmp_ne (tgt := 22) hx hb dX11_found_16 (by decide) (fun c3 => ?_) (fun c3 => ?_)
      · replace h := if_f c3 h
        obtain ⟨x4, ex4⟩ : ∃ y : Int32, y = (v4 + (1 : Int32)) := ⟨_, rfl⟩
        replace h := vl_ok ex4 h
        refine lv_iinc (v := x4) (lv' := [(4, .int x4), (0, .ref (w.2.2.1 v0)), (1, .int v1), (2, .int v2), (3, .int v3)]) hx hb dX11_found_22 hl (k := 4) rfl (by rw [ex4]; rfl) (by decide) rfl (fun ls hl => ?_)
        refine lv_goto (tgt := 3) hx hb dX11_found_25 (by decide) ?_
        obtain ⟨rfl, rfl⟩ := leaf h
        exact hP0_3 rfl _ _ _ hP hS (lv_sub hl [1, 2, 3, 4, 0] rfl)
      · replace h := if_t c3 h
        obtain ⟨rfl, rfl⟩ := leaf h
        exact ((hK0_3 1 rfl).2 rfl) _ _ _ hP hS (lv_sub hl [4] rfl)
  · obtain ⟨x7, μ8⟩ := q6
    try dsimp only at h
    refine ⟨fun ht => ?_, fun ht => ?_⟩
    · intro H locs ls hP hS hl
      have hP : fP w μ8 H := hP
      have hl : lv_has ls 5 [] := hl
      replace h := if_t ht h
      refine lv_iconst (v := (-1)) hx hb dX11_found_28 (by decide) ?_
      exact r_iret C hr hP hS h dX11_found_29
    · intro H locs ls hP hS hl
      have hP : fP w μ8 H := hP
      have hl : lv_has ls 5 [(4, .int x7)] := hl
      replace h := if_f (by rw [ht]; decide) h
      refine lv_iload hx hb dX11_found_19 (lv_at hl 0 rfl) ?_
      exact r_iret C hr hP hS h dX11_found_21

def f_X11_fresh_j44 (v0 : Nat) (μ : fMem) : Option (Int32 × fMem) :=
  if (μ.1 v0 28) = 0 then vl (μ.1 v0 27) fun x14 => bd (f_X11_token v0 μ) fun r16 μ15 => some (x14, μ15) else some ((0 : Int32), μ)
def f_X11_fresh (v0 : Nat) (v1 : Nat) (v2 : Int32) (v3 : Int32) (μ : fMem) : Option (Int32 × fMem) :=
  if (μ.1 v0 28) = 0 then if (μ.1 v0 26) = (1 : Int32) then bd (f_X11_found v1 v2 v3 (μ.1 v0 27) μ) fun r4 μ3 => if r4 = (-1 : Int32) then f_X11_fresh_j44 v0 μ3 else bd (f_X11_wrong v0 (3 : Int32) μ3) fun r8 μ7 => f_X11_fresh_j44 v0 μ7 else bd (f_X11_wrong v0 (1 : Int32) μ) fun r11 μ10 => f_X11_fresh_j44 v0 μ10 else some ((0 : Int32), μ)
def rm_X11_fresh : Room := { frames := 6, cells := 0, slots := 0, locals := 164 }
set_option maxHeartbeats 4000000 in
set_option maxRecDepth 100000 in
theorem m_X11_fresh (l : Launch) (w : fW) (hJ : fJ w) (hw : w.2.2.2 = sd 1) (v0 : Nat) (v1 : Nat) (v2 : Int32) (v3 : Int32) (hk0 : kd v0 = (4, 11)) (hk1 : kd v1 = (0, (kd v1).2)) (hi1 : inW w.2.2.2 v1) (μ : fMem) {r : Int32} {μr : fMem} (h : f_X11_fresh v0 v1 v2 v3 μ = some (r, μr)) : Met l yX11_fresh (.code yX11_fresh cX11_fresh 5 (some .int) :: gw) rm_X11_fresh (fPc w [.ref (w.2.2.1 v0), .ref (w.2.2.1 v1), .int v2, .int v3] μ) (fQi w r μr) 0 0 (fA w) := by
  refine met_of hJ (by decide) ?_ (Nat.le_of_ble_eq_true rfl)
  generalize ([.ref (w.2.2.1 v0), .ref (w.2.2.1 v1), .int v2, .int v3] : List Value).toArray = args
  intro p e s m below meth c ls C hr hP hl hS
  obtain ⟨hx, hb, hml, hown, hts, hK, -, hlk, hT⟩ := id C
  have hl : lv_has ls 5 [(0, .ref (w.2.2.1 v0)), (1, .ref (w.2.2.1 v1)), (2, .int v2), (3, .int v3)] := hl
  unfold f_X11_fresh at h
  have J44 : ∀  (μ : fMem), f_X11_fresh_j44 v0 μ = some (r, μr) → WW p l e rm_X11_fresh s m args below meth c (MQ below (fQi w r μr) args s 0 0 (fA w)) w μ 5 44 [] [(0, .ref (w.2.2.1 v0))] := by
    intro  μ  h H locs ls hP hS hl
    unfold f_X11_fresh_j44 at h
    refine lv_aload_n hx hb dX11_fresh_44 rfl (lv_at hl 0 rfl) ?_
    refine r_getI C hP (iw hw (fi_11 hk0)) hk0 fl_X11_202 (Or.inl rfl) dX11_fresh_45 ?_
    refine lv_if_eq (tgt := 53) hx hb dX11_fresh_48 (by decide) (fun c13 => ?_) (fun c13 => ?_)
    · replace h := if_t c13 h
      refine lv_aload_n hx hb dX11_fresh_53 rfl (lv_at hl 0 rfl) ?_
      refine r_getI C hP (iw hw (fi_11 hk0)) hk0 fl_X11_177 (Or.inl rfl) dX11_fresh_54 ?_
      refine lv_topi (fun x14 ex14 => ?_)
      replace h := vl_ok ex14 h
      refine lv_istore (lv' := [(4, .int x14), (0, .ref (w.2.2.1 v0))]) hx hb dX11_fresh_57 hl (by decide) rfl (fun ls hl => ?_)
      refine lv_aload_n hx hb dX11_fresh_59 rfl (lv_at hl 1 rfl) ?_
      obtain ⟨r16, μ15, h17, h⟩ := bd_ok h
      refine go_v (callV_run (As := []) (rest := []) C hl hP (hS.wide hJ).2.1 (iw hw (fi_11 hk0)) hk0 (m_X11_token l w hJ hw v0 hk0 μ h17) mv_X11_208 ⟨rfl, rfl, by decide, by decide⟩ rfl rfl (Nat.le_of_ble_eq_true rfl) ⟨Nat.zero_le _, Nat.zero_le _⟩ dX11_fresh_60) hS (fun H locs hP hS => ?_)
      refine lv_iload hx hb dX11_fresh_63 (lv_at hl 0 rfl) ?_
      exact r_iret C hr hP hS h dX11_fresh_65
    · replace h := if_f c13 h
      refine lv_iconst (v := (0)) hx hb dX11_fresh_51 (by decide) ?_
      exact r_iret C hr hP hS h dX11_fresh_52
  refine lv_aload_n hx hb dX11_fresh_0 rfl (lv_at hl 0 rfl) ?_
  refine r_getI C hP (iw hw (fi_11 hk0)) hk0 fl_X11_202 (Or.inl rfl) dX11_fresh_1 ?_
  refine lv_if_eq (tgt := 9) hx hb dX11_fresh_4 (by decide) (fun c1 => ?_) (fun c1 => ?_)
  · replace h := if_t c1 h
    refine lv_aload_n hx hb dX11_fresh_9 rfl (lv_at hl 0 rfl) ?_
    refine r_getI C hP (iw hw (fi_11 hk0)) hk0 fl_X11_167 (Or.inl rfl) dX11_fresh_10 ?_
    refine lv_iconst (v := (1)) hx hb dX11_fresh_13 (by decide) ?_
    refine lv_icmp_eq (tgt := 25) hx hb dX11_fresh_14 (by decide) (fun c2 => ?_) (fun c2 => ?_)
    · replace h := if_t c2 h
      refine lv_aload_n hx hb dX11_fresh_25 rfl (lv_at hl 1 rfl) ?_
      refine lv_iload_n hx hb dX11_fresh_26 rfl (lv_at hl 2 rfl) ?_
      refine lv_iload_n hx hb dX11_fresh_27 rfl (lv_at hl 3 rfl) ?_
      refine lv_aload_n hx hb dX11_fresh_28 rfl (lv_at hl 0 rfl) ?_
      refine r_getI C hP (iw hw (fi_11 hk0)) hk0 fl_X11_177 (Or.inl rfl) dX11_fresh_29 ?_
      obtain ⟨r4, μ3, h5, h⟩ := bd_ok h
      refine go_i (callS_run (As := [.ref (w.2.2.1 v1), .int v2, .int v3, .int (μ.1 v0 27)]) (rest := []) C hl hP (hS.wide hJ).2.1 (m_X11_found l w hJ hw v1 v2 v3 (μ.1 v0 27) (karr hk1) hi1 μ h5) ms_X11_214 ⟨rfl, rfl, by decide, by decide⟩ rfl rfl (Nat.le_of_ble_eq_true rfl) ⟨Nat.zero_le _, Nat.zero_le _⟩ dX11_fresh_32) hS (fun H locs hP hS => ?_)
      refine lv_iconst (v := (-1)) hx hb dX11_fresh_35 (by decide) ?_
      refine lv_icmp_eq (tgt := 44) hx hb dX11_fresh_36 (by decide) (fun c6 => ?_) (fun c6 => ?_)
      · replace h := if_t c6 h
        exact J44  μ3  h _ _ _ hP hS (lv_sub hl [0] rfl)
      · replace h := if_f c6 h
        refine lv_aload_n hx hb dX11_fresh_39 rfl (lv_at hl 0 rfl) ?_
        refine lv_iconst (v := (3)) hx hb dX11_fresh_40 (by decide) ?_
        obtain ⟨r8, μ7, h9, h⟩ := bd_ok h
        refine go_v (callV_run (As := [.int (3 : Int32)]) (rest := []) C hl hP (hS.wide hJ).2.1 (iw hw (fi_11 hk0)) hk0 (m_X11_wrong l w hJ hw v0 (3 : Int32) hk0 μ3 h9) mv_X11_211 ⟨rfl, rfl, by decide, by decide⟩ rfl rfl (Nat.le_of_ble_eq_true rfl) ⟨Nat.zero_le _, Nat.zero_le _⟩ dX11_fresh_41) hS (fun H locs hP hS => ?_)
        exact J44  μ7  h _ _ _ hP hS (lv_sub hl [0] rfl)
    · replace h := if_f c2 h
      refine lv_aload_n hx hb dX11_fresh_17 rfl (lv_at hl 0 rfl) ?_
      refine lv_iconst (v := (1)) hx hb dX11_fresh_18 (by decide) ?_
      obtain ⟨r11, μ10, h12, h⟩ := bd_ok h
      refine go_v (callV_run (As := [.int (1 : Int32)]) (rest := []) C hl hP (hS.wide hJ).2.1 (iw hw (fi_11 hk0)) hk0 (m_X11_wrong l w hJ hw v0 (1 : Int32) hk0 μ h12) mv_X11_211 ⟨rfl, rfl, by decide, by decide⟩ rfl rfl (Nat.le_of_ble_eq_true rfl) ⟨Nat.zero_le _, Nat.zero_le _⟩ dX11_fresh_19) hS (fun H locs hP hS => ?_)
      refine lv_goto (tgt := 44) hx hb dX11_fresh_22 (by decide) ?_
      exact J44  μ10  h _ _ _ hP hS (lv_sub hl [0] rfl)
  · replace h := if_f c1 h
    refine lv_iconst (v := (0)) hx hb dX11_fresh_7 (by decide) ?_
    exact r_iret C hr hP hS h dX11_fresh_8

