def f_X10_tried_j138 (v0 : Nat) (v3 : Int32) (μ : fMem) : Option (Int32 × fMem) :=
  bd (f_X0_pass (v0 + 84) v3 μ) fun r33 μ32 => some (((μ32.1 (v0 + 84) 0) + (μ32.1 (v0 + 84) 1)), μ32)
def f_X10_tried_j123 (v0 : Nat) (v1 : Int32) (v2 : Int32) (v3 : Int32) (μ : fMem) : Option (Int32 × fMem) :=
  if v1 = (5 : Int32) then gd (ixo v2 8) (vl (sI μ ((v0 + 78) + 1) (Int32.toNatClampNeg v2) (-1 : Int32)) fun μ30 => f_X10_tried_j138 v0 v3 μ30) else f_X10_tried_j138 v0 v3 μ
def f_X10_tried_j110 (v0 : Nat) (v1 : Int32) (v2 : Int32) (v3 : Int32) (μ : fMem) : Option (Int32 × fMem) :=
  if v1 = (3 : Int32) then vl (sI μ (v0 + 84) 3 (1 : Int32)) fun μ28 => f_X10_tried_j123 v0 v1 v2 v3 μ28 else f_X10_tried_j123 v0 v1 v2 v3 μ
def f_X10_tried_j97 (v0 : Nat) (v1 : Int32) (v2 : Int32) (v3 : Int32) (μ : fMem) : Option (Int32 × fMem) :=
  if v1 = (2 : Int32) then vl (sI μ (v0 + 84) 2 v2) fun μ26 => f_X10_tried_j110 v0 v1 v2 v3 μ26 else f_X10_tried_j110 v0 v1 v2 v3 μ
def f_X10_tried_j64 (v0 : Nat) (v1 : Int32) (v2 : Int32) (v3 : Int32) (t0 : Int32) (μ : fMem) : Option (Int32 × fMem) :=
  if t0 = 0 then some ((-1 : Int32), μ) else if v1 = (4 : Int32) then some ((0 : Int32), μ) else bd (f_X10_tryFromNow v0 μ) fun r21 μ20 => if v1 = (1 : Int32) then vl (sI μ20 (v0 + 78) 5 (0 : Int32)) fun μ24 => f_X10_tried_j97 v0 v1 v2 v3 μ24 else f_X10_tried_j97 v0 v1 v2 v3 μ20
def f_X10_tried (v0 : Nat) (v1 : Int32) (v2 : Int32) (v3 : Int32) (μ : fMem) : Option (Int32 × fMem) :=
  if v1 < 0 then some ((-1 : Int32), μ) else if (5 : Int32) < v1 then some ((-1 : Int32), μ) else if v3 < 0 then some ((-1 : Int32), μ) else if v3 ≤ (60 : Int32) then if v1 = (2 : Int32) then vl (μ.2.2 v0 2) fun x13 => gd (kd x13 = (4, 2)) (bd (f_X2_has x13 (3 : Int32) v2 μ) fun r16 μ15 => f_X10_tried_j64 v0 v1 v2 v3 r16 μ15) else if v1 = (5 : Int32) then vl (μ.2.2 v0 2) fun x8 => gd (kd x8 = (4, 2)) (bd (f_X2_has x8 (2 : Int32) v2 μ) fun r11 μ10 => f_X10_tried_j64 v0 v1 v2 v3 r11 μ10) else if v2 = 0 then f_X10_tried_j64 v0 v1 v2 v3 (1 : Int32) μ else f_X10_tried_j64 v0 v1 v2 v3 (0 : Int32) μ else some ((-1 : Int32), μ)
def rm_X10_tried : Room := { frames := 6, cells := 0, slots := 0, locals := 206 }
set_option maxHeartbeats 4000000 in
set_option maxRecDepth 100000 in
theorem m_X10_tried (l : Launch) (w : fW) (hJ : fJ w) (hw : w.2.2.2 = sd 0) (v0 : Nat) (v1 : Int32) (v2 : Int32) (v3 : Int32) (hk0 : kd v0 = (4, 10)) (μ : fMem) {r : Int32} {μr : fMem} (h : f_X10_tried v0 v1 v2 v3 μ = some (r, μr)) : Met l yX10_tried (.code yX10_tried cX10_tried 5 (some .int) :: gw) rm_X10_tried (fPc w [.ref (w.2.2.1 v0), .int v1, .int v2, .int v3] μ) (fQi w r μr) 0 0 (fA w) := by
  refine met_of hJ (by decide) ?_ (Nat.le_of_ble_eq_true rfl)
  generalize ([.ref (w.2.2.1 v0), .int v1, .int v2, .int v3] : List Value).toArray = args
  intro p e s m below meth c ls C hr hP hl hS
  obtain ⟨hx, hb, hml, hown, hts, hK, -, hlk, hT⟩ := id C
  have hl : lv_has ls 5 [(0, .ref (w.2.2.1 v0)), (1, .int v1), (2, .int v2), (3, .int v3)] := hl
  unfold f_X10_tried at h
  have J138 : ∀  (μ : fMem), f_X10_tried_j138 v0 v3 μ = some (r, μr) → WW p l e rm_X10_tried s m args below meth c (MQ below (fQi w r μr) args s 0 0 (fA w)) w μ 5 138 [] [(0, .ref (w.2.2.1 v0)), (3, .int v3)] := by
    intro  μ  h H locs ls hP hS hl
    unfold f_X10_tried_j138 at h
    refine lv_aload_n hx hb dX10_tried_138 rfl (lv_at hl 0 rfl) ?_
    refine r_getF (off := 84) C hP (iw hw (fi_10 hk0)) hk0 fl_X10_53 rfl rfl (zw hw) dX10_tried_139 ?_
    refine lv_iload_n hx hb dX10_tried_142 rfl (lv_at hl 1 rfl) ?_
    obtain ⟨r33, μ32, h34, h⟩ := bd_ok h
    refine go_v (callV_run (As := [.int v3]) (rest := []) C hl hP (hS.wide hJ).2.1 (iw hw (ff_10_8 hk0).2) (ff_10_8 hk0).1 (m_X0_pass l w hJ hw (v0 + 84) v3 (ff_10_8 hk0).1 μ h34) mv_X10_239 ⟨rfl, rfl, by decide, by decide⟩ rfl rfl (Nat.le_of_ble_eq_true rfl) ⟨Nat.zero_le _, Nat.zero_le _⟩ dX10_tried_143) hS (fun H locs hP hS => ?_)
    refine lv_aload_n hx hb dX10_tried_146 rfl (lv_at hl 0 rfl) ?_
    refine r_getF (off := 84) C hP (iw hw (fi_10 hk0)) hk0 fl_X10_53 rfl rfl (zw hw) dX10_tried_147 ?_
    refine r_getI C hP (iw hw (ff_10_8 hk0).2) (ff_10_8 hk0).1 fl_X10_245 (Or.inl rfl) dX10_tried_150 ?_
    refine lv_aload_n hx hb dX10_tried_153 rfl (lv_at hl 0 rfl) ?_
    refine r_getF (off := 84) C hP (iw hw (fi_10 hk0)) hk0 fl_X10_53 rfl rfl (zw hw) dX10_tried_154 ?_
    refine r_getI C hP (iw hw (ff_10_8 hk0).2) (ff_10_8 hk0).1 fl_X10_248 (Or.inl rfl) dX10_tried_157 ?_
    refine lv_iadd hx hb dX10_tried_160 ?_
    exact r_iret C hr hP hS h dX10_tried_161
  have J123 : ∀  (μ : fMem), f_X10_tried_j123 v0 v1 v2 v3 μ = some (r, μr) → WW p l e rm_X10_tried s m args below meth c (MQ below (fQi w r μr) args s 0 0 (fA w)) w μ 5 123 [] [(0, .ref (w.2.2.1 v0)), (1, .int v1), (2, .int v2), (3, .int v3)] := by
    intro  μ  h H locs ls hP hS hl
    unfold f_X10_tried_j123 at h
    refine lv_iload_n hx hb dX10_tried_123 rfl (lv_at hl 1 rfl) ?_
    refine lv_iconst (v := (5)) hx hb dX10_tried_124 (by decide) ?_
    refine lv_icmp_ne (tgt := 138) hx hb dX10_tried_125 (by decide) (fun c29 => ?_) (fun c29 => ?_)
    · replace h := if_f c29 h
      exact J138  μ  h _ _ _ hP hS (lv_sub hl [0, 3] rfl)
    · replace h := if_t c29 h
      refine lv_aload_n hx hb dX10_tried_128 rfl (lv_at hl 0 rfl) ?_
      refine r_getF (off := 78) C hP (iw hw (fi_10 hk0)) hk0 fl_X10_47 rfl rfl (zw hw) dX10_tried_129 ?_
      refine r_getF (off := 1) C hP (iw hw (ff_10_7 hk0).2) (ff_10_7 hk0).1 fl_X10_132 rfl rfl (zw hw) dX10_tried_132 ?_
      refine lv_iload_n hx hb dX10_tried_135 rfl (lv_at hl 2 rfl) ?_
      refine lv_iconst (v := (-1)) hx hb dX10_tried_136 (by decide) ?_
      obtain ⟨g31, h⟩ := gd_ok h
      refine r_iast C hP hS (iw hw (ff_7_0 (ff_10_7 hk0).1).2) (ff_7_0 (ff_10_7 hk0).1).1 g31 dX10_tried_137 (fun H locs hP hS => ?_)
      obtain ⟨μ30, eμ30, h⟩ := vl_ex h
      have hP : fP w μ30 H := by rw [eμ30]; exact hP
      exact J138  μ30  h _ _ _ hP hS (lv_sub hl [0, 3] rfl)
  have J110 : ∀  (μ : fMem), f_X10_tried_j110 v0 v1 v2 v3 μ = some (r, μr) → WW p l e rm_X10_tried s m args below meth c (MQ below (fQi w r μr) args s 0 0 (fA w)) w μ 5 110 [] [(0, .ref (w.2.2.1 v0)), (1, .int v1), (2, .int v2), (3, .int v3)] := by
    intro  μ  h H locs ls hP hS hl
    unfold f_X10_tried_j110 at h
    refine lv_iload_n hx hb dX10_tried_110 rfl (lv_at hl 1 rfl) ?_
    refine lv_iconst (v := (3)) hx hb dX10_tried_111 (by decide) ?_
    refine lv_icmp_ne (tgt := 123) hx hb dX10_tried_112 (by decide) (fun c27 => ?_) (fun c27 => ?_)
    · replace h := if_f c27 h
      exact J123  μ  h _ _ _ hP hS (lv_sub hl [0, 1, 2, 3] rfl)
    · replace h := if_t c27 h
      refine lv_aload_n hx hb dX10_tried_115 rfl (lv_at hl 0 rfl) ?_
      refine r_getF (off := 84) C hP (iw hw (fi_10 hk0)) hk0 fl_X10_53 rfl rfl (zw hw) dX10_tried_116 ?_
      refine lv_iconst (v := (1)) hx hb dX10_tried_119 (by decide) ?_
      refine r_putZ C hP hS (iw hw (ff_10_8 hk0).2) (ff_10_8 hk0).1 fp_X10_279 rfl (Or.inr rfl) dX10_tried_120 (fun H locs hP hS => ?_)
      obtain ⟨μ28, eμ28, h⟩ := vl_ex h
      have hP : fP w μ28 H := by rw [eμ28]; exact hP
      exact J123  μ28  h _ _ _ hP hS (lv_sub hl [0, 1, 2, 3] rfl)
  have J97 : ∀  (μ : fMem), f_X10_tried_j97 v0 v1 v2 v3 μ = some (r, μr) → WW p l e rm_X10_tried s m args below meth c (MQ below (fQi w r μr) args s 0 0 (fA w)) w μ 5 97 [] [(0, .ref (w.2.2.1 v0)), (1, .int v1), (2, .int v2), (3, .int v3)] := by
    intro  μ  h H locs ls hP hS hl
    unfold f_X10_tried_j97 at h
    refine lv_iload_n hx hb dX10_tried_97 rfl (lv_at hl 1 rfl) ?_
    refine lv_iconst (v := (2)) hx hb dX10_tried_98 (by decide) ?_
    refine lv_icmp_ne (tgt := 110) hx hb dX10_tried_99 (by decide) (fun c25 => ?_) (fun c25 => ?_)
    · replace h := if_f c25 h
      exact J110  μ  h _ _ _ hP hS (lv_sub hl [0, 1, 2, 3] rfl)
    · replace h := if_t c25 h
      refine lv_aload_n hx hb dX10_tried_102 rfl (lv_at hl 0 rfl) ?_
      refine r_getF (off := 84) C hP (iw hw (fi_10 hk0)) hk0 fl_X10_53 rfl rfl (zw hw) dX10_tried_103 ?_
      refine lv_iload_n hx hb dX10_tried_106 rfl (lv_at hl 2 rfl) ?_
      refine r_putI C hP hS (iw hw (ff_10_8 hk0).2) (ff_10_8 hk0).1 fp_X10_276 rfl dX10_tried_107 (fun H locs hP hS => ?_)
      obtain ⟨μ26, eμ26, h⟩ := vl_ex h
      have hP : fP w μ26 H := by rw [eμ26]; exact hP
      exact J110  μ26  h _ _ _ hP hS (lv_sub hl [0, 1, 2, 3] rfl)
  have J64 : ∀ (t0 : Int32) (μ : fMem), f_X10_tried_j64 v0 v1 v2 v3 t0 μ = some (r, μr) → WW p l e rm_X10_tried s m args below meth c (MQ below (fQi w r μr) args s 0 0 (fA w)) w μ 5 64 [.int t0] [(0, .ref (w.2.2.1 v0)), (1, .int v1), (2, .int v2), (3, .int v3)] := by
    intro t0 μ  h H locs ls hP hS hl
    unfold f_X10_tried_j64 at h
    refine lv_istore (lv' := [(4, .int t0), (0, .ref (w.2.2.1 v0)), (1, .int v1), (2, .int v2), (3, .int v3)]) hx hb dX10_tried_64 hl (by decide) rfl (fun ls hl => ?_)
    refine lv_iload hx hb dX10_tried_66 (lv_at hl 0 rfl) ?_
    refine lv_if_ne (tgt := 73) hx hb dX10_tried_68 (by decide) (fun c18 => ?_) (fun c18 => ?_)
    · replace h := if_f c18 h
      refine lv_iload_n hx hb dX10_tried_73 rfl (lv_at hl 2 rfl) ?_
      refine lv_iconst (v := (4)) hx hb dX10_tried_74 (by decide) ?_
      refine lv_icmp_ne (tgt := 80) hx hb dX10_tried_75 (by decide) (fun c19 => ?_) (fun c19 => ?_)
      · replace h := if_f c19 h
        refine lv_aload_n hx hb dX10_tried_80 rfl (lv_at hl 1 rfl) ?_
        obtain ⟨r21, μ20, h22, h⟩ := bd_ok h
        refine go_v (callV_run (As := []) (rest := []) C hl hP (hS.wide hJ).2.1 (iw hw (fi_10 hk0)) hk0 (m_X10_tryFromNow l w hJ hw v0 hk0 μ h22) mv_X10_242 ⟨rfl, rfl, by decide, by decide⟩ rfl rfl (Nat.le_of_ble_eq_true rfl) ⟨Nat.zero_le _, Nat.zero_le _⟩ dX10_tried_81) hS (fun H locs hP hS => ?_)
        refine lv_iload_n hx hb dX10_tried_84 rfl (lv_at hl 2 rfl) ?_
        refine lv_iconst (v := (1)) hx hb dX10_tried_85 (by decide) ?_
        refine lv_icmp_ne (tgt := 97) hx hb dX10_tried_86 (by decide) (fun c23 => ?_) (fun c23 => ?_)
        · replace h := if_f c23 h
          exact J97  μ20  h _ _ _ hP hS (lv_sub hl [1, 2, 3, 4] rfl)
        · replace h := if_t c23 h
          refine lv_aload_n hx hb dX10_tried_89 rfl (lv_at hl 1 rfl) ?_
          refine r_getF (off := 78) C hP (iw hw (fi_10 hk0)) hk0 fl_X10_47 rfl rfl (zw hw) dX10_tried_90 ?_
          refine lv_iconst (v := (0)) hx hb dX10_tried_93 (by decide) ?_
          refine r_putI C hP hS (iw hw (ff_10_7 hk0).2) (ff_10_7 hk0).1 fp_X10_273 rfl dX10_tried_94 (fun H locs hP hS => ?_)
          obtain ⟨μ24, eμ24, h⟩ := vl_ex h
          have hP : fP w μ24 H := by rw [eμ24]; exact hP
          exact J97  μ24  h _ _ _ hP hS (lv_sub hl [1, 2, 3, 4] rfl)
      · replace h := if_t c19 h
        refine lv_iconst (v := (0)) hx hb dX10_tried_78 (by decide) ?_
        exact r_iret C hr hP hS h dX10_tried_79
    · replace h := if_t c18 h
      refine lv_iconst (v := (-1)) hx hb dX10_tried_71 (by decide) ?_
      exact r_iret C hr hP hS h dX10_tried_72
  refine lv_iload_n hx hb dX10_tried_0 rfl (lv_at hl 1 rfl) ?_
  refine lv_if_lt (tgt := 19) hx hb dX10_tried_1 (by decide) (fun c1 => ?_) (fun c1 => ?_)
  · replace h := if_t c1 h
    refine lv_iconst (v := (-1)) hx hb dX10_tried_19 (by decide) ?_
    exact r_iret C hr hP hS h dX10_tried_20
  · replace h := if_f c1 h
    refine lv_iload_n hx hb dX10_tried_4 rfl (lv_at hl 1 rfl) ?_
    refine lv_iconst (v := (5)) hx hb dX10_tried_5 (by decide) ?_
    refine lv_icmp_gt (tgt := 19) hx hb dX10_tried_6 (by decide) (fun c2 => ?_) (fun c2 => ?_)
    · replace h := if_t c2 h
      refine lv_iconst (v := (-1)) hx hb dX10_tried_19 (by decide) ?_
      exact r_iret C hr hP hS h dX10_tried_20
    · replace h := if_f c2 h
      refine lv_iload_n hx hb dX10_tried_9 rfl (lv_at hl 3 rfl) ?_
      refine lv_if_lt (tgt := 19) hx hb dX10_tried_10 (by decide) (fun c3 => ?_) (fun c3 => ?_)
      · replace h := if_t c3 h
        refine lv_iconst (v := (-1)) hx hb dX10_tried_19 (by decide) ?_
        exact r_iret C hr hP hS h dX10_tried_20
      · replace h := if_f c3 h
        refine lv_iload_n hx hb dX10_tried_13 rfl (lv_at hl 3 rfl) ?_
        refine lv_bipush (v := (60)) hx hb dX10_tried_14 (by decide) ?_
        refine lv_icmp_le (tgt := 21) hx hb dX10_tried_16 (by decide) (fun c4 => ?_) (fun c4 => ?_)
        · replace h := if_t c4 h
          refine lv_iload_n hx hb dX10_tried_21 rfl (lv_at hl 1 rfl) ?_
          refine lv_iconst (v := (2)) hx hb dX10_tried_22 (by decide) ?_
          refine lv_icmp_ne (tgt := 38) hx hb dX10_tried_23 (by decide) (fun c5 => ?_) (fun c5 => ?_)
          · replace h := if_f c5 h
            refine lv_iload_n hx hb dX10_tried_38 rfl (lv_at hl 1 rfl) ?_
            refine lv_iconst (v := (5)) hx hb dX10_tried_39 (by decide) ?_
            refine lv_icmp_ne (tgt := 55) hx hb dX10_tried_40 (by decide) (fun c6 => ?_) (fun c6 => ?_)
            · replace h := if_f c6 h
              refine lv_iload_n hx hb dX10_tried_55 rfl (lv_at hl 2 rfl) ?_
              refine lv_if_ne (tgt := 63) hx hb dX10_tried_56 (by decide) (fun c7 => ?_) (fun c7 => ?_)
              · replace h := if_f c7 h
                refine lv_iconst (v := (0)) hx hb dX10_tried_63 (by decide) ?_
                exact J64 (0 : Int32) μ  h _ _ _ hP hS (lv_sub hl [0, 1, 2, 3] rfl)
              · replace h := if_t c7 h
                refine lv_iconst (v := (1)) hx hb dX10_tried_59 (by decide) ?_
                refine lv_goto (tgt := 64) hx hb dX10_tried_60 (by decide) ?_
                exact J64 (1 : Int32) μ  h _ _ _ hP hS (lv_sub hl [0, 1, 2, 3] rfl)
            · replace h := if_t c6 h
              refine lv_aload_n hx hb dX10_tried_43 rfl (lv_at hl 0 rfl) ?_
              refine r_getRx C hP (iw hw (fi_10 hk0)) hk0 fl_X10_22 rfl (zw hw) dX10_tried_44 (fun x8 ex8 => ?_)
              replace h := vl_ok ex8 h
              obtain ⟨g9, h⟩ := gd_ok h
              refine lv_iconst (v := (2)) hx hb dX10_tried_47 (by decide) ?_
              refine lv_iload_n hx hb dX10_tried_48 rfl (lv_at hl 2 rfl) ?_
              obtain ⟨r11, μ10, h12, h⟩ := bd_ok h
              refine go_i (callV_run (As := [.int (2 : Int32), .int v2]) (rest := []) C hl hP (hS.wide hJ).2.1 (iw hw (fi_2 g9)) g9 (m_X2_has l w hJ hw x8 (2 : Int32) v2 g9 μ h12) mv_X10_121 ⟨rfl, rfl, by decide, by decide⟩ rfl rfl (Nat.le_of_ble_eq_true rfl) ⟨Nat.zero_le _, Nat.zero_le _⟩ dX10_tried_49) hS (fun H locs hP hS => ?_)
              refine lv_goto (tgt := 64) hx hb dX10_tried_52 (by decide) ?_
              exact J64 r11 μ10  h _ _ _ hP hS (lv_sub hl [0, 1, 2, 3] rfl)
          · replace h := if_t c5 h
            refine lv_aload_n hx hb dX10_tried_26 rfl (lv_at hl 0 rfl) ?_
            refine r_getRx C hP (iw hw (fi_10 hk0)) hk0 fl_X10_22 rfl (zw hw) dX10_tried_27 (fun x13 ex13 => ?_)
            replace h := vl_ok ex13 h
            obtain ⟨g14, h⟩ := gd_ok h
            refine lv_iconst (v := (3)) hx hb dX10_tried_30 (by decide) ?_
            refine lv_iload_n hx hb dX10_tried_31 rfl (lv_at hl 2 rfl) ?_
            obtain ⟨r16, μ15, h17, h⟩ := bd_ok h
            refine go_i (callV_run (As := [.int (3 : Int32), .int v2]) (rest := []) C hl hP (hS.wide hJ).2.1 (iw hw (fi_2 g14)) g14 (m_X2_has l w hJ hw x13 (3 : Int32) v2 g14 μ h17) mv_X10_121 ⟨rfl, rfl, by decide, by decide⟩ rfl rfl (Nat.le_of_ble_eq_true rfl) ⟨Nat.zero_le _, Nat.zero_le _⟩ dX10_tried_32) hS (fun H locs hP hS => ?_)
            refine lv_goto (tgt := 64) hx hb dX10_tried_35 (by decide) ?_
            exact J64 r16 μ15  h _ _ _ hP hS (lv_sub hl [0, 1, 2, 3] rfl)
        · replace h := if_f c4 h
          refine lv_iconst (v := (-1)) hx hb dX10_tried_19 (by decide) ?_
          exact r_iret C hr hP hS h dX10_tried_20

def f_X10_hanging_j42 (v0 : Nat) (v1 : Int32) (μ : fMem) : Option (Int32 × fMem) :=
  vl (μ.2.2 v0 2) fun x16 => gd (kd x16 = (4, 2)) (bd (f_X0_begin (v0 + 84) x16 (v0 + 66) μ) fun r19 μ18 => vl (μ18.2.2 v0 2) fun x21 => gd (kd x21 = (4, 2)) (bd (f_X1_work (v0 + 134) x21 (v0 + 66) (v0 + 84) μ18) fun r24 μ23 => if v1 = (4 : Int32) then some ((μ23.1 (v0 + 134) 1), μ23) else gd (ixo v1 4) (some ((μ23.1 ((v0 + 134) + 1) (Int32.toNatClampNeg v1)), μ23))))
def f_X10_hanging (v0 : Nat) (v1 : Int32) (μ : fMem) : Option (Int32 × fMem) :=
  if v1 < 0 then some ((-1 : Int32), μ) else if (4 : Int32) < v1 then some ((-1 : Int32), μ) else vl (μ.2.2 v0 2) fun x3 => gd (kd x3 = (4, 2)) (bd (f_X2_told x3 (0 : Int32) μ) fun r6 μ5 => if r6 = 0 then some ((-1 : Int32), μ5) else if (4 : Int32) ≤ v1 then f_X10_hanging_j42 v0 v1 μ5 else vl (μ5.2.2 v0 2) fun x10 => gd (kd x10 = (4, 2)) (bd (f_X2_has x10 (2 : Int32) v1 μ5) fun r13 μ12 => if r13 = 0 then some ((-2 : Int32), μ12) else f_X10_hanging_j42 v0 v1 μ12))
def rm_X10_hanging : Room := { frames := 12, cells := 0, slots := 0, locals := 335 }
set_option maxHeartbeats 4000000 in
set_option maxRecDepth 100000 in
theorem m_X10_hanging (l : Launch) (w : fW) (hJ : fJ w) (hw : w.2.2.2 = sd 0) (v0 : Nat) (v1 : Int32) (hk0 : kd v0 = (4, 10)) (μ : fMem) {r : Int32} {μr : fMem} (h : f_X10_hanging v0 v1 μ = some (r, μr)) : Met l yX10_hanging (.code yX10_hanging cX10_hanging 2 (some .int) :: gw) rm_X10_hanging (fPc w [.ref (w.2.2.1 v0), .int v1] μ) (fQi w r μr) 0 0 (fA w) := by
  refine met_of hJ (by decide) ?_ (Nat.le_of_ble_eq_true rfl)
  generalize ([.ref (w.2.2.1 v0), .int v1] : List Value).toArray = args
  intro p e s m below meth c ls C hr hP hl hS
  obtain ⟨hx, hb, hml, hown, hts, hK, -, hlk, hT⟩ := id C
  have hl : lv_has ls 2 [(0, .ref (w.2.2.1 v0)), (1, .int v1)] := hl
  unfold f_X10_hanging at h
  have J42 : ∀  (μ : fMem), f_X10_hanging_j42 v0 v1 μ = some (r, μr) → WW p l e rm_X10_hanging s m args below meth c (MQ below (fQi w r μr) args s 0 0 (fA w)) w μ 2 42 [] [(0, .ref (w.2.2.1 v0)), (1, .int v1)] := by
    intro  μ  h H locs ls hP hS hl
    unfold f_X10_hanging_j42 at h
    refine lv_aload_n hx hb dX10_hanging_42 rfl (lv_at hl 0 rfl) ?_
    refine r_getF (off := 84) C hP (iw hw (fi_10 hk0)) hk0 fl_X10_53 rfl rfl (zw hw) dX10_hanging_43 ?_
    refine lv_aload_n hx hb dX10_hanging_46 rfl (lv_at hl 0 rfl) ?_
    refine r_getRx C hP (iw hw (fi_10 hk0)) hk0 fl_X10_22 rfl (zw hw) dX10_hanging_47 (fun x16 ex16 => ?_)
    replace h := vl_ok ex16 h
    obtain ⟨g17, h⟩ := gd_ok h
    refine lv_aload_n hx hb dX10_hanging_50 rfl (lv_at hl 0 rfl) ?_
    refine r_getF (off := 66) C hP (iw hw (fi_10 hk0)) hk0 fl_X10_36 rfl rfl (zw hw) dX10_hanging_51 ?_
    obtain ⟨r19, μ18, h20, h⟩ := bd_ok h
    refine go_v (callV_run (As := [.ref (w.2.2.1 x16), .ref (w.2.2.1 (v0 + 66))]) (rest := []) C hl hP (hS.wide hJ).2.1 (iw hw (ff_10_8 hk0).2) (ff_10_8 hk0).1 (m_X0_begin l w hJ hw (v0 + 84) x16 (v0 + 66) (ff_10_8 hk0).1 g17 (ff_10_4 hk0).1 μ h20) mv_X10_189 ⟨rfl, rfl, by decide, by decide⟩ rfl rfl (Nat.le_of_ble_eq_true rfl) ⟨Nat.zero_le _, Nat.zero_le _⟩ dX10_hanging_54) hS (fun H locs hP hS => ?_)
    refine lv_aload_n hx hb dX10_hanging_57 rfl (lv_at hl 0 rfl) ?_
    refine r_getF (off := 134) C hP (iw hw (fi_10 hk0)) hk0 fl_X10_74 rfl rfl (zw hw) dX10_hanging_58 ?_
    refine lv_aload_n hx hb dX10_hanging_61 rfl (lv_at hl 0 rfl) ?_
    refine r_getRx C hP (iw hw (fi_10 hk0)) hk0 fl_X10_22 rfl (zw hw) dX10_hanging_62 (fun x21 ex21 => ?_)
    replace h := vl_ok ex21 h
    obtain ⟨g22, h⟩ := gd_ok h
    refine lv_aload_n hx hb dX10_hanging_65 rfl (lv_at hl 0 rfl) ?_
    refine r_getF (off := 66) C hP (iw hw (fi_10 hk0)) hk0 fl_X10_36 rfl rfl (zw hw) dX10_hanging_66 ?_
    refine lv_aload_n hx hb dX10_hanging_69 rfl (lv_at hl 0 rfl) ?_
    refine r_getF (off := 84) C hP (iw hw (fi_10 hk0)) hk0 fl_X10_53 rfl rfl (zw hw) dX10_hanging_70 ?_
    obtain ⟨r24, μ23, h25, h⟩ := bd_ok h
    refine go_v (callV_run (As := [.ref (w.2.2.1 x21), .ref (w.2.2.1 (v0 + 66)), .ref (w.2.2.1 (v0 + 84))]) (rest := []) C hl hP (hS.wide hJ).2.1 (iw hw (ff_10_11 hk0).2) (ff_10_11 hk0).1 (m_X1_work l w hJ hw (v0 + 134) x21 (v0 + 66) (v0 + 84) (ff_10_11 hk0).1 g22 (ff_10_4 hk0).1 (ff_10_8 hk0).1 μ18 h25) mv_X10_282 ⟨rfl, rfl, by decide, by decide⟩ rfl rfl (Nat.le_of_ble_eq_true rfl) ⟨Nat.zero_le _, Nat.zero_le _⟩ dX10_hanging_73) hS (fun H locs hP hS => ?_)
    refine lv_iload_n hx hb dX10_hanging_76 rfl (lv_at hl 1 rfl) ?_
    refine lv_iconst (v := (4)) hx hb dX10_hanging_77 (by decide) ?_
    refine lv_icmp_ne (tgt := 91) hx hb dX10_hanging_78 (by decide) (fun c26 => ?_) (fun c26 => ?_)
    · replace h := if_f c26 h
      refine lv_aload_n hx hb dX10_hanging_91 rfl (lv_at hl 0 rfl) ?_
      refine r_getF (off := 134) C hP (iw hw (fi_10 hk0)) hk0 fl_X10_74 rfl rfl (zw hw) dX10_hanging_92 ?_
      refine r_getF (off := 1) C hP (iw hw (ff_10_11 hk0).2) (ff_10_11 hk0).1 fl_X10_289 rfl rfl (zw hw) dX10_hanging_95 ?_
      refine lv_iload_n hx hb dX10_hanging_98 rfl (lv_at hl 1 rfl) ?_
      obtain ⟨g27, h⟩ := gd_ok h
      refine r_iald C hP (iw hw (ff_1_0 (ff_10_11 hk0).1).2) (ff_1_0 (ff_10_11 hk0).1).1 g27 dX10_hanging_99 ?_
      exact r_iret C hr hP hS h dX10_hanging_100
    · replace h := if_t c26 h
      refine lv_aload_n hx hb dX10_hanging_81 rfl (lv_at hl 0 rfl) ?_
      refine r_getF (off := 134) C hP (iw hw (fi_10 hk0)) hk0 fl_X10_74 rfl rfl (zw hw) dX10_hanging_82 ?_
      refine r_getI C hP (iw hw (ff_10_11 hk0).2) (ff_10_11 hk0).1 fl_X10_286 (Or.inl rfl) dX10_hanging_85 ?_
      refine lv_goto (tgt := 100) hx hb dX10_hanging_88 (by decide) ?_
      exact r_iret C hr hP hS h dX10_hanging_100
  refine lv_iload_n hx hb dX10_hanging_0 rfl (lv_at hl 1 rfl) ?_
  refine lv_if_lt (tgt := 20) hx hb dX10_hanging_1 (by decide) (fun c1 => ?_) (fun c1 => ?_)
  · replace h := if_t c1 h
    refine lv_iconst (v := (-1)) hx hb dX10_hanging_20 (by decide) ?_
    exact r_iret C hr hP hS h dX10_hanging_21
  · replace h := if_f c1 h
    refine lv_iload_n hx hb dX10_hanging_4 rfl (lv_at hl 1 rfl) ?_
    refine lv_iconst (v := (4)) hx hb dX10_hanging_5 (by decide) ?_
    refine lv_icmp_gt (tgt := 20) hx hb dX10_hanging_6 (by decide) (fun c2 => ?_) (fun c2 => ?_)
    · replace h := if_t c2 h
      refine lv_iconst (v := (-1)) hx hb dX10_hanging_20 (by decide) ?_
      exact r_iret C hr hP hS h dX10_hanging_21
    · replace h := if_f c2 h
      refine lv_aload_n hx hb dX10_hanging_9 rfl (lv_at hl 0 rfl) ?_
      refine r_getRx C hP (iw hw (fi_10 hk0)) hk0 fl_X10_22 rfl (zw hw) dX10_hanging_10 (fun x3 ex3 => ?_)
      replace h := vl_ok ex3 h
      obtain ⟨g4, h⟩ := gd_ok h
      refine lv_iconst (v := (0)) hx hb dX10_hanging_13 (by decide) ?_
      obtain ⟨r6, μ5, h7, h⟩ := bd_ok h
      refine go_i (callV_run (As := [.int (0 : Int32)]) (rest := []) C hl hP (hS.wide hJ).2.1 (iw hw (fi_2 g4)) g4 (m_X2_told l w hJ hw x3 (0 : Int32) g4 μ h7) mv_X10_203 ⟨rfl, rfl, by decide, by decide⟩ rfl rfl (Nat.le_of_ble_eq_true rfl) ⟨Nat.zero_le _, Nat.zero_le _⟩ dX10_hanging_14) hS (fun H locs hP hS => ?_)
      refine lv_if_ne (tgt := 22) hx hb dX10_hanging_17 (by decide) (fun c8 => ?_) (fun c8 => ?_)
      · replace h := if_f c8 h
        refine lv_iload_n hx hb dX10_hanging_22 rfl (lv_at hl 1 rfl) ?_
        refine lv_iconst (v := (4)) hx hb dX10_hanging_23 (by decide) ?_
        refine lv_icmp_ge (tgt := 42) hx hb dX10_hanging_24 (by decide) (fun c9 => ?_) (fun c9 => ?_)
        · replace h := if_t c9 h
          exact J42  μ5  h _ _ _ hP hS (lv_sub hl [0, 1] rfl)
        · replace h := if_f c9 h
          refine lv_aload_n hx hb dX10_hanging_27 rfl (lv_at hl 0 rfl) ?_
          refine r_getRx C hP (iw hw (fi_10 hk0)) hk0 fl_X10_22 rfl (zw hw) dX10_hanging_28 (fun x10 ex10 => ?_)
          replace h := vl_ok ex10 h
          obtain ⟨g11, h⟩ := gd_ok h
          refine lv_iconst (v := (2)) hx hb dX10_hanging_31 (by decide) ?_
          refine lv_iload_n hx hb dX10_hanging_32 rfl (lv_at hl 1 rfl) ?_
          obtain ⟨r13, μ12, h14, h⟩ := bd_ok h
          refine go_i (callV_run (As := [.int (2 : Int32), .int v1]) (rest := []) C hl hP (hS.wide hJ).2.1 (iw hw (fi_2 g11)) g11 (m_X2_has l w hJ hw x10 (2 : Int32) v1 g11 μ5 h14) mv_X10_121 ⟨rfl, rfl, by decide, by decide⟩ rfl rfl (Nat.le_of_ble_eq_true rfl) ⟨Nat.zero_le _, Nat.zero_le _⟩ dX10_hanging_33) hS (fun H locs hP hS => ?_)
          refine lv_if_ne (tgt := 42) hx hb dX10_hanging_36 (by decide) (fun c15 => ?_) (fun c15 => ?_)
          · replace h := if_f c15 h
            exact J42  μ12  h _ _ _ hP hS (lv_sub hl [0, 1] rfl)
          · replace h := if_t c15 h
            refine lv_bipush (v := (-2)) hx hb dX10_hanging_39 (by decide) ?_
            exact r_iret C hr hP hS h dX10_hanging_41
      · replace h := if_t c8 h
        refine lv_iconst (v := (-1)) hx hb dX10_hanging_20 (by decide) ?_
        exact r_iret C hr hP hS h dX10_hanging_21

def f_X10_steer_L60 (v0 : Nat) (v1 : Int32) (v2 : Int32) (r18 : Int32) (v4 : Int32) (v5 : Int32) (v6 : Int32) (μ : fMem) : Option (Nat × (Int32 × Int32 × Int32 × fMem)) :=
  vl (μ.2.2 v0 2) fun x20 => gd (kd x20 = (4, 2)) (bd (f_X2_told x20 (2 : Int32) μ) fun r23 μ22 => if (shl (1 : Int32) r23) ≤ v6 then some (1, (v4, v5, v6, μ22)) else if (v6 &&& r18) = 0 then bd (f_J6_bitCount_0f7a4 v6 μ22) fun r29 μ28 => if r29 < v5 then bd (f_X10_tryFromNow v0 μ28) fun r33 μ32 => bd (f_X7_hangAll (v0 + 78) v6 v2 μ32) fun r36 μ35 => bd (f_X0_seat (v0 + 84) v1 μ35) fun r39 μ38 => if r39 = v2 then bd (f_J6_bitCount_0f7a4 v6 μ38) fun r44 μ43 => vl (v6 + (1 : Int32)) fun x46 => some (0, (v6, r44, x46, μ43)) else vl (v6 + (1 : Int32)) fun x42 => some (0, (v4, v5, x42, μ38)) else vl (v6 + (1 : Int32)) fun x47 => some (0, (v4, v5, x47, μ28)) else vl (v6 + (1 : Int32)) fun x27 => some (0, (v4, v5, x27, μ22)))
def f_X10_steer (v0 : Nat) (v1 : Int32) (v2 : Int32) (μ : fMem) : Option (Int32 × fMem) :=
  vl (μ.2.2 v0 2) fun x1 => gd (kd x1 = (4, 2)) (bd (f_X2_has x1 (3 : Int32) v1 μ) fun r4 μ3 => if r4 = 0 then some ((-1 : Int32), μ3) else vl (μ3.2.2 v0 2) fun x7 => gd (kd x7 = (4, 2)) (bd (f_X2_has x7 (0 : Int32) v2 μ3) fun r10 μ9 => if r10 = 0 then some ((-1 : Int32), μ9) else bd (f_X7_isRoped (v0 + 66) v2 μ9) fun r14 μ13 => if r14 = 0 then bd (f_X7_thingsIn (v0 + 66) v2 μ13) fun r18 μ17 => bd (lpn (fun (q : Int32 × Int32 × Int32 × fMem) => f_X10_steer_L60 v0 v1 v2 r18 q.1 q.2.1 q.2.2.1 q.2.2.2) fuel ((-2 : Int32), (9 : Int32), (0 : Int32), μ17)) fun t48 q49 => (fun (x50 : Int32) (x51 : Int32) (x52 : Int32) (μ53 : fMem) => some (x50, μ53)) q49.1 q49.2.1 q49.2.2.1 q49.2.2.2 else some ((-2 : Int32), μ13)))
def rm_X10_steer : Room := { frames := 5, cells := 0, slots := 0, locals := 156 }
set_option maxHeartbeats 4000000 in
set_option maxRecDepth 100000 in
theorem m_X10_steer (l : Launch) (w : fW) (hJ : fJ w) (hw : w.2.2.2 = sd 0) (v0 : Nat) (v1 : Int32) (v2 : Int32) (hk0 : kd v0 = (4, 10)) (μ : fMem) {r : Int32} {μr : fMem} (h : f_X10_steer v0 v1 v2 μ = some (r, μr)) : Met l yX10_steer (.code yX10_steer cX10_steer 7 (some .int) :: gw) rm_X10_steer (fPc w [.ref (w.2.2.1 v0), .int v1, .int v2] μ) (fQi w r μr) 0 0 (fA w) := by
  refine met_of hJ (by decide) ?_ (Nat.le_of_ble_eq_true rfl)
  generalize ([.ref (w.2.2.1 v0), .int v1, .int v2] : List Value).toArray = args
  intro p e s m below meth c ls C hr hP hl hS
  obtain ⟨hx, hb, hml, hown, hts, hK, -, hlk, hT⟩ := id C
  have hl : lv_has ls 7 [(0, .ref (w.2.2.1 v0)), (1, .int v1), (2, .int v2)] := hl
  unfold f_X10_steer at h
  refine lv_aload_n hx hb dX10_steer_0 rfl (lv_at hl 0 rfl) ?_
  refine r_getRx C hP (iw hw (fi_10 hk0)) hk0 fl_X10_22 rfl (zw hw) dX10_steer_1 (fun x1 ex1 => ?_)
  replace h := vl_ok ex1 h
  obtain ⟨g2, h⟩ := gd_ok h
  refine lv_iconst (v := (3)) hx hb dX10_steer_4 (by decide) ?_
  refine lv_iload_n hx hb dX10_steer_5 rfl (lv_at hl 1 rfl) ?_
  obtain ⟨r4, μ3, h5, h⟩ := bd_ok h
  refine go_i (callV_run (As := [.int (3 : Int32), .int v1]) (rest := []) C hl hP (hS.wide hJ).2.1 (iw hw (fi_2 g2)) g2 (m_X2_has l w hJ hw x1 (3 : Int32) v1 g2 μ h5) mv_X10_121 ⟨rfl, rfl, by decide, by decide⟩ rfl rfl (Nat.le_of_ble_eq_true rfl) ⟨Nat.zero_le _, Nat.zero_le _⟩ dX10_steer_6) hS (fun H locs hP hS => ?_)
  refine lv_if_eq (tgt := 24) hx hb dX10_steer_9 (by decide) (fun c6 => ?_) (fun c6 => ?_)
  · replace h := if_t c6 h
    refine lv_iconst (v := (-1)) hx hb dX10_steer_24 (by decide) ?_
    exact r_iret C hr hP hS h dX10_steer_25
  · replace h := if_f c6 h
    refine lv_aload_n hx hb dX10_steer_12 rfl (lv_at hl 0 rfl) ?_
    refine r_getRx C hP (iw hw (fi_10 hk0)) hk0 fl_X10_22 rfl (zw hw) dX10_steer_13 (fun x7 ex7 => ?_)
    replace h := vl_ok ex7 h
    obtain ⟨g8, h⟩ := gd_ok h
    refine lv_iconst (v := (0)) hx hb dX10_steer_16 (by decide) ?_
    refine lv_iload_n hx hb dX10_steer_17 rfl (lv_at hl 2 rfl) ?_
    obtain ⟨r10, μ9, h11, h⟩ := bd_ok h
    refine go_i (callV_run (As := [.int (0 : Int32), .int v2]) (rest := []) C hl hP (hS.wide hJ).2.1 (iw hw (fi_2 g8)) g8 (m_X2_has l w hJ hw x7 (0 : Int32) v2 g8 μ3 h11) mv_X10_121 ⟨rfl, rfl, by decide, by decide⟩ rfl rfl (Nat.le_of_ble_eq_true rfl) ⟨Nat.zero_le _, Nat.zero_le _⟩ dX10_steer_18) hS (fun H locs hP hS => ?_)
    refine lv_if_ne (tgt := 26) hx hb dX10_steer_21 (by decide) (fun c12 => ?_) (fun c12 => ?_)
    · replace h := if_f c12 h
      refine lv_aload_n hx hb dX10_steer_26 rfl (lv_at hl 0 rfl) ?_
      refine r_getF (off := 66) C hP (iw hw (fi_10 hk0)) hk0 fl_X10_36 rfl rfl (zw hw) dX10_steer_27 ?_
      refine lv_iload_n hx hb dX10_steer_30 rfl (lv_at hl 2 rfl) ?_
      obtain ⟨r14, μ13, h15, h⟩ := bd_ok h
      refine go_i (callV_run (As := [.int v2]) (rest := []) C hl hP (hS.wide hJ).2.1 (iw hw (ff_10_4 hk0).2) (ff_10_4 hk0).1 (m_X7_isRoped l w hJ hw (v0 + 66) v2 (ff_10_4 hk0).1 μ9 h15) mv_X10_155 ⟨rfl, rfl, by decide, by decide⟩ rfl rfl (Nat.le_of_ble_eq_true rfl) ⟨Nat.zero_le _, Nat.zero_le _⟩ dX10_steer_31) hS (fun H locs hP hS => ?_)
      refine lv_if_eq (tgt := 40) hx hb dX10_steer_34 (by decide) (fun c16 => ?_) (fun c16 => ?_)
      · replace h := if_t c16 h
        refine lv_aload_n hx hb dX10_steer_40 rfl (lv_at hl 0 rfl) ?_
        refine r_getF (off := 66) C hP (iw hw (fi_10 hk0)) hk0 fl_X10_36 rfl rfl (zw hw) dX10_steer_41 ?_
        refine lv_iload_n hx hb dX10_steer_44 rfl (lv_at hl 2 rfl) ?_
        obtain ⟨r18, μ17, h19, h⟩ := bd_ok h
        refine go_i (callV_run (As := [.int v2]) (rest := []) C hl hP (hS.wide hJ).2.1 (iw hw (ff_10_4 hk0).2) (ff_10_4 hk0).1 (m_X7_thingsIn l w hJ hw (v0 + 66) v2 (ff_10_4 hk0).1 μ13 h19) mv_X10_159 ⟨rfl, rfl, by decide, by decide⟩ rfl rfl (Nat.le_of_ble_eq_true rfl) ⟨Nat.zero_le _, Nat.zero_le _⟩ dX10_steer_45) hS (fun H locs hP hS => ?_)
        refine lv_istore_n (lv' := [(3, .int r18), (0, .ref (w.2.2.1 v0)), (1, .int v1), (2, .int v2)]) hx hb dX10_steer_48 rfl hl (by decide) rfl (fun ls hl => ?_)
        refine lv_bipush (v := (-2)) hx hb dX10_steer_49 (by decide) ?_
        refine lv_istore (lv' := [(4, .int (-2 : Int32)), (3, .int r18), (0, .ref (w.2.2.1 v0)), (1, .int v1), (2, .int v2)]) hx hb dX10_steer_51 hl (by decide) rfl (fun ls hl => ?_)
        refine lv_bipush (v := (9)) hx hb dX10_steer_53 (by decide) ?_
        refine lv_istore (lv' := [(5, .int (9 : Int32)), (4, .int (-2 : Int32)), (3, .int r18), (0, .ref (w.2.2.1 v0)), (1, .int v1), (2, .int v2)]) hx hb dX10_steer_55 hl (by decide) rfl (fun ls hl => ?_)
        refine lv_iconst (v := (0)) hx hb dX10_steer_57 (by decide) ?_
        refine lv_istore (lv' := [(6, .int (0 : Int32)), (5, .int (9 : Int32)), (4, .int (-2 : Int32)), (3, .int r18), (0, .ref (w.2.2.1 v0)), (1, .int v1), (2, .int v2)]) hx hb dX10_steer_58 hl (by decide) rfl (fun ls hl => ?_)
        obtain ⟨t48, q49, h54, h⟩ := bd_ok h
        refine lpn_ind (b := (fun (q : Int32 × Int32 × Int32 × fMem) => f_X10_steer_L60 v0 v1 v2 r18 q.1 q.2.1 q.2.2.1 q.2.2.2)) (P := fun (q : Int32 × Int32 × Int32 × fMem) => WW p l e rm_X10_steer s m args below meth c (MQ below (fQi w r μr) args s 0 0 (fA w)) w q.2.2.2 7 60 [] [(0, .ref (w.2.2.1 v0)), (1, .int v1), (2, .int v2), (3, .int r18), (4, .int q.1), (5, .int q.2.1), (6, .int q.2.2.1)]) (K := fun _ (q : Int32 × Int32 × Int32 × fMem) => WW p l e rm_X10_steer s m args below meth c (MQ below (fQi w r μr) args s 0 0 (fA w)) w q.2.2.2 7 138 [] [(4, .int q.1)]) ?_ fuel ((-2 : Int32), (9 : Int32), (0 : Int32), μ17) t48 q49 h54 ?_ _ _ _ hP hS (lv_sub hl [4, 5, 6, 3, 2, 1, 0] rfl)
        · intro q tz60 sz60 h hP0_60 hK0_60 H locs ls hP hS hl
          obtain ⟨v4, v5, v6, μ⟩ := q
          have hP : fP w μ H := hP
          have hl : lv_has ls 7 [(0, .ref (w.2.2.1 v0)), (1, .int v1), (2, .int v2), (3, .int r18), (4, .int v4), (5, .int v5), (6, .int v6)] := hl
          have h : f_X10_steer_L60 v0 v1 v2 r18 v4 v5 v6 μ = some (tz60, sz60) := h
          unfold f_X10_steer_L60 at h
          refine lv_iload hx hb dX10_steer_60 (lv_at hl 6 rfl) ?_
          refine lv_iconst (v := (1)) hx hb dX10_steer_62 (by decide) ?_
          refine lv_aload_n hx hb dX10_steer_63 rfl (lv_at hl 0 rfl) ?_
          refine r_getRx C hP (iw hw (fi_10 hk0)) hk0 fl_X10_22 rfl (zw hw) dX10_steer_64 (fun x20 ex20 => ?_)
          replace h := vl_ok ex20 h
          obtain ⟨g21, h⟩ := gd_ok h
          refine lv_iconst (v := (2)) hx hb dX10_steer_67 (by decide) ?_
          obtain ⟨r23, μ22, h24, h⟩ := bd_ok h
          refine go_i (callV_run (As := [.int (2 : Int32)]) (rest := [.int (1 : Int32), .int v6]) C hl hP (hS.wide hJ).2.1 (iw hw (fi_2 g21)) g21 (m_X2_told l w hJ hw x20 (2 : Int32) g21 μ h24) mv_X10_203 ⟨rfl, rfl, by decide, by decide⟩ rfl rfl (Nat.le_of_ble_eq_true rfl) ⟨Nat.zero_le _, Nat.zero_le _⟩ dX10_steer_68) hS (fun H locs hP hS => ?_)
          refine r_ishl hx hb dX10_steer_71 ?_
          refine lv_icmp_ge (tgt := 138) hx hb dX10_steer_72 (by decide) (fun c25 => ?_) (fun c25 => ?_)
          · replace h := if_t c25 h
            obtain ⟨rfl, rfl⟩ := leaf h
            exact (hK0_60 0 rfl) _ _ _ hP hS (lv_sub hl [4] rfl)
          · replace h := if_f c25 h
            refine lv_iload hx hb dX10_steer_75 (lv_at hl 6 rfl) ?_
            refine lv_iload_n hx hb dX10_steer_77 rfl (lv_at hl 3 rfl) ?_
            refine lv_iand hx hb dX10_steer_78 ?_
            refine lv_if_ne (tgt := 132) hx hb dX10_steer_79 (by decide) (fun c26 => ?_) (fun c26 => ?_)
            · replace h := if_f c26 h
              obtain ⟨x27, ex27⟩ : ∃ y : Int32, y = (v6 + (1 : Int32)) := ⟨_, rfl⟩
              replace h := vl_ok ex27 h
              refine lv_iinc (v := x27) (lv' := [(6, .int x27), (0, .ref (w.2.2.1 v0)), (1, .int v1), (2, .int v2), (3, .int r18), (4, .int v4), (5, .int v5)]) hx hb dX10_steer_132 hl (k := 6) rfl (by rw [ex27]; rfl) (by decide) rfl (fun ls hl => ?_)
              refine lv_goto (tgt := 60) hx hb dX10_steer_135 (by decide) ?_
              obtain ⟨rfl, rfl⟩ := leaf h
              exact hP0_60 rfl _ _ _ hP hS (lv_sub hl [1, 2, 3, 4, 5, 6, 0] rfl)
            · replace h := if_t c26 h
              refine lv_iload hx hb dX10_steer_82 (lv_at hl 6 rfl) ?_
              obtain ⟨r29, μ28, h30, h⟩ := bd_ok h
              refine go_i (callS_run (As := [.int v6]) (rest := []) C hl hP (hS.wide hJ).2.1 (m_J6_bitCount_0f7a4 l w hJ v6  μ22 h30) ms_X10_163 ⟨rfl, rfl, by decide, by decide⟩ rfl rfl (Nat.le_of_ble_eq_true rfl) ⟨Nat.zero_le _, Nat.zero_le _⟩ dX10_steer_84) hS (fun H locs hP hS => ?_)
              refine lv_iload hx hb dX10_steer_87 (lv_at hl 5 rfl) ?_
              refine lv_icmp_lt (tgt := 95) hx hb dX10_steer_89 (by decide) (fun c31 => ?_) (fun c31 => ?_)
              · replace h := if_t c31 h
                refine lv_aload_n hx hb dX10_steer_95 rfl (lv_at hl 0 rfl) ?_
                obtain ⟨r33, μ32, h34, h⟩ := bd_ok h
                refine go_v (callV_run (As := []) (rest := []) C hl hP (hS.wide hJ).2.1 (iw hw (fi_10 hk0)) hk0 (m_X10_tryFromNow l w hJ hw v0 hk0 μ28 h34) mv_X10_242 ⟨rfl, rfl, by decide, by decide⟩ rfl rfl (Nat.le_of_ble_eq_true rfl) ⟨Nat.zero_le _, Nat.zero_le _⟩ dX10_steer_96) hS (fun H locs hP hS => ?_)
                refine lv_aload_n hx hb dX10_steer_99 rfl (lv_at hl 0 rfl) ?_
                refine r_getF (off := 78) C hP (iw hw (fi_10 hk0)) hk0 fl_X10_47 rfl rfl (zw hw) dX10_steer_100 ?_
                refine lv_iload hx hb dX10_steer_103 (lv_at hl 6 rfl) ?_
                refine lv_iload_n hx hb dX10_steer_105 rfl (lv_at hl 2 rfl) ?_
                obtain ⟨r36, μ35, h37, h⟩ := bd_ok h
                refine go_v (callV_run (As := [.int v6, .int v2]) (rest := []) C hl hP (hS.wide hJ).2.1 (iw hw (ff_10_7 hk0).2) (ff_10_7 hk0).1 (m_X7_hangAll l w hJ hw (v0 + 78) v6 v2 (ff_10_7 hk0).1 μ32 h37) mv_X10_292 ⟨rfl, rfl, by decide, by decide⟩ rfl rfl (Nat.le_of_ble_eq_true rfl) ⟨Nat.zero_le _, Nat.zero_le _⟩ dX10_steer_106) hS (fun H locs hP hS => ?_)
                refine lv_aload_n hx hb dX10_steer_109 rfl (lv_at hl 0 rfl) ?_
                refine r_getF (off := 84) C hP (iw hw (fi_10 hk0)) hk0 fl_X10_53 rfl rfl (zw hw) dX10_steer_110 ?_
                refine lv_iload_n hx hb dX10_steer_113 rfl (lv_at hl 1 rfl) ?_
                obtain ⟨r39, μ38, h40, h⟩ := bd_ok h
                refine go_i (callV_run (As := [.int v1]) (rest := []) C hl hP (hS.wide hJ).2.1 (iw hw (ff_10_8 hk0).2) (ff_10_8 hk0).1 (m_X0_seat l w hJ hw (v0 + 84) v1 (ff_10_8 hk0).1 μ35 h40) mv_X10_254 ⟨rfl, rfl, by decide, by decide⟩ rfl rfl (Nat.le_of_ble_eq_true rfl) ⟨Nat.zero_le _, Nat.zero_le _⟩ dX10_steer_114) hS (fun H locs hP hS => ?_)
                refine lv_iload_n hx hb dX10_steer_117 rfl (lv_at hl 2 rfl) ?_
                refine lv_icmp_ne (tgt := 132) hx hb dX10_steer_118 (by decide) (fun c41 => ?_) (fun c41 => ?_)
                · replace h := if_f c41 h
                  obtain ⟨x42, ex42⟩ : ∃ y : Int32, y = (v6 + (1 : Int32)) := ⟨_, rfl⟩
                  replace h := vl_ok ex42 h
                  refine lv_iinc (v := x42) (lv' := [(6, .int x42), (0, .ref (w.2.2.1 v0)), (1, .int v1), (2, .int v2), (3, .int r18), (4, .int v4), (5, .int v5)]) hx hb dX10_steer_132 hl (k := 6) rfl (by rw [ex42]; rfl) (by decide) rfl (fun ls hl => ?_)
                  refine lv_goto (tgt := 60) hx hb dX10_steer_135 (by decide) ?_
                  obtain ⟨rfl, rfl⟩ := leaf h
                  exact hP0_60 rfl _ _ _ hP hS (lv_sub hl [1, 2, 3, 4, 5, 6, 0] rfl)
                · replace h := if_t c41 h
                  refine lv_iload hx hb dX10_steer_121 (lv_at hl 6 rfl) ?_
                  refine lv_istore (lv' := [(4, .int v6), (0, .ref (w.2.2.1 v0)), (1, .int v1), (2, .int v2), (3, .int r18), (5, .int v5), (6, .int v6)]) hx hb dX10_steer_123 hl (by decide) rfl (fun ls hl => ?_)
                  refine lv_iload hx hb dX10_steer_125 (lv_at hl 6 rfl) ?_
                  obtain ⟨r44, μ43, h45, h⟩ := bd_ok h
                  refine go_i (callS_run (As := [.int v6]) (rest := []) C hl hP (hS.wide hJ).2.1 (m_J6_bitCount_0f7a4 l w hJ v6  μ38 h45) ms_X10_163 ⟨rfl, rfl, by decide, by decide⟩ rfl rfl (Nat.le_of_ble_eq_true rfl) ⟨Nat.zero_le _, Nat.zero_le _⟩ dX10_steer_127) hS (fun H locs hP hS => ?_)
                  refine lv_istore (lv' := [(5, .int r44), (4, .int v6), (0, .ref (w.2.2.1 v0)), (1, .int v1), (2, .int v2), (3, .int r18), (6, .int v6)]) hx hb dX10_steer_130 hl (by decide) rfl (fun ls hl => ?_)
                  obtain ⟨x46, ex46⟩ : ∃ y : Int32, y = (v6 + (1 : Int32)) := ⟨_, rfl⟩
                  replace h := vl_ok ex46 h
                  refine lv_iinc (v := x46) (lv' := [(6, .int x46), (5, .int r44), (4, .int v6), (0, .ref (w.2.2.1 v0)), (1, .int v1), (2, .int v2), (3, .int r18)]) hx hb dX10_steer_132 hl (k := 6) rfl (by rw [ex46]; rfl) (by decide) rfl (fun ls hl => ?_)
                  refine lv_goto (tgt := 60) hx hb dX10_steer_135 (by decide) ?_
                  obtain ⟨rfl, rfl⟩ := leaf h
                  exact hP0_60 rfl _ _ _ hP hS (lv_sub hl [3, 4, 5, 6, 2, 1, 0] rfl)
              · replace h := if_f c31 h
                refine lv_goto (tgt := 132) hx hb dX10_steer_92 (by decide) ?_
                obtain ⟨x47, ex47⟩ : ∃ y : Int32, y = (v6 + (1 : Int32)) := ⟨_, rfl⟩
                replace h := vl_ok ex47 h
                refine lv_iinc (v := x47) (lv' := [(6, .int x47), (0, .ref (w.2.2.1 v0)), (1, .int v1), (2, .int v2), (3, .int r18), (4, .int v4), (5, .int v5)]) hx hb dX10_steer_132 hl (k := 6) rfl (by rw [ex47]; rfl) (by decide) rfl (fun ls hl => ?_)
                refine lv_goto (tgt := 60) hx hb dX10_steer_135 (by decide) ?_
                obtain ⟨rfl, rfl⟩ := leaf h
                exact hP0_60 rfl _ _ _ hP hS (lv_sub hl [1, 2, 3, 4, 5, 6, 0] rfl)
        · obtain ⟨x50, x51, x52, μ53⟩ := q49
          intro H locs ls hP hS hl
          have hP : fP w μ53 H := hP
          have hl : lv_has ls 7 [(4, .int x50)] := hl
          try dsimp only at h
          refine lv_iload hx hb dX10_steer_138 (lv_at hl 0 rfl) ?_
          exact r_iret C hr hP hS h dX10_steer_140
      · replace h := if_f c16 h
        refine lv_bipush (v := (-2)) hx hb dX10_steer_37 (by decide) ?_
        exact r_iret C hr hP hS h dX10_steer_39
    · replace h := if_t c12 h
      refine lv_iconst (v := (-1)) hx hb dX10_steer_24 (by decide) ?_
      exact r_iret C hr hP hS h dX10_steer_25

def f_X10_rests (v0 : Nat) (μ : fMem) : Option (Int32 × fMem) :=
  vl (μ.2.2 v0 2) fun x1 => gd (kd x1 = (4, 2)) (bd (f_X2_told x1 (0 : Int32) μ) fun r4 μ3 => if r4 = 0 then some ((-1 : Int32), μ3) else vl (μ3.2.2 v0 2) fun x7 => gd (kd x7 = (4, 2)) (bd (f_X0_begin (v0 + 84) x7 (v0 + 66) μ3) fun r10 μ9 => vl (μ9.2.2 v0 2) fun x12 => gd (kd x12 = (4, 2)) (bd (f_X6_work (v0 + 175) x12 (v0 + 66) (v0 + 84) μ9) fun r15 μ14 => some ((μ14.1 (v0 + 175) 0), μ14))))
def rm_X10_rests : Room := { frames := 5, cells := 0, slots := 0, locals := 182 }
set_option maxHeartbeats 4000000 in
set_option maxRecDepth 100000 in
theorem m_X10_rests (l : Launch) (w : fW) (hJ : fJ w) (hw : w.2.2.2 = sd 0) (v0 : Nat) (hk0 : kd v0 = (4, 10)) (μ : fMem) {r : Int32} {μr : fMem} (h : f_X10_rests v0 μ = some (r, μr)) : Met l yX10_rests (.code yX10_rests cX10_rests 1 (some .int) :: gw) rm_X10_rests (fPc w [.ref (w.2.2.1 v0)] μ) (fQi w r μr) 0 0 (fA w) := by
  refine met_of hJ (by decide) ?_ (Nat.le_of_ble_eq_true rfl)
  generalize ([.ref (w.2.2.1 v0)] : List Value).toArray = args
  intro p e s m below meth c ls C hr hP hl hS
  obtain ⟨hx, hb, hml, hown, hts, hK, -, hlk, hT⟩ := id C
  have hl : lv_has ls 1 [(0, .ref (w.2.2.1 v0))] := hl
  unfold f_X10_rests at h
  refine lv_aload_n hx hb dX10_rests_0 rfl (lv_at hl 0 rfl) ?_
  refine r_getRx C hP (iw hw (fi_10 hk0)) hk0 fl_X10_22 rfl (zw hw) dX10_rests_1 (fun x1 ex1 => ?_)
  replace h := vl_ok ex1 h
  obtain ⟨g2, h⟩ := gd_ok h
  refine lv_iconst (v := (0)) hx hb dX10_rests_4 (by decide) ?_
  obtain ⟨r4, μ3, h5, h⟩ := bd_ok h
  refine go_i (callV_run (As := [.int (0 : Int32)]) (rest := []) C hl hP (hS.wide hJ).2.1 (iw hw (fi_2 g2)) g2 (m_X2_told l w hJ hw x1 (0 : Int32) g2 μ h5) mv_X10_203 ⟨rfl, rfl, by decide, by decide⟩ rfl rfl (Nat.le_of_ble_eq_true rfl) ⟨Nat.zero_le _, Nat.zero_le _⟩ dX10_rests_5) hS (fun H locs hP hS => ?_)
  refine lv_if_ne (tgt := 13) hx hb dX10_rests_8 (by decide) (fun c6 => ?_) (fun c6 => ?_)
  · replace h := if_f c6 h
    refine lv_aload_n hx hb dX10_rests_13 rfl (lv_at hl 0 rfl) ?_
    refine r_getF (off := 84) C hP (iw hw (fi_10 hk0)) hk0 fl_X10_53 rfl rfl (zw hw) dX10_rests_14 ?_
    refine lv_aload_n hx hb dX10_rests_17 rfl (lv_at hl 0 rfl) ?_
    refine r_getRx C hP (iw hw (fi_10 hk0)) hk0 fl_X10_22 rfl (zw hw) dX10_rests_18 (fun x7 ex7 => ?_)
    replace h := vl_ok ex7 h
    obtain ⟨g8, h⟩ := gd_ok h
    refine lv_aload_n hx hb dX10_rests_21 rfl (lv_at hl 0 rfl) ?_
    refine r_getF (off := 66) C hP (iw hw (fi_10 hk0)) hk0 fl_X10_36 rfl rfl (zw hw) dX10_rests_22 ?_
    obtain ⟨r10, μ9, h11, h⟩ := bd_ok h
    refine go_v (callV_run (As := [.ref (w.2.2.1 x7), .ref (w.2.2.1 (v0 + 66))]) (rest := []) C hl hP (hS.wide hJ).2.1 (iw hw (ff_10_8 hk0).2) (ff_10_8 hk0).1 (m_X0_begin l w hJ hw (v0 + 84) x7 (v0 + 66) (ff_10_8 hk0).1 g8 (ff_10_4 hk0).1 μ3 h11) mv_X10_189 ⟨rfl, rfl, by decide, by decide⟩ rfl rfl (Nat.le_of_ble_eq_true rfl) ⟨Nat.zero_le _, Nat.zero_le _⟩ dX10_rests_25) hS (fun H locs hP hS => ?_)
    refine lv_aload_n hx hb dX10_rests_28 rfl (lv_at hl 0 rfl) ?_
    refine r_getF (off := 175) C hP (iw hw (fi_10 hk0)) hk0 fl_X10_81 rfl rfl (zw hw) dX10_rests_29 ?_
    refine lv_aload_n hx hb dX10_rests_32 rfl (lv_at hl 0 rfl) ?_
    refine r_getRx C hP (iw hw (fi_10 hk0)) hk0 fl_X10_22 rfl (zw hw) dX10_rests_33 (fun x12 ex12 => ?_)
    replace h := vl_ok ex12 h
    obtain ⟨g13, h⟩ := gd_ok h
    refine lv_aload_n hx hb dX10_rests_36 rfl (lv_at hl 0 rfl) ?_
    refine r_getF (off := 66) C hP (iw hw (fi_10 hk0)) hk0 fl_X10_36 rfl rfl (zw hw) dX10_rests_37 ?_
    refine lv_aload_n hx hb dX10_rests_40 rfl (lv_at hl 0 rfl) ?_
    refine r_getF (off := 84) C hP (iw hw (fi_10 hk0)) hk0 fl_X10_53 rfl rfl (zw hw) dX10_rests_41 ?_
    obtain ⟨r15, μ14, h16, h⟩ := bd_ok h
    refine go_v (callV_run (As := [.ref (w.2.2.1 x12), .ref (w.2.2.1 (v0 + 66)), .ref (w.2.2.1 (v0 + 84))]) (rest := []) C hl hP (hS.wide hJ).2.1 (iw hw (ff_10_12 hk0).2) (ff_10_12 hk0).1 (m_X6_work l w hJ hw (v0 + 175) x12 (v0 + 66) (v0 + 84) (ff_10_12 hk0).1 g13 (ff_10_4 hk0).1 (ff_10_8 hk0).1 μ9 h16) mv_X10_296 ⟨rfl, rfl, by decide, by decide⟩ rfl rfl (Nat.le_of_ble_eq_true rfl) ⟨Nat.zero_le _, Nat.zero_le _⟩ dX10_rests_44) hS (fun H locs hP hS => ?_)
    refine lv_aload_n hx hb dX10_rests_47 rfl (lv_at hl 0 rfl) ?_
    refine r_getF (off := 175) C hP (iw hw (fi_10 hk0)) hk0 fl_X10_81 rfl rfl (zw hw) dX10_rests_48 ?_
    refine r_getI C hP (iw hw (ff_10_12 hk0).2) (ff_10_12 hk0).1 fl_X10_297 (Or.inl rfl) dX10_rests_51 ?_
    exact r_iret C hr hP hS h dX10_rests_54
  · replace h := if_t c6 h
    refine lv_iconst (v := (-1)) hx hb dX10_rests_11 (by decide) ?_
    exact r_iret C hr hP hS h dX10_rests_12

def f_X10_rest (v0 : Nat) (v1 : Int32) (μ : fMem) : Option (Int32 × fMem) :=
  vl (μ.2.2 v0 2) fun x1 => gd (kd x1 = (4, 2)) (bd (f_X2_told x1 (0 : Int32) μ) fun r4 μ3 => if r4 = 0 then some ((-1 : Int32), μ3) else if 0 ≤ v1 then vl (μ3.2.2 v0 2) fun x8 => gd (kd x8 = (4, 2)) (bd (f_X0_begin (v0 + 84) x8 (v0 + 66) μ3) fun r11 μ10 => vl (μ10.2.2 v0 2) fun x13 => gd (kd x13 = (4, 2)) (bd (f_X6_work (v0 + 175) x13 (v0 + 66) (v0 + 84) μ10) fun r16 μ15 => if (μ15.1 (v0 + 175) 0) ≤ v1 then some ((-2 : Int32), μ15) else gd (ixo v1 36) (some ((μ15.1 ((v0 + 175) + 1) (Int32.toNatClampNeg v1)), μ15)))) else some ((-1 : Int32), μ3))
def rm_X10_rest : Room := { frames := 5, cells := 0, slots := 0, locals := 182 }
set_option maxHeartbeats 4000000 in
set_option maxRecDepth 100000 in
theorem m_X10_rest (l : Launch) (w : fW) (hJ : fJ w) (hw : w.2.2.2 = sd 0) (v0 : Nat) (v1 : Int32) (hk0 : kd v0 = (4, 10)) (μ : fMem) {r : Int32} {μr : fMem} (h : f_X10_rest v0 v1 μ = some (r, μr)) : Met l yX10_rest (.code yX10_rest cX10_rest 2 (some .int) :: gw) rm_X10_rest (fPc w [.ref (w.2.2.1 v0), .int v1] μ) (fQi w r μr) 0 0 (fA w) := by
  refine met_of hJ (by decide) ?_ (Nat.le_of_ble_eq_true rfl)
  generalize ([.ref (w.2.2.1 v0), .int v1] : List Value).toArray = args
  intro p e s m below meth c ls C hr hP hl hS
  obtain ⟨hx, hb, hml, hown, hts, hK, -, hlk, hT⟩ := id C
  have hl : lv_has ls 2 [(0, .ref (w.2.2.1 v0)), (1, .int v1)] := hl
  unfold f_X10_rest at h
  refine lv_aload_n hx hb dX10_rest_0 rfl (lv_at hl 0 rfl) ?_
  refine r_getRx C hP (iw hw (fi_10 hk0)) hk0 fl_X10_22 rfl (zw hw) dX10_rest_1 (fun x1 ex1 => ?_)
  replace h := vl_ok ex1 h
  obtain ⟨g2, h⟩ := gd_ok h
  refine lv_iconst (v := (0)) hx hb dX10_rest_4 (by decide) ?_
  obtain ⟨r4, μ3, h5, h⟩ := bd_ok h
  refine go_i (callV_run (As := [.int (0 : Int32)]) (rest := []) C hl hP (hS.wide hJ).2.1 (iw hw (fi_2 g2)) g2 (m_X2_told l w hJ hw x1 (0 : Int32) g2 μ h5) mv_X10_203 ⟨rfl, rfl, by decide, by decide⟩ rfl rfl (Nat.le_of_ble_eq_true rfl) ⟨Nat.zero_le _, Nat.zero_le _⟩ dX10_rest_5) hS (fun H locs hP hS => ?_)
  refine lv_if_eq (tgt := 15) hx hb dX10_rest_8 (by decide) (fun c6 => ?_) (fun c6 => ?_)
  · replace h := if_t c6 h
    refine lv_iconst (v := (-1)) hx hb dX10_rest_15 (by decide) ?_
    exact r_iret C hr hP hS h dX10_rest_16
  · replace h := if_f c6 h
    refine lv_iload_n hx hb dX10_rest_11 rfl (lv_at hl 1 rfl) ?_
    refine lv_if_ge (tgt := 17) hx hb dX10_rest_12 (by decide) (fun c7 => ?_) (fun c7 => ?_)
    · replace h := if_t c7 h
      refine lv_aload_n hx hb dX10_rest_17 rfl (lv_at hl 0 rfl) ?_
      refine r_getF (off := 84) C hP (iw hw (fi_10 hk0)) hk0 fl_X10_53 rfl rfl (zw hw) dX10_rest_18 ?_
      refine lv_aload_n hx hb dX10_rest_21 rfl (lv_at hl 0 rfl) ?_
      refine r_getRx C hP (iw hw (fi_10 hk0)) hk0 fl_X10_22 rfl (zw hw) dX10_rest_22 (fun x8 ex8 => ?_)
      replace h := vl_ok ex8 h
      obtain ⟨g9, h⟩ := gd_ok h
      refine lv_aload_n hx hb dX10_rest_25 rfl (lv_at hl 0 rfl) ?_
      refine r_getF (off := 66) C hP (iw hw (fi_10 hk0)) hk0 fl_X10_36 rfl rfl (zw hw) dX10_rest_26 ?_
      obtain ⟨r11, μ10, h12, h⟩ := bd_ok h
      refine go_v (callV_run (As := [.ref (w.2.2.1 x8), .ref (w.2.2.1 (v0 + 66))]) (rest := []) C hl hP (hS.wide hJ).2.1 (iw hw (ff_10_8 hk0).2) (ff_10_8 hk0).1 (m_X0_begin l w hJ hw (v0 + 84) x8 (v0 + 66) (ff_10_8 hk0).1 g9 (ff_10_4 hk0).1 μ3 h12) mv_X10_189 ⟨rfl, rfl, by decide, by decide⟩ rfl rfl (Nat.le_of_ble_eq_true rfl) ⟨Nat.zero_le _, Nat.zero_le _⟩ dX10_rest_29) hS (fun H locs hP hS => ?_)
      refine lv_aload_n hx hb dX10_rest_32 rfl (lv_at hl 0 rfl) ?_
      refine r_getF (off := 175) C hP (iw hw (fi_10 hk0)) hk0 fl_X10_81 rfl rfl (zw hw) dX10_rest_33 ?_
      refine lv_aload_n hx hb dX10_rest_36 rfl (lv_at hl 0 rfl) ?_
      refine r_getRx C hP (iw hw (fi_10 hk0)) hk0 fl_X10_22 rfl (zw hw) dX10_rest_37 (fun x13 ex13 => ?_)
      replace h := vl_ok ex13 h
      obtain ⟨g14, h⟩ := gd_ok h
      refine lv_aload_n hx hb dX10_rest_40 rfl (lv_at hl 0 rfl) ?_
      refine r_getF (off := 66) C hP (iw hw (fi_10 hk0)) hk0 fl_X10_36 rfl rfl (zw hw) dX10_rest_41 ?_
      refine lv_aload_n hx hb dX10_rest_44 rfl (lv_at hl 0 rfl) ?_
      refine r_getF (off := 84) C hP (iw hw (fi_10 hk0)) hk0 fl_X10_53 rfl rfl (zw hw) dX10_rest_45 ?_
      obtain ⟨r16, μ15, h17, h⟩ := bd_ok h
      refine go_v (callV_run (As := [.ref (w.2.2.1 x13), .ref (w.2.2.1 (v0 + 66)), .ref (w.2.2.1 (v0 + 84))]) (rest := []) C hl hP (hS.wide hJ).2.1 (iw hw (ff_10_12 hk0).2) (ff_10_12 hk0).1 (m_X6_work l w hJ hw (v0 + 175) x13 (v0 + 66) (v0 + 84) (ff_10_12 hk0).1 g14 (ff_10_4 hk0).1 (ff_10_8 hk0).1 μ10 h17) mv_X10_296 ⟨rfl, rfl, by decide, by decide⟩ rfl rfl (Nat.le_of_ble_eq_true rfl) ⟨Nat.zero_le _, Nat.zero_le _⟩ dX10_rest_48) hS (fun H locs hP hS => ?_)
      refine lv_iload_n hx hb dX10_rest_51 rfl (lv_at hl 1 rfl) ?_
      refine lv_aload_n hx hb dX10_rest_52 rfl (lv_at hl 0 rfl) ?_
      refine r_getF (off := 175) C hP (iw hw (fi_10 hk0)) hk0 fl_X10_81 rfl rfl (zw hw) dX10_rest_53 ?_
      refine r_getI C hP (iw hw (ff_10_12 hk0).2) (ff_10_12 hk0).1 fl_X10_297 (Or.inl rfl) dX10_rest_56 ?_
      refine lv_icmp_ge (tgt := 74) hx hb dX10_rest_59 (by decide) (fun c18 => ?_) (fun c18 => ?_)
      · replace h := if_t c18 h
        refine lv_bipush (v := (-2)) hx hb dX10_rest_74 (by decide) ?_
        exact r_iret C hr hP hS h dX10_rest_76
      · replace h := if_f c18 h
        refine lv_aload_n hx hb dX10_rest_62 rfl (lv_at hl 0 rfl) ?_
        refine r_getF (off := 175) C hP (iw hw (fi_10 hk0)) hk0 fl_X10_81 rfl rfl (zw hw) dX10_rest_63 ?_
        refine r_getF (off := 1) C hP (iw hw (ff_10_12 hk0).2) (ff_10_12 hk0).1 fl_X10_298 rfl rfl (zw hw) dX10_rest_66 ?_
        refine lv_iload_n hx hb dX10_rest_69 rfl (lv_at hl 1 rfl) ?_
        obtain ⟨g19, h⟩ := gd_ok h
        refine r_iald C hP (iw hw (ff_6_1 (ff_10_12 hk0).1).2) (ff_6_1 (ff_10_12 hk0).1).1 g19 dX10_rest_70 ?_
        refine lv_goto (tgt := 76) hx hb dX10_rest_71 (by decide) ?_
        exact r_iret C hr hP hS h dX10_rest_76
    · replace h := if_f c7 h
      refine lv_iconst (v := (-1)) hx hb dX10_rest_15 (by decide) ?_
      exact r_iret C hr hP hS h dX10_rest_16

def f_X10_way_L33 (v0 : Nat) (v2 : Int32) (v3 : Int32) (v4 : Int32) (μ : fMem) : Option (Nat × (Int32 × Int32 × fMem)) :=
  if (6 : Int32) ≤ v4 then some (1, (v3, v4, μ)) else if (v3 &&& (shl (1 : Int32) v2)) = 0 then vl (μ.2.2 v0 2) fun x16 => gd (kd x16 = (4, 2)) (bd (f_X2_nextTo x16 v3 μ) fun r19 μ18 => vl (v3 ||| r19) fun x21 => vl (v4 + (1 : Int32)) fun x22 => some (0, (x21, x22, μ18))) else some (2, (v3, v4, μ))
def f_X10_way (v0 : Nat) (v1 : Int32) (v2 : Int32) (μ : fMem) : Option (Int32 × fMem) :=
  vl (μ.2.2 v0 2) fun x1 => gd (kd x1 = (4, 2)) (bd (f_X2_has x1 (0 : Int32) v1 μ) fun r4 μ3 => if r4 = 0 then some ((-1 : Int32), μ3) else vl (μ3.2.2 v0 2) fun x7 => gd (kd x7 = (4, 2)) (bd (f_X2_has x7 (0 : Int32) v2 μ3) fun r10 μ9 => if r10 = 0 then some ((-1 : Int32), μ9) else vl (shl (1 : Int32) v1) fun x13 => bd (lpn (fun (q : Int32 × Int32 × fMem) => f_X10_way_L33 v0 v2 q.1 q.2.1 q.2.2) fuel (x13, (0 : Int32), μ9)) fun t23 q24 => (fun (x25 : Int32) (x26 : Int32) (μ27 : fMem) => if t23 = 0 then some ((-2 : Int32), μ27) else some (x26, μ27)) q24.1 q24.2.1 q24.2.2))
def rm_X10_way : Room := { frames := 1, cells := 0, slots := 0, locals := 23 }
set_option maxHeartbeats 4000000 in
set_option maxRecDepth 100000 in
theorem m_X10_way (l : Launch) (w : fW) (hJ : fJ w) (hw : w.2.2.2 = sd 0) (v0 : Nat) (v1 : Int32) (v2 : Int32) (hk0 : kd v0 = (4, 10)) (μ : fMem) {r : Int32} {μr : fMem} (h : f_X10_way v0 v1 v2 μ = some (r, μr)) : Met l yX10_way (.code yX10_way cX10_way 5 (some .int) :: gw) rm_X10_way (fPc w [.ref (w.2.2.1 v0), .int v1, .int v2] μ) (fQi w r μr) 0 0 (fA w) := by
  refine met_of hJ (by decide) ?_ (Nat.le_of_ble_eq_true rfl)
  generalize ([.ref (w.2.2.1 v0), .int v1, .int v2] : List Value).toArray = args
  intro p e s m below meth c ls C hr hP hl hS
  obtain ⟨hx, hb, hml, hown, hts, hK, -, hlk, hT⟩ := id C
  have hl : lv_has ls 5 [(0, .ref (w.2.2.1 v0)), (1, .int v1), (2, .int v2)] := hl
  unfold f_X10_way at h
  refine lv_aload_n hx hb dX10_way_0 rfl (lv_at hl 0 rfl) ?_
  refine r_getRx C hP (iw hw (fi_10 hk0)) hk0 fl_X10_22 rfl (zw hw) dX10_way_1 (fun x1 ex1 => ?_)
  replace h := vl_ok ex1 h
  obtain ⟨g2, h⟩ := gd_ok h
  refine lv_iconst (v := (0)) hx hb dX10_way_4 (by decide) ?_
  refine lv_iload_n hx hb dX10_way_5 rfl (lv_at hl 1 rfl) ?_
  obtain ⟨r4, μ3, h5, h⟩ := bd_ok h
  refine go_i (callV_run (As := [.int (0 : Int32), .int v1]) (rest := []) C hl hP (hS.wide hJ).2.1 (iw hw (fi_2 g2)) g2 (m_X2_has l w hJ hw x1 (0 : Int32) v1 g2 μ h5) mv_X10_121 ⟨rfl, rfl, by decide, by decide⟩ rfl rfl (Nat.le_of_ble_eq_true rfl) ⟨Nat.zero_le _, Nat.zero_le _⟩ dX10_way_6) hS (fun H locs hP hS => ?_)
  refine lv_if_eq (tgt := 24) hx hb dX10_way_9 (by decide) (fun c6 => ?_) (fun c6 => ?_)
  · replace h := if_t c6 h
    refine lv_iconst (v := (-1)) hx hb dX10_way_24 (by decide) ?_
    exact r_iret C hr hP hS h dX10_way_25
  · replace h := if_f c6 h
    refine lv_aload_n hx hb dX10_way_12 rfl (lv_at hl 0 rfl) ?_
    refine r_getRx C hP (iw hw (fi_10 hk0)) hk0 fl_X10_22 rfl (zw hw) dX10_way_13 (fun x7 ex7 => ?_)
    replace h := vl_ok ex7 h
    obtain ⟨g8, h⟩ := gd_ok h
    refine lv_iconst (v := (0)) hx hb dX10_way_16 (by decide) ?_
    refine lv_iload_n hx hb dX10_way_17 rfl (lv_at hl 2 rfl) ?_
    obtain ⟨r10, μ9, h11, h⟩ := bd_ok h
    refine go_i (callV_run (As := [.int (0 : Int32), .int v2]) (rest := []) C hl hP (hS.wide hJ).2.1 (iw hw (fi_2 g8)) g8 (m_X2_has l w hJ hw x7 (0 : Int32) v2 g8 μ3 h11) mv_X10_121 ⟨rfl, rfl, by decide, by decide⟩ rfl rfl (Nat.le_of_ble_eq_true rfl) ⟨Nat.zero_le _, Nat.zero_le _⟩ dX10_way_18) hS (fun H locs hP hS => ?_)
    refine lv_if_ne (tgt := 26) hx hb dX10_way_21 (by decide) (fun c12 => ?_) (fun c12 => ?_)
    · replace h := if_f c12 h
      refine lv_iconst (v := (1)) hx hb dX10_way_26 (by decide) ?_
      refine lv_iload_n hx hb dX10_way_27 rfl (lv_at hl 1 rfl) ?_
      refine r_ishl hx hb dX10_way_28 ?_
      refine lv_topi (fun x13 ex13 => ?_)
      replace h := vl_ok ex13 h
      refine lv_istore_n (lv' := [(3, .int x13), (0, .ref (w.2.2.1 v0)), (1, .int v1), (2, .int v2)]) hx hb dX10_way_29 rfl hl (by decide) rfl (fun ls hl => ?_)
      refine lv_iconst (v := (0)) hx hb dX10_way_30 (by decide) ?_
      refine lv_istore (lv' := [(4, .int (0 : Int32)), (3, .int x13), (0, .ref (w.2.2.1 v0)), (1, .int v1), (2, .int v2)]) hx hb dX10_way_31 hl (by decide) rfl (fun ls hl => ?_)
      obtain ⟨t23, q24, h28, h⟩ := bd_ok h
      refine lpn_ind (b := (fun (q : Int32 × Int32 × fMem) => f_X10_way_L33 v0 v2 q.1 q.2.1 q.2.2)) (P := fun (q : Int32 × Int32 × fMem) => WW p l e rm_X10_way s m args below meth c (MQ below (fQi w r μr) args s 0 0 (fA w)) w q.2.2 5 33 [] [(0, .ref (w.2.2.1 v0)), (2, .int v2), (3, .int q.1), (4, .int q.2.1)]) (K := fun t (q : Int32 × Int32 × fMem) => (t = 0 → WW p l e rm_X10_way s m args below meth c (MQ below (fQi w r μr) args s 0 0 (fA w)) w q.2.2 5 68 [] []) ∧ (t = 1 → WW p l e rm_X10_way s m args below meth c (MQ below (fQi w r μr) args s 0 0 (fA w)) w q.2.2 5 48 [] [(4, .int q.2.1)])) ?_ fuel (x13, (0 : Int32), μ9) t23 q24 h28 ?_ _ _ _ hP hS (lv_sub hl [2, 4, 1, 0] rfl)
      · intro q tz33 sz33 h hP0_33 hK0_33 H locs ls hP hS hl
        obtain ⟨v3, v4, μ⟩ := q
        have hP : fP w μ H := hP
        have hl : lv_has ls 5 [(0, .ref (w.2.2.1 v0)), (2, .int v2), (3, .int v3), (4, .int v4)] := hl
        have h : f_X10_way_L33 v0 v2 v3 v4 μ = some (tz33, sz33) := h
        unfold f_X10_way_L33 at h
        refine lv_iload hx hb dX10_way_33 (lv_at hl 3 rfl) ?_
        refine lv_bipush (v := (6)) hx hb dX10_way_35 (by decide) ?_
        refine lv_icmp_ge (tgt := 68) hx hb dX10_way_37 (by decide) (fun c14 => ?_) (fun c14 => ?_)
        · replace h := if_t c14 h
          obtain ⟨rfl, rfl⟩ := leaf h
          exact ((hK0_33 0 rfl).1 rfl) _ _ _ hP hS (lv_sub hl [] rfl)
        · replace h := if_f c14 h
          refine lv_iload_n hx hb dX10_way_40 rfl (lv_at hl 2 rfl) ?_
          refine lv_iconst (v := (1)) hx hb dX10_way_41 (by decide) ?_
          refine lv_iload_n hx hb dX10_way_42 rfl (lv_at hl 1 rfl) ?_
          refine r_ishl hx hb dX10_way_43 ?_
          refine lv_iand hx hb dX10_way_44 ?_
          refine lv_if_eq (tgt := 51) hx hb dX10_way_45 (by decide) (fun c15 => ?_) (fun c15 => ?_)
          · replace h := if_t c15 h
            refine lv_iload_n hx hb dX10_way_51 rfl (lv_at hl 2 rfl) ?_
            refine lv_aload_n hx hb dX10_way_52 rfl (lv_at hl 0 rfl) ?_
            refine r_getRx C hP (iw hw (fi_10 hk0)) hk0 fl_X10_22 rfl (zw hw) dX10_way_53 (fun x16 ex16 => ?_)
            replace h := vl_ok ex16 h
            obtain ⟨g17, h⟩ := gd_ok h
            refine lv_iload_n hx hb dX10_way_56 rfl (lv_at hl 2 rfl) ?_
            obtain ⟨r19, μ18, h20, h⟩ := bd_ok h
            refine go_i (callV_run (As := [.int v3]) (rest := [.int v3]) C hl hP (hS.wide hJ).2.1 (iw hw (fi_2 g17)) g17 (m_X2_nextTo l w hJ hw x16 v3 g17 μ h20) mv_X10_301 ⟨rfl, rfl, by decide, by decide⟩ rfl rfl (Nat.le_of_ble_eq_true rfl) ⟨Nat.zero_le _, Nat.zero_le _⟩ dX10_way_57) hS (fun H locs hP hS => ?_)
            refine lv_ior hx hb dX10_way_60 ?_
            refine lv_topi (fun x21 ex21 => ?_)
            replace h := vl_ok ex21 h
            refine lv_istore_n (lv' := [(3, .int x21), (0, .ref (w.2.2.1 v0)), (2, .int v2), (4, .int v4)]) hx hb dX10_way_61 rfl hl (by decide) rfl (fun ls hl => ?_)
            obtain ⟨x22, ex22⟩ : ∃ y : Int32, y = (v4 + (1 : Int32)) := ⟨_, rfl⟩
            replace h := vl_ok ex22 h
            refine lv_iinc (v := x22) (lv' := [(4, .int x22), (3, .int x21), (0, .ref (w.2.2.1 v0)), (2, .int v2)]) hx hb dX10_way_62 hl (k := 3) rfl (by rw [ex22]; rfl) (by decide) rfl (fun ls hl => ?_)
            refine lv_goto (tgt := 33) hx hb dX10_way_65 (by decide) ?_
            obtain ⟨rfl, rfl⟩ := leaf h
            exact hP0_33 rfl _ _ _ hP hS (lv_sub hl [2, 3, 1, 0] rfl)
          · replace h := if_f c15 h
            obtain ⟨rfl, rfl⟩ := leaf h
            exact ((hK0_33 1 rfl).2 rfl) _ _ _ hP hS (lv_sub hl [3] rfl)
      · obtain ⟨x25, x26, μ27⟩ := q24
        try dsimp only at h
        refine ⟨fun ht => ?_, fun ht => ?_⟩
        · intro H locs ls hP hS hl
          have hP : fP w μ27 H := hP
          have hl : lv_has ls 5 [] := hl
          replace h := if_t ht h
          refine lv_bipush (v := (-2)) hx hb dX10_way_68 (by decide) ?_
          exact r_iret C hr hP hS h dX10_way_70
        · intro H locs ls hP hS hl
          have hP : fP w μ27 H := hP
          have hl : lv_has ls 5 [(4, .int x26)] := hl
          replace h := if_f (by rw [ht]; decide) h
          refine lv_iload hx hb dX10_way_48 (lv_at hl 0 rfl) ?_
          exact r_iret C hr hP hS h dX10_way_50
    · replace h := if_t c12 h
      refine lv_iconst (v := (-1)) hx hb dX10_way_24 (by decide) ?_
      exact r_iret C hr hP hS h dX10_way_25

def f_X10_ways_L5 (v0 : Int32) (v1 : Int32) (v2 : Int64) (v4 : Int32) (μ : fMem) : Option (Nat × (Int64 × Int32 × fMem)) :=
  if v1 < v4 then some (1, (v2, v4, μ)) else gd (¬ (v4.toInt64) = 0) (vl ((v2 * ((((v0 - v1) + v4)).toInt64)) / (v4.toInt64)) fun x3 => vl (v4 + (1 : Int32)) fun x4 => some (0, (x3, x4, μ)))
def f_X10_ways (v0 : Int32) (v1 : Int32) (μ : fMem) : Option (Int64 × fMem) :=
  bd (lpn (fun (q : Int64 × Int32 × fMem) => f_X10_ways_L5 v0 v1 q.1 q.2.1 q.2.2) fuel ((1 : Int64), (1 : Int32), μ)) fun t5 q6 => (fun (x7 : Int64) (x8 : Int32) (μ9 : fMem) => some (x7, μ9)) q6.1 q6.2.1 q6.2.2
def rm_X10_ways : Room := { frames := 0, cells := 0, slots := 0, locals := 0 }
set_option maxHeartbeats 4000000 in
set_option maxRecDepth 100000 in
theorem m_X10_ways (l : Launch) (w : fW) (hJ : fJ w) (hw : w.2.2.2 = sd 0) (v0 : Int32) (v1 : Int32) (μ : fMem) {r : Int64} {μr : fMem} (h : f_X10_ways v0 v1 μ = some (r, μr)) : Met l yX10_ways (.code yX10_ways cX10_ways 5 (some .long) :: gw) rm_X10_ways (fPc w [.int v0, .int v1] μ) (fQl w r μr) 0 0 (fA w) := by
  refine met_of hJ (by decide) ?_ (Nat.le_of_ble_eq_true rfl)
  generalize ([.int v0, .int v1] : List Value).toArray = args
  intro p e s m below meth c ls C hr hP hl hS
  obtain ⟨hx, hb, hml, hown, hts, hK, -, hlk, hT⟩ := id C
  have hl : lv_has ls 5 [(0, .int v0), (1, .int v1)] := hl
  unfold f_X10_ways at h
  refine lv_lconst (v := 1) hx hb dX10_ways_0 (by decide) ?_
  refine lv_lstore_n (lv' := [(2, .long (1 : Int64)), (0, .int v0), (1, .int v1)]) hx hb dX10_ways_1 rfl hl (by decide) rfl (fun ls hl => ?_)
  refine lv_iconst (v := (1)) hx hb dX10_ways_2 (by decide) ?_
  refine lv_istore (lv' := [(4, .int (1 : Int32)), (2, .long (1 : Int64)), (0, .int v0), (1, .int v1)]) hx hb dX10_ways_3 hl (by decide) rfl (fun ls hl => ?_)
  obtain ⟨t5, q6, h10, h⟩ := bd_ok h
  refine lpn_ind (b := (fun (q : Int64 × Int32 × fMem) => f_X10_ways_L5 v0 v1 q.1 q.2.1 q.2.2)) (P := fun (q : Int64 × Int32 × fMem) => WW p l e rm_X10_ways s m args below meth c (MQ below (fQl w r μr) args s 0 0 (fA w)) w q.2.2 5 5 [] [(0, .int v0), (1, .int v1), (2, .long q.1), (4, .int q.2.1)]) (K := fun _ (q : Int64 × Int32 × fMem) => WW p l e rm_X10_ways s m args below meth c (MQ below (fQl w r μr) args s 0 0 (fA w)) w q.2.2 5 31 [] [(2, .long q.1)]) ?_ fuel ((1 : Int64), (1 : Int32), μ) t5 q6 h10 ?_ _ _ _ hP hS (lv_sub hl [2, 3, 1, 0] rfl)
  · intro q tz5 sz5 h hP0_5 hK0_5 H locs ls hP hS hl
    obtain ⟨v2, v4, μ⟩ := q
    have hP : fP w μ H := hP
    have hl : lv_has ls 5 [(0, .int v0), (1, .int v1), (2, .long v2), (4, .int v4)] := hl
    have h : f_X10_ways_L5 v0 v1 v2 v4 μ = some (tz5, sz5) := h
    unfold f_X10_ways_L5 at h
    refine lv_iload hx hb dX10_ways_5 (lv_at hl 3 rfl) ?_
    refine lv_iload_n hx hb dX10_ways_7 rfl (lv_at hl 1 rfl) ?_
    refine lv_icmp_gt (tgt := 31) hx hb dX10_ways_8 (by decide) (fun c1 => ?_) (fun c1 => ?_)
    · replace h := if_t c1 h
      obtain ⟨rfl, rfl⟩ := leaf h
      exact (hK0_5 0 rfl) _ _ _ hP hS (lv_sub hl [2] rfl)
    · replace h := if_f c1 h
      refine lv_lload_n hx hb dX10_ways_11 rfl (lv_at hl 2 rfl) ?_
      refine lv_iload_n hx hb dX10_ways_12 rfl (lv_at hl 0 rfl) ?_
      refine lv_iload_n hx hb dX10_ways_13 rfl (lv_at hl 1 rfl) ?_
      refine lv_isub hx hb dX10_ways_14 ?_
      refine lv_iload hx hb dX10_ways_15 (lv_at hl 3 rfl) ?_
      refine lv_iadd hx hb dX10_ways_17 ?_
      refine lv_i2l hx hb dX10_ways_18 rfl ?_
      refine lv_lmul hx hb dX10_ways_19 ?_
      refine lv_iload hx hb dX10_ways_20 (lv_at hl 3 rfl) ?_
      refine lv_i2l hx hb dX10_ways_22 rfl ?_
      obtain ⟨g2, h⟩ := gd_ok h
      refine lv_ldiv hx hb dX10_ways_23 g2 ?_
      refine lv_topl (fun x3 ex3 => ?_)
      replace h := vl_ok ex3 h
      refine lv_lstore_n (lv' := [(2, .long x3), (0, .int v0), (1, .int v1), (4, .int v4)]) hx hb dX10_ways_24 rfl hl (by decide) rfl (fun ls hl => ?_)
      obtain ⟨x4, ex4⟩ : ∃ y : Int32, y = (v4 + (1 : Int32)) := ⟨_, rfl⟩
      replace h := vl_ok ex4 h
      refine lv_iinc (v := x4) (lv' := [(4, .int x4), (2, .long x3), (0, .int v0), (1, .int v1)]) hx hb dX10_ways_25 hl (k := 3) rfl (by rw [ex4]; rfl) (by decide) rfl (fun ls hl => ?_)
      refine lv_goto (tgt := 5) hx hb dX10_ways_28 (by decide) ?_
      obtain ⟨rfl, rfl⟩ := leaf h
      exact hP0_5 rfl _ _ _ hP hS (lv_sub hl [2, 3, 1, 0] rfl)
  · obtain ⟨x7, x8, μ9⟩ := q6
    intro H locs ls hP hS hl
    have hP : fP w μ9 H := hP
    have hl : lv_has ls 5 [(2, .long x7)] := hl
    try dsimp only at h
    refine lv_lload_n hx hb dX10_ways_31 rfl (lv_at hl 0 rfl) ?_
    exact r_lret C hr hP hS h dX10_ways_32

def f_X10_greatestShared_L9  (v4 : Int64) (v6 : Int64) (v8 : Int32) (μ : fMem) : Option (Nat × (Int64 × Int64 × Int32 × fMem)) :=
  if (1000 : Int32) ≤ v8 then some (1, (v4, v6, v8, μ)) else if (lg_cmp v6 (0 : Int64)) = 0 then some (1, (v4, v6, v8, μ)) else gd (¬ v6 = 0) (vl (lrm v4 v6) fun x4 => vl (v8 + (1 : Int32)) fun x5 => some (0, (v6, x4, x5, μ)))
def f_X10_greatestShared (v0 : Int64) (v2 : Int64) (μ : fMem) : Option (Int64 × fMem) :=
  bd (lpn (fun (q : Int64 × Int64 × Int32 × fMem) => f_X10_greatestShared_L9  q.1 q.2.1 q.2.2.1 q.2.2.2) fuel (v2, v0, (0 : Int32), μ)) fun t6 q7 => (fun (x8 : Int64) (x9 : Int64) (x10 : Int32) (μ11 : fMem) => some (x8, μ11)) q7.1 q7.2.1 q7.2.2.1 q7.2.2.2
def rm_X10_greatestShared : Room := { frames := 0, cells := 0, slots := 0, locals := 0 }
set_option maxHeartbeats 4000000 in
set_option maxRecDepth 100000 in
theorem m_X10_greatestShared (l : Launch) (w : fW) (hJ : fJ w) (hw : w.2.2.2 = sd 0) (v0 : Int64) (v2 : Int64) (μ : fMem) {r : Int64} {μr : fMem} (h : f_X10_greatestShared v0 v2 μ = some (r, μr)) : Met l yX10_greatestShared (.code yX10_greatestShared cX10_greatestShared 11 (some .long) :: gw) rm_X10_greatestShared (fPc w [.long v0, .long v2] μ) (fQl w r μr) 0 0 (fA w) := by
  refine met_of hJ (by decide) ?_ (Nat.le_of_ble_eq_true rfl)
  generalize ([.long v0, .long v2] : List Value).toArray = args
  intro p e s m below meth c ls C hr hP hl hS
  obtain ⟨hx, hb, hml, hown, hts, hK, -, hlk, hT⟩ := id C
  have hl : lv_has ls 11 [(0, .long v0), (2, .long v2)] := hl
  unfold f_X10_greatestShared at h
  refine lv_lload_n hx hb dX10_greatestShared_0 rfl (lv_at hl 1 rfl) ?_
  refine lv_lstore (lv' := [(4, .long v2), (0, .long v0), (2, .long v2)]) hx hb dX10_greatestShared_1 hl (by decide) rfl (fun ls hl => ?_)
  refine lv_lload_n hx hb dX10_greatestShared_3 rfl (lv_at hl 1 rfl) ?_
  refine lv_lstore (lv' := [(6, .long v0), (4, .long v2), (0, .long v0), (2, .long v2)]) hx hb dX10_greatestShared_4 hl (by decide) rfl (fun ls hl => ?_)
  refine lv_iconst (v := (0)) hx hb dX10_greatestShared_6 (by decide) ?_
  refine lv_istore (lv' := [(8, .int (0 : Int32)), (6, .long v0), (4, .long v2), (0, .long v0), (2, .long v2)]) hx hb dX10_greatestShared_7 hl (by decide) rfl (fun ls hl => ?_)
  obtain ⟨t6, q7, h12, h⟩ := bd_ok h
  refine lpn_ind (b := (fun (q : Int64 × Int64 × Int32 × fMem) => f_X10_greatestShared_L9  q.1 q.2.1 q.2.2.1 q.2.2.2)) (P := fun (q : Int64 × Int64 × Int32 × fMem) => WW p l e rm_X10_greatestShared s m args below meth c (MQ below (fQl w r μr) args s 0 0 (fA w)) w q.2.2.2 11 9 [] [(4, .long q.1), (6, .long q.2.1), (8, .int q.2.2.1)]) (K := fun _ (q : Int64 × Int64 × Int32 × fMem) => WW p l e rm_X10_greatestShared s m args below meth c (MQ below (fQl w r μr) args s 0 0 (fA w)) w q.2.2.2 11 45 [] [(4, .long q.1)]) ?_ fuel (v2, v0, (0 : Int32), μ) t6 q7 h12 ?_ _ _ _ hP hS (lv_sub hl [2, 1, 0] rfl)
  · intro q tz9 sz9 h hP0_9 hK0_9 H locs ls hP hS hl
    obtain ⟨v4, v6, v8, μ⟩ := q
    have hP : fP w μ H := hP
    have hl : lv_has ls 11 [(4, .long v4), (6, .long v6), (8, .int v8)] := hl
    have h : f_X10_greatestShared_L9  v4 v6 v8 μ = some (tz9, sz9) := h
    unfold f_X10_greatestShared_L9 at h
    refine lv_iload hx hb dX10_greatestShared_9 (lv_at hl 2 rfl) ?_
    refine lv_sipush (v := (1000)) hx hb dX10_greatestShared_11 (by decide) ?_
    refine lv_icmp_ge (tgt := 45) hx hb dX10_greatestShared_14 (by decide) (fun c1 => ?_) (fun c1 => ?_)
    · replace h := if_t c1 h
      obtain ⟨rfl, rfl⟩ := leaf h
      exact (hK0_9 0 rfl) _ _ _ hP hS (lv_sub hl [0] rfl)
    · replace h := if_f c1 h
      refine lv_lload hx hb dX10_greatestShared_17 (lv_at hl 1 rfl) ?_
      refine lv_lconst (v := 0) hx hb dX10_greatestShared_19 (by decide) ?_
      refine W.lcmp hx hb dX10_greatestShared_20 ?_
      refine lv_if_eq (tgt := 45) hx hb dX10_greatestShared_21 (by decide) (fun c2 => ?_) (fun c2 => ?_)
      · replace h := if_t c2 h
        obtain ⟨rfl, rfl⟩ := leaf h
        exact (hK0_9 0 rfl) _ _ _ hP hS (lv_sub hl [0] rfl)
      · replace h := if_f c2 h
        refine lv_lload hx hb dX10_greatestShared_24 (lv_at hl 0 rfl) ?_
        refine lv_lload hx hb dX10_greatestShared_26 (lv_at hl 1 rfl) ?_
        obtain ⟨g3, h⟩ := gd_ok h
        refine r_lrem hx hb dX10_greatestShared_28 g3 ?_
        refine lv_topl (fun x4 ex4 => ?_)
        replace h := vl_ok ex4 h
        refine lv_lstore (lv' := [(9, .long x4), (4, .long v4), (6, .long v6), (8, .int v8)]) hx hb dX10_greatestShared_29 hl (by decide) rfl (fun ls hl => ?_)
        refine lv_lload hx hb dX10_greatestShared_31 (lv_at hl 2 rfl) ?_
        refine lv_lstore (lv' := [(4, .long v6), (9, .long x4), (6, .long v6), (8, .int v8)]) hx hb dX10_greatestShared_33 hl (by decide) rfl (fun ls hl => ?_)
        refine lv_lload hx hb dX10_greatestShared_35 (lv_at hl 1 rfl) ?_
        refine lv_lstore (lv' := [(6, .long x4), (4, .long v6), (9, .long x4), (8, .int v8)]) hx hb dX10_greatestShared_37 hl (by decide) rfl (fun ls hl => ?_)
        obtain ⟨x5, ex5⟩ : ∃ y : Int32, y = (v8 + (1 : Int32)) := ⟨_, rfl⟩
        replace h := vl_ok ex5 h
        refine lv_iinc (v := x5) (lv' := [(8, .int x5), (6, .long x4), (4, .long v6), (9, .long x4)]) hx hb dX10_greatestShared_39 hl (k := 3) rfl (by rw [ex5]; rfl) (by decide) rfl (fun ls hl => ?_)
        refine lv_goto (tgt := 9) hx hb dX10_greatestShared_42 (by decide) ?_
        obtain ⟨rfl, rfl⟩ := leaf h
        exact hP0_9 rfl _ _ _ hP hS (lv_sub hl [2, 1, 0] rfl)
  · obtain ⟨x8, x9, x10, μ11⟩ := q7
    intro H locs ls hP hS hl
    have hP : fP w μ11 H := hP
    have hl : lv_has ls 11 [(4, .long x8)] := hl
    try dsimp only at h
    refine lv_lload hx hb dX10_greatestShared_45 (lv_at hl 0 rfl) ?_
    exact r_lret C hr hP hS h dX10_greatestShared_47

def f_X10_likely_j99 (v2 : Int32) (v3 : Int32) (v4 : Int32) (v7 : Int64) (x16 : Int64) (v11 : Int32) (t0 : Int64) (t1 : Int64) (μ : fMem) : Option (Nat × (Int64 × Int64 × Int32 × fMem)) :=
  vl (t0 * t1) fun x19 => vl (v7 * (100 : Int64)) fun x20 => vl (v11 + (1 : Int32)) fun x21 => some (0, (x19, x20, x21, μ))
def f_X10_likely_L74 (v2 : Int32) (v3 : Int32) (v4 : Int32) (x16 : Int64) (v5 : Int64) (v7 : Int64) (v11 : Int32) (μ : fMem) : Option (Nat × (Int64 × Int64 × Int32 × fMem)) :=
  if v2 ≤ v11 then some (1, (v5, v7, v11, μ)) else if v3 ≤ v11 then f_X10_likely_j99 v2 v3 v4 v7 x16 v11 v5 ((100 : Int64) - x16) μ else f_X10_likely_j99 v2 v3 v4 v7 x16 v11 v5 x16 μ
def f_X10_likely (v0 : Nat) (v1 : Int32) (v2 : Int32) (v3 : Int32) (v4 : Int32) (μ : fMem) : Option (Int64 × fMem) :=
  vl (μ.2.2 v0 2) fun x1 => gd (kd x1 = (4, 2)) (bd (f_X2_has x1 (3 : Int32) v1 μ) fun r4 μ3 => if r4 = 0 then some ((-1 : Int64), μ3) else if v2 < 0 then some ((-1 : Int64), μ3) else if (8 : Int32) < v2 then some ((-1 : Int64), μ3) else if v3 < 0 then some ((-1 : Int64), μ3) else if v3 ≤ v2 then if v4 < 0 then some ((-1 : Int64), μ3) else if v4 ≤ (1 : Int32) then vl (μ3.2.2 v0 2) fun x13 => gd (kd x13 = (4, 2)) (gd (ixo v1 6) (vl ((((100 : Int32) - (μ3.1 (x13 + 14) (Int32.toNatClampNeg v1)))).toInt64) fun x16 => bd (lpn (fun (q : Int64 × Int64 × Int32 × fMem) => f_X10_likely_L74 v2 v3 v4 x16 q.1 q.2.1 q.2.2.1 q.2.2.2) fuel ((1 : Int64), (1 : Int64), (0 : Int32), μ3)) fun t22 q23 => (fun (x24 : Int64) (x25 : Int64) (x26 : Int32) (μ27 : fMem) => bd (f_X10_ways v2 v3 μ27) fun r29 μ28 => vl (x24 * r29) fun x31 => bd (f_X10_greatestShared x31 x25 μ28) fun r33 μ32 => if 0 < (lg_cmp r33 (0 : Int64)) then if v4 = 0 then gd (¬ r33 = 0) (some ((x31 / r33), μ32)) else gd (¬ r33 = 0) (some ((x25 / r33), μ32)) else some ((-1 : Int64), μ32)) q23.1 q23.2.1 q23.2.2.1 q23.2.2.2)) else some ((-1 : Int64), μ3) else some ((-1 : Int64), μ3))
def rm_X10_likely : Room := { frames := 1, cells := 0, slots := 0, locals := 30 }
set_option maxHeartbeats 4000000 in
set_option maxRecDepth 100000 in
theorem m_X10_likely (l : Launch) (w : fW) (hJ : fJ w) (hw : w.2.2.2 = sd 0) (v0 : Nat) (v1 : Int32) (v2 : Int32) (v3 : Int32) (v4 : Int32) (hk0 : kd v0 = (4, 10)) (μ : fMem) {r : Int64} {μr : fMem} (h : f_X10_likely v0 v1 v2 v3 v4 μ = some (r, μr)) : Met l yX10_likely (.code yX10_likely cX10_likely 13 (some .long) :: gw) rm_X10_likely (fPc w [.ref (w.2.2.1 v0), .int v1, .int v2, .int v3, .int v4] μ) (fQl w r μr) 0 0 (fA w) := by
  refine met_of hJ (by decide) ?_ (Nat.le_of_ble_eq_true rfl)
  generalize ([.ref (w.2.2.1 v0), .int v1, .int v2, .int v3, .int v4] : List Value).toArray = args
  intro p e s m below meth c ls C hr hP hl hS
  obtain ⟨hx, hb, hml, hown, hts, hK, -, hlk, hT⟩ := id C
  have hl : lv_has ls 13 [(0, .ref (w.2.2.1 v0)), (1, .int v1), (2, .int v2), (3, .int v3), (4, .int v4)] := hl
  unfold f_X10_likely at h
  refine lv_aload_n hx hb dX10_likely_0 rfl (lv_at hl 0 rfl) ?_
  refine r_getRx C hP (iw hw (fi_10 hk0)) hk0 fl_X10_22 rfl (zw hw) dX10_likely_1 (fun x1 ex1 => ?_)
  replace h := vl_ok ex1 h
  obtain ⟨g2, h⟩ := gd_ok h
  refine lv_iconst (v := (3)) hx hb dX10_likely_4 (by decide) ?_
  refine lv_iload_n hx hb dX10_likely_5 rfl (lv_at hl 1 rfl) ?_
  obtain ⟨r4, μ3, h5, h⟩ := bd_ok h
  refine go_i (callV_run (As := [.int (3 : Int32), .int v1]) (rest := []) C hl hP (hS.wide hJ).2.1 (iw hw (fi_2 g2)) g2 (m_X2_has l w hJ hw x1 (3 : Int32) v1 g2 μ h5) mv_X10_121 ⟨rfl, rfl, by decide, by decide⟩ rfl rfl (Nat.le_of_ble_eq_true rfl) ⟨Nat.zero_le _, Nat.zero_le _⟩ dX10_likely_6) hS (fun H locs hP hS => ?_)
  refine lv_if_eq (tgt := 31) hx hb dX10_likely_9 (by decide) (fun c6 => ?_) (fun c6 => ?_)
  · replace h := if_t c6 h
    refine lv_ldc2 hx hb hown (hts _ ct_X10_304) dX10_likely_31 ?_
    exact r_lret C hr hP hS h dX10_likely_34
  · replace h := if_f c6 h
    refine lv_iload_n hx hb dX10_likely_12 rfl (lv_at hl 2 rfl) ?_
    refine lv_if_lt (tgt := 31) hx hb dX10_likely_13 (by decide) (fun c7 => ?_) (fun c7 => ?_)
    · replace h := if_t c7 h
      refine lv_ldc2 hx hb hown (hts _ ct_X10_304) dX10_likely_31 ?_
      exact r_lret C hr hP hS h dX10_likely_34
    · replace h := if_f c7 h
      refine lv_iload_n hx hb dX10_likely_16 rfl (lv_at hl 2 rfl) ?_
      refine lv_bipush (v := (8)) hx hb dX10_likely_17 (by decide) ?_
      refine lv_icmp_gt (tgt := 31) hx hb dX10_likely_19 (by decide) (fun c8 => ?_) (fun c8 => ?_)
      · replace h := if_t c8 h
        refine lv_ldc2 hx hb hown (hts _ ct_X10_304) dX10_likely_31 ?_
        exact r_lret C hr hP hS h dX10_likely_34
      · replace h := if_f c8 h
        refine lv_iload_n hx hb dX10_likely_22 rfl (lv_at hl 3 rfl) ?_
        refine lv_if_lt (tgt := 31) hx hb dX10_likely_23 (by decide) (fun c9 => ?_) (fun c9 => ?_)
        · replace h := if_t c9 h
          refine lv_ldc2 hx hb hown (hts _ ct_X10_304) dX10_likely_31 ?_
          exact r_lret C hr hP hS h dX10_likely_34
        · replace h := if_f c9 h
          refine lv_iload_n hx hb dX10_likely_26 rfl (lv_at hl 3 rfl) ?_
          refine lv_iload_n hx hb dX10_likely_27 rfl (lv_at hl 2 rfl) ?_
          refine lv_icmp_le (tgt := 35) hx hb dX10_likely_28 (by decide) (fun c10 => ?_) (fun c10 => ?_)
          · replace h := if_t c10 h
            refine lv_iload hx hb dX10_likely_35 (lv_at hl 4 rfl) ?_
            refine lv_if_lt (tgt := 46) hx hb dX10_likely_37 (by decide) (fun c11 => ?_) (fun c11 => ?_)
            · replace h := if_t c11 h
              refine lv_ldc2 hx hb hown (hts _ ct_X10_304) dX10_likely_46 ?_
              exact r_lret C hr hP hS h dX10_likely_49
            · replace h := if_f c11 h
              refine lv_iload hx hb dX10_likely_40 (lv_at hl 4 rfl) ?_
              refine lv_iconst (v := (1)) hx hb dX10_likely_42 (by decide) ?_
              refine lv_icmp_le (tgt := 50) hx hb dX10_likely_43 (by decide) (fun c12 => ?_) (fun c12 => ?_)
              · replace h := if_t c12 h
                refine lv_lconst (v := 1) hx hb dX10_likely_50 (by decide) ?_
                refine lv_lstore (lv' := [(5, .long (1 : Int64)), (0, .ref (w.2.2.1 v0)), (1, .int v1), (2, .int v2), (3, .int v3), (4, .int v4)]) hx hb dX10_likely_51 hl (by decide) rfl (fun ls hl => ?_)
                refine lv_lconst (v := 1) hx hb dX10_likely_53 (by decide) ?_
                refine lv_lstore (lv' := [(7, .long (1 : Int64)), (5, .long (1 : Int64)), (0, .ref (w.2.2.1 v0)), (1, .int v1), (2, .int v2), (3, .int v3), (4, .int v4)]) hx hb dX10_likely_54 hl (by decide) rfl (fun ls hl => ?_)
                refine lv_bipush (v := (100)) hx hb dX10_likely_56 (by decide) ?_
                refine lv_aload_n hx hb dX10_likely_58 rfl (lv_at hl 2 rfl) ?_
                refine r_getRx C hP (iw hw (fi_10 hk0)) hk0 fl_X10_22 rfl (zw hw) dX10_likely_59 (fun x13 ex13 => ?_)
                replace h := vl_ok ex13 h
                obtain ⟨g14, h⟩ := gd_ok h
                refine r_getF (off := 14) C hP (iw hw (fi_2 g14)) g14 fl_X10_177 rfl rfl (zw hw) dX10_likely_62 ?_
                refine lv_iload_n hx hb dX10_likely_65 rfl (lv_at hl 3 rfl) ?_
                obtain ⟨g15, h⟩ := gd_ok h
                refine r_iald C hP (iw hw (ff_2_11 g14).2) (ff_2_11 g14).1 g15 dX10_likely_66 ?_
                refine lv_isub hx hb dX10_likely_67 ?_
                refine lv_i2l hx hb dX10_likely_68 rfl ?_
                refine lv_topl (fun x16 ex16 => ?_)
                replace h := vl_ok ex16 h
                refine lv_lstore (lv' := [(9, .long x16), (7, .long (1 : Int64)), (5, .long (1 : Int64)), (0, .ref (w.2.2.1 v0)), (1, .int v1), (2, .int v2), (3, .int v3), (4, .int v4)]) hx hb dX10_likely_69 hl (by decide) rfl (fun ls hl => ?_)
                refine lv_iconst (v := (0)) hx hb dX10_likely_71 (by decide) ?_
                refine lv_istore (lv' := [(11, .int (0 : Int32)), (9, .long x16), (7, .long (1 : Int64)), (5, .long (1 : Int64)), (0, .ref (w.2.2.1 v0)), (1, .int v1), (2, .int v2), (3, .int v3), (4, .int v4)]) hx hb dX10_likely_72 hl (by decide) rfl (fun ls hl => ?_)
                obtain ⟨t22, q23, h39, h⟩ := bd_ok h
                refine lpn_ind (b := (fun (q : Int64 × Int64 × Int32 × fMem) => f_X10_likely_L74 v2 v3 v4 x16 q.1 q.2.1 q.2.2.1 q.2.2.2)) (P := fun (q : Int64 × Int64 × Int32 × fMem) => WW p l e rm_X10_likely s m args below meth c (MQ below (fQl w r μr) args s 0 0 (fA w)) w q.2.2.2 13 74 [] [(2, .int v2), (3, .int v3), (4, .int v4), (5, .long q.1), (7, .long q.2.1), (9, .long x16), (11, .int q.2.2.1)]) (K := fun _ (q : Int64 × Int64 × Int32 × fMem) => WW p l e rm_X10_likely s m args below meth c (MQ below (fQl w r μr) args s 0 0 (fA w)) w q.2.2.2 13 116 [] [(2, .int v2), (3, .int v3), (4, .int v4), (5, .long q.1), (7, .long q.2.1)]) ?_ fuel ((1 : Int64), (1 : Int64), (0 : Int32), μ3) t22 q23 h39 ?_ _ _ _ hP hS (lv_sub hl [6, 7, 8, 3, 2, 1, 0] rfl)
                · intro q tz74 sz74 h hP0_74 hK0_74 H locs ls hP hS hl
                  obtain ⟨v5, v7, v11, μ⟩ := q
                  have hP : fP w μ H := hP
                  have hl : lv_has ls 13 [(2, .int v2), (3, .int v3), (4, .int v4), (5, .long v5), (7, .long v7), (9, .long x16), (11, .int v11)] := hl
                  have h : f_X10_likely_L74 v2 v3 v4 x16 v5 v7 v11 μ = some (tz74, sz74) := h
                  unfold f_X10_likely_L74 at h
                  have J99 : ∀ (v7 : Int64) (v11 : Int32) (t0 : Int64) (t1 : Int64) (μ : fMem), f_X10_likely_j99 v2 v3 v4 v7 x16 v11 t0 t1 μ = some (tz74, sz74) → WW p l e rm_X10_likely s m args below meth c (MQ below (fQl w r μr) args s 0 0 (fA w)) w μ 13 99 [.long t1, .long t0] [(2, .int v2), (3, .int v3), (4, .int v4), (7, .long v7), (9, .long x16), (11, .int v11)] := by
                    intro v7 v11 t0 t1 μ  h H locs ls hP hS hl
                    unfold f_X10_likely_j99 at h
                    refine lv_lmul hx hb dX10_likely_99 ?_
                    refine lv_topl (fun x19 ex19 => ?_)
                    replace h := vl_ok ex19 h
                    refine lv_lstore (lv' := [(5, .long x19), (2, .int v2), (3, .int v3), (4, .int v4), (7, .long v7), (9, .long x16), (11, .int v11)]) hx hb dX10_likely_100 hl (by decide) rfl (fun ls hl => ?_)
                    refine lv_lload hx hb dX10_likely_102 (lv_at hl 4 rfl) ?_
                    refine lv_ldc2 hx hb hown (hts _ ct_X10_306) dX10_likely_104 ?_
                    refine lv_lmul hx hb dX10_likely_107 ?_
                    refine lv_topl (fun x20 ex20 => ?_)
                    replace h := vl_ok ex20 h
                    refine lv_lstore (lv' := [(7, .long x20), (5, .long x19), (2, .int v2), (3, .int v3), (4, .int v4), (9, .long x16), (11, .int v11)]) hx hb dX10_likely_108 hl (by decide) rfl (fun ls hl => ?_)
                    obtain ⟨x21, ex21⟩ : ∃ y : Int32, y = (v11 + (1 : Int32)) := ⟨_, rfl⟩
                    replace h := vl_ok ex21 h
                    refine lv_iinc (v := x21) (lv' := [(11, .int x21), (7, .long x20), (5, .long x19), (2, .int v2), (3, .int v3), (4, .int v4), (9, .long x16)]) hx hb dX10_likely_110 hl (k := 6) rfl (by rw [ex21]; rfl) (by decide) rfl (fun ls hl => ?_)
                    refine lv_goto (tgt := 74) hx hb dX10_likely_113 (by decide) ?_
                    obtain ⟨rfl, rfl⟩ := leaf h
                    exact hP0_74 rfl _ _ _ hP hS (lv_sub hl [3, 4, 5, 2, 1, 6, 0] rfl)
                  refine lv_iload hx hb dX10_likely_74 (lv_at hl 6 rfl) ?_
                  refine lv_iload_n hx hb dX10_likely_76 rfl (lv_at hl 0 rfl) ?_
                  refine lv_icmp_ge (tgt := 116) hx hb dX10_likely_77 (by decide) (fun c17 => ?_) (fun c17 => ?_)
                  · replace h := if_t c17 h
                    obtain ⟨rfl, rfl⟩ := leaf h
                    exact (hK0_74 0 rfl) _ _ _ hP hS (lv_sub hl [0, 1, 2, 3, 4] rfl)
                  · replace h := if_f c17 h
                    refine lv_lload hx hb dX10_likely_80 (lv_at hl 3 rfl) ?_
                    refine lv_iload hx hb dX10_likely_82 (lv_at hl 6 rfl) ?_
                    refine lv_iload_n hx hb dX10_likely_84 rfl (lv_at hl 1 rfl) ?_
                    refine lv_icmp_ge (tgt := 93) hx hb dX10_likely_85 (by decide) (fun c18 => ?_) (fun c18 => ?_)
                    · replace h := if_t c18 h
                      refine lv_ldc2 hx hb hown (hts _ ct_X10_306) dX10_likely_93 ?_
                      refine lv_lload hx hb dX10_likely_96 (lv_at hl 5 rfl) ?_
                      refine lv_lsub hx hb dX10_likely_98 ?_
                      exact J99 v7 v11 v5 ((100 : Int64) - x16) μ  h _ _ _ hP hS (lv_sub hl [0, 1, 2, 4, 5, 6] rfl)
                    · replace h := if_f c18 h
                      refine lv_lload hx hb dX10_likely_88 (lv_at hl 5 rfl) ?_
                      refine lv_goto (tgt := 99) hx hb dX10_likely_90 (by decide) ?_
                      exact J99 v7 v11 v5 x16 μ  h _ _ _ hP hS (lv_sub hl [0, 1, 2, 4, 5, 6] rfl)
                · obtain ⟨x24, x25, x26, μ27⟩ := q23
                  intro H locs ls hP hS hl
                  have hP : fP w μ27 H := hP
                  have hl : lv_has ls 13 [(2, .int v2), (3, .int v3), (4, .int v4), (5, .long x24), (7, .long x25)] := hl
                  try dsimp only at h
                  refine lv_lload hx hb dX10_likely_116 (lv_at hl 3 rfl) ?_
                  refine lv_iload_n hx hb dX10_likely_118 rfl (lv_at hl 0 rfl) ?_
                  refine lv_iload_n hx hb dX10_likely_119 rfl (lv_at hl 1 rfl) ?_
                  obtain ⟨r29, μ28, h30, h⟩ := bd_ok h
                  refine go_l (callS_run (As := [.int v2, .int v3]) (rest := [.long x24]) C hl hP (hS.wide hJ).2.1 (m_X10_ways l w hJ hw v2 v3  μ27 h30) ms_X10_308 ⟨rfl, rfl, by decide, by decide⟩ rfl rfl (Nat.le_of_ble_eq_true rfl) ⟨Nat.zero_le _, Nat.zero_le _⟩ dX10_likely_120) hS (fun H locs hP hS => ?_)
                  refine lv_lmul hx hb dX10_likely_123 ?_
                  refine lv_topl (fun x31 ex31 => ?_)
                  replace h := vl_ok ex31 h
                  refine lv_lstore (lv' := [(5, .long x31), (2, .int v2), (3, .int v3), (4, .int v4), (7, .long x25)]) hx hb dX10_likely_124 hl (by decide) rfl (fun ls hl => ?_)
                  refine lv_lload hx hb dX10_likely_126 (lv_at hl 0 rfl) ?_
                  refine lv_lload hx hb dX10_likely_128 (lv_at hl 4 rfl) ?_
                  obtain ⟨r33, μ32, h34, h⟩ := bd_ok h
                  refine go_l (callS_run (As := [.long x31, .long x25]) (rest := []) C hl hP (hS.wide hJ).2.1 (m_X10_greatestShared l w hJ hw x31 x25  μ28 h34) ms_X10_312 ⟨rfl, rfl, by decide, by decide⟩ rfl rfl (Nat.le_of_ble_eq_true rfl) ⟨Nat.zero_le _, Nat.zero_le _⟩ dX10_likely_130) hS (fun H locs hP hS => ?_)
                  refine lv_lstore (lv' := [(11, .long r33), (5, .long x31), (2, .int v2), (3, .int v3), (4, .int v4), (7, .long x25)]) hx hb dX10_likely_133 hl (by decide) rfl (fun ls hl => ?_)
                  refine lv_lload hx hb dX10_likely_135 (lv_at hl 0 rfl) ?_
                  refine lv_lconst (v := 0) hx hb dX10_likely_137 (by decide) ?_
                  refine W.lcmp hx hb dX10_likely_138 ?_
                  refine lv_if_gt (tgt := 146) hx hb dX10_likely_139 (by decide) (fun c35 => ?_) (fun c35 => ?_)
                  · replace h := if_t c35 h
                    refine lv_iload hx hb dX10_likely_146 (lv_at hl 4 rfl) ?_
                    refine lv_if_ne (tgt := 159) hx hb dX10_likely_148 (by decide) (fun c36 => ?_) (fun c36 => ?_)
                    · replace h := if_f c36 h
                      refine lv_lload hx hb dX10_likely_159 (lv_at hl 5 rfl) ?_
                      refine lv_lload hx hb dX10_likely_161 (lv_at hl 0 rfl) ?_
                      obtain ⟨g37, h⟩ := gd_ok h
                      refine lv_ldiv hx hb dX10_likely_163 g37 ?_
                      exact r_lret C hr hP hS h dX10_likely_164
                    · replace h := if_t c36 h
                      refine lv_lload hx hb dX10_likely_151 (lv_at hl 1 rfl) ?_
                      refine lv_lload hx hb dX10_likely_153 (lv_at hl 0 rfl) ?_
                      obtain ⟨g38, h⟩ := gd_ok h
                      refine lv_ldiv hx hb dX10_likely_155 g38 ?_
                      refine lv_goto (tgt := 164) hx hb dX10_likely_156 (by decide) ?_
                      exact r_lret C hr hP hS h dX10_likely_164
                  · replace h := if_f c35 h
                    refine lv_ldc2 hx hb hown (hts _ ct_X10_304) dX10_likely_142 ?_
                    exact r_lret C hr hP hS h dX10_likely_145
              · replace h := if_f c12 h
                refine lv_ldc2 hx hb hown (hts _ ct_X10_304) dX10_likely_46 ?_
                exact r_lret C hr hP hS h dX10_likely_49
          · replace h := if_f c10 h
            refine lv_ldc2 hx hb hown (hts _ ct_X10_304) dX10_likely_31 ?_
            exact r_lret C hr hP hS h dX10_likely_34

def f_X10_shunned_L36 (v0 : Nat) (v1 : Int32) (v2 : Int32) (v3 : Int32) (v4 : Int32) (μ : fMem) : Option (Nat × (Int32 × Int32 × fMem)) :=
  vl (μ.2.2 v0 2) fun x12 => gd (kd x12 = (4, 2)) (bd (f_X2_told x12 (3 : Int32) μ) fun r15 μ14 => if r15 ≤ v4 then some (1, (v3, v4, μ14)) else gd (ixo v2 8) (bd (f_X0_likes (v0 + 84) v4 v2 (μ14.1 ((v0 + 66) + 1) (Int32.toNatClampNeg v2)) μ14) fun r20 μ19 => if r20 < (30 : Int32) then vl (v4 + (1 : Int32)) fun x23 => some (0, (v3, x23, μ19)) else vl (v4 + (1 : Int32)) fun x24 => some (0, ((1 : Int32), x24, μ19))))
def f_X10_shunned_L19 (v0 : Nat) (v1 : Int32) (v2 : Int32) (μ : fMem) : Option (Nat × (Int32 × Int32 × fMem)) :=
  vl (μ.2.2 v0 2) fun x6 => gd (kd x6 = (4, 2)) (bd (f_X2_told x6 (2 : Int32) μ) fun r9 μ8 => if r9 ≤ v2 then some (1, (v1, v2, μ8)) else bd (lpn (fun (q : Int32 × Int32 × fMem) => f_X10_shunned_L36 v0 v1 v2 q.1 q.2.1 q.2.2) fuel ((0 : Int32), (0 : Int32), μ8)) fun t25 q26 => (fun (x27 : Int32) (x28 : Int32) (μ29 : fMem) => if x27 = 0 then vl (v1 ||| (shl (1 : Int32) v2)) fun x32 => vl (v2 + (1 : Int32)) fun x33 => some (0, (x32, x33, μ29)) else vl (v2 + (1 : Int32)) fun x31 => some (0, (v1, x31, μ29))) q26.1 q26.2.1 q26.2.2)
def f_X10_shunned (v0 : Nat) (μ : fMem) : Option (Int32 × fMem) :=
  vl (μ.2.2 v0 2) fun x1 => gd (kd x1 = (4, 2)) (bd (f_X0_begin (v0 + 84) x1 (v0 + 66) μ) fun r4 μ3 => bd (lpn (fun (q : Int32 × Int32 × fMem) => f_X10_shunned_L19 v0 q.1 q.2.1 q.2.2) fuel ((0 : Int32), (0 : Int32), μ3)) fun t35 q36 => (fun (x37 : Int32) (x38 : Int32) (μ39 : fMem) => some (x37, μ39)) q36.1 q36.2.1 q36.2.2)
def rm_X10_shunned : Room := { frames := 4, cells := 0, slots := 0, locals := 131 }
set_option maxHeartbeats 4000000 in
set_option maxRecDepth 100000 in
theorem m_X10_shunned (l : Launch) (w : fW) (hJ : fJ w) (hw : w.2.2.2 = sd 0) (v0 : Nat) (hk0 : kd v0 = (4, 10)) (μ : fMem) {r : Int32} {μr : fMem} (h : f_X10_shunned v0 μ = some (r, μr)) : Met l yX10_shunned (.code yX10_shunned cX10_shunned 5 (some .int) :: gw) rm_X10_shunned (fPc w [.ref (w.2.2.1 v0)] μ) (fQi w r μr) 0 0 (fA w) := by
  refine met_of hJ (by decide) ?_ (Nat.le_of_ble_eq_true rfl)
  generalize ([.ref (w.2.2.1 v0)] : List Value).toArray = args
  intro p e s m below meth c ls C hr hP hl hS
  obtain ⟨hx, hb, hml, hown, hts, hK, -, hlk, hT⟩ := id C
  have hl : lv_has ls 5 [(0, .ref (w.2.2.1 v0))] := hl
  unfold f_X10_shunned at h
  refine lv_aload_n hx hb dX10_shunned_0 rfl (lv_at hl 0 rfl) ?_
  refine r_getF (off := 84) C hP (iw hw (fi_10 hk0)) hk0 fl_X10_53 rfl rfl (zw hw) dX10_shunned_1 ?_
  refine lv_aload_n hx hb dX10_shunned_4 rfl (lv_at hl 0 rfl) ?_
  refine r_getRx C hP (iw hw (fi_10 hk0)) hk0 fl_X10_22 rfl (zw hw) dX10_shunned_5 (fun x1 ex1 => ?_)
  replace h := vl_ok ex1 h
  obtain ⟨g2, h⟩ := gd_ok h
  refine lv_aload_n hx hb dX10_shunned_8 rfl (lv_at hl 0 rfl) ?_
  refine r_getF (off := 66) C hP (iw hw (fi_10 hk0)) hk0 fl_X10_36 rfl rfl (zw hw) dX10_shunned_9 ?_
  obtain ⟨r4, μ3, h5, h⟩ := bd_ok h
  refine go_v (callV_run (As := [.ref (w.2.2.1 x1), .ref (w.2.2.1 (v0 + 66))]) (rest := []) C hl hP (hS.wide hJ).2.1 (iw hw (ff_10_8 hk0).2) (ff_10_8 hk0).1 (m_X0_begin l w hJ hw (v0 + 84) x1 (v0 + 66) (ff_10_8 hk0).1 g2 (ff_10_4 hk0).1 μ h5) mv_X10_189 ⟨rfl, rfl, by decide, by decide⟩ rfl rfl (Nat.le_of_ble_eq_true rfl) ⟨Nat.zero_le _, Nat.zero_le _⟩ dX10_shunned_12) hS (fun H locs hP hS => ?_)
  refine lv_iconst (v := (0)) hx hb dX10_shunned_15 (by decide) ?_
  refine lv_istore_n (lv' := [(1, .int (0 : Int32)), (0, .ref (w.2.2.1 v0))]) hx hb dX10_shunned_16 rfl hl (by decide) rfl (fun ls hl => ?_)
  refine lv_iconst (v := (0)) hx hb dX10_shunned_17 (by decide) ?_
  refine lv_istore_n (lv' := [(2, .int (0 : Int32)), (1, .int (0 : Int32)), (0, .ref (w.2.2.1 v0))]) hx hb dX10_shunned_18 rfl hl (by decide) rfl (fun ls hl => ?_)
  obtain ⟨t35, q36, h40, h⟩ := bd_ok h
  refine lpn_ind (b := (fun (q : Int32 × Int32 × fMem) => f_X10_shunned_L19 v0 q.1 q.2.1 q.2.2)) (P := fun (q : Int32 × Int32 × fMem) => WW p l e rm_X10_shunned s m args below meth c (MQ below (fQi w r μr) args s 0 0 (fA w)) w q.2.2 5 19 [] [(0, .ref (w.2.2.1 v0)), (1, .int q.1), (2, .int q.2.1)]) (K := fun _ (q : Int32 × Int32 × fMem) => WW p l e rm_X10_shunned s m args below meth c (MQ below (fQi w r μr) args s 0 0 (fA w)) w q.2.2 5 97 [] [(1, .int q.1)]) ?_ fuel ((0 : Int32), (0 : Int32), μ3) t35 q36 h40 ?_ _ _ _ hP hS (lv_sub hl [2, 1, 0] rfl)
  · intro q tz19 sz19 h hP0_19 hK0_19 H locs ls hP hS hl
    obtain ⟨v1, v2, μ⟩ := q
    have hP : fP w μ H := hP
    have hl : lv_has ls 5 [(0, .ref (w.2.2.1 v0)), (1, .int v1), (2, .int v2)] := hl
    have h : f_X10_shunned_L19 v0 v1 v2 μ = some (tz19, sz19) := h
    unfold f_X10_shunned_L19 at h
    refine lv_iload_n hx hb dX10_shunned_19 rfl (lv_at hl 2 rfl) ?_
    refine lv_aload_n hx hb dX10_shunned_20 rfl (lv_at hl 0 rfl) ?_
    refine r_getRx C hP (iw hw (fi_10 hk0)) hk0 fl_X10_22 rfl (zw hw) dX10_shunned_21 (fun x6 ex6 => ?_)
    replace h := vl_ok ex6 h
    obtain ⟨g7, h⟩ := gd_ok h
    refine lv_iconst (v := (2)) hx hb dX10_shunned_24 (by decide) ?_
    obtain ⟨r9, μ8, h10, h⟩ := bd_ok h
    refine go_i (callV_run (As := [.int (2 : Int32)]) (rest := [.int v2]) C hl hP (hS.wide hJ).2.1 (iw hw (fi_2 g7)) g7 (m_X2_told l w hJ hw x6 (2 : Int32) g7 μ h10) mv_X10_203 ⟨rfl, rfl, by decide, by decide⟩ rfl rfl (Nat.le_of_ble_eq_true rfl) ⟨Nat.zero_le _, Nat.zero_le _⟩ dX10_shunned_25) hS (fun H locs hP hS => ?_)
    refine lv_icmp_ge (tgt := 97) hx hb dX10_shunned_28 (by decide) (fun c11 => ?_) (fun c11 => ?_)
    · replace h := if_t c11 h
      obtain ⟨rfl, rfl⟩ := leaf h
      exact (hK0_19 0 rfl) _ _ _ hP hS (lv_sub hl [1] rfl)
    · replace h := if_f c11 h
      refine lv_iconst (v := (0)) hx hb dX10_shunned_31 (by decide) ?_
      refine lv_istore_n (lv' := [(3, .int (0 : Int32)), (0, .ref (w.2.2.1 v0)), (1, .int v1), (2, .int v2)]) hx hb dX10_shunned_32 rfl hl (by decide) rfl (fun ls hl => ?_)
      refine lv_iconst (v := (0)) hx hb dX10_shunned_33 (by decide) ?_
      refine lv_istore (lv' := [(4, .int (0 : Int32)), (3, .int (0 : Int32)), (0, .ref (w.2.2.1 v0)), (1, .int v1), (2, .int v2)]) hx hb dX10_shunned_34 hl (by decide) rfl (fun ls hl => ?_)
      obtain ⟨t25, q26, h34, h⟩ := bd_ok h
      refine lpn_ind (b := (fun (q : Int32 × Int32 × fMem) => f_X10_shunned_L36 v0 v1 v2 q.1 q.2.1 q.2.2)) (P := fun (q : Int32 × Int32 × fMem) => WW p l e rm_X10_shunned s m args below meth c (MQ below (fQi w r μr) args s 0 0 (fA w)) w q.2.2 5 36 [] [(0, .ref (w.2.2.1 v0)), (1, .int v1), (2, .int v2), (3, .int q.1), (4, .int q.2.1)]) (K := fun _ (q : Int32 × Int32 × fMem) => WW p l e rm_X10_shunned s m args below meth c (MQ below (fQi w r μr) args s 0 0 (fA w)) w q.2.2 5 81 [] [(0, .ref (w.2.2.1 v0)), (1, .int v1), (2, .int v2), (3, .int q.1)]) ?_ fuel ((0 : Int32), (0 : Int32), μ8) t25 q26 h34 ?_ _ _ _ hP hS (lv_sub hl [2, 3, 4, 1, 0] rfl)
      · intro q tz36 sz36 h hP0_36 hK0_36 H locs ls hP hS hl
        obtain ⟨v3, v4, μ⟩ := q
        have hP : fP w μ H := hP
        have hl : lv_has ls 5 [(0, .ref (w.2.2.1 v0)), (1, .int v1), (2, .int v2), (3, .int v3), (4, .int v4)] := hl
        have h : f_X10_shunned_L36 v0 v1 v2 v3 v4 μ = some (tz36, sz36) := h
        unfold f_X10_shunned_L36 at h
        refine lv_iload hx hb dX10_shunned_36 (lv_at hl 4 rfl) ?_
        refine lv_aload_n hx hb dX10_shunned_38 rfl (lv_at hl 0 rfl) ?_
        refine r_getRx C hP (iw hw (fi_10 hk0)) hk0 fl_X10_22 rfl (zw hw) dX10_shunned_39 (fun x12 ex12 => ?_)
        replace h := vl_ok ex12 h
        obtain ⟨g13, h⟩ := gd_ok h
        refine lv_iconst (v := (3)) hx hb dX10_shunned_42 (by decide) ?_
        obtain ⟨r15, μ14, h16, h⟩ := bd_ok h
        refine go_i (callV_run (As := [.int (3 : Int32)]) (rest := [.int v4]) C hl hP (hS.wide hJ).2.1 (iw hw (fi_2 g13)) g13 (m_X2_told l w hJ hw x12 (3 : Int32) g13 μ h16) mv_X10_203 ⟨rfl, rfl, by decide, by decide⟩ rfl rfl (Nat.le_of_ble_eq_true rfl) ⟨Nat.zero_le _, Nat.zero_le _⟩ dX10_shunned_43) hS (fun H locs hP hS => ?_)
        refine lv_icmp_ge (tgt := 81) hx hb dX10_shunned_46 (by decide) (fun c17 => ?_) (fun c17 => ?_)
        · replace h := if_t c17 h
          obtain ⟨rfl, rfl⟩ := leaf h
          exact (hK0_36 0 rfl) _ _ _ hP hS (lv_sub hl [0, 1, 2, 3] rfl)
        · replace h := if_f c17 h
          refine lv_aload_n hx hb dX10_shunned_49 rfl (lv_at hl 0 rfl) ?_
          refine r_getF (off := 84) C hP (iw hw (fi_10 hk0)) hk0 fl_X10_53 rfl rfl (zw hw) dX10_shunned_50 ?_
          refine lv_iload hx hb dX10_shunned_53 (lv_at hl 4 rfl) ?_
          refine lv_iload_n hx hb dX10_shunned_55 rfl (lv_at hl 2 rfl) ?_
          refine lv_aload_n hx hb dX10_shunned_56 rfl (lv_at hl 0 rfl) ?_
          refine r_getF (off := 66) C hP (iw hw (fi_10 hk0)) hk0 fl_X10_36 rfl rfl (zw hw) dX10_shunned_57 ?_
          refine r_getF (off := 1) C hP (iw hw (ff_10_4 hk0).2) (ff_10_4 hk0).1 fl_X10_132 rfl rfl (zw hw) dX10_shunned_60 ?_
          refine lv_iload_n hx hb dX10_shunned_63 rfl (lv_at hl 2 rfl) ?_
          obtain ⟨g18, h⟩ := gd_ok h
          refine r_iald C hP (iw hw (ff_7_0 (ff_10_4 hk0).1).2) (ff_7_0 (ff_10_4 hk0).1).1 g18 dX10_shunned_64 ?_
          obtain ⟨r20, μ19, h21, h⟩ := bd_ok h
          refine go_i (callV_run (As := [.int v4, .int v2, .int (μ14.1 ((v0 + 66) + 1) (Int32.toNatClampNeg v2))]) (rest := []) C hl hP (hS.wide hJ).2.1 (iw hw (ff_10_8 hk0).2) (ff_10_8 hk0).1 (m_X0_likes l w hJ hw (v0 + 84) v4 v2 (μ14.1 ((v0 + 66) + 1) (Int32.toNatClampNeg v2)) (ff_10_8 hk0).1 μ14 h21) mv_X10_193 ⟨rfl, rfl, by decide, by decide⟩ rfl rfl (Nat.le_of_ble_eq_true rfl) ⟨Nat.zero_le _, Nat.zero_le _⟩ dX10_shunned_65) hS (fun H locs hP hS => ?_)
          refine lv_bipush (v := (30)) hx hb dX10_shunned_68 (by decide) ?_
          refine lv_icmp_lt (tgt := 75) hx hb dX10_shunned_70 (by decide) (fun c22 => ?_) (fun c22 => ?_)
          · replace h := if_t c22 h
            obtain ⟨x23, ex23⟩ : ∃ y : Int32, y = (v4 + (1 : Int32)) := ⟨_, rfl⟩
            replace h := vl_ok ex23 h
            refine lv_iinc (v := x23) (lv' := [(4, .int x23), (0, .ref (w.2.2.1 v0)), (1, .int v1), (2, .int v2), (3, .int v3)]) hx hb dX10_shunned_75 hl (k := 4) rfl (by rw [ex23]; rfl) (by decide) rfl (fun ls hl => ?_)
            refine lv_goto (tgt := 36) hx hb dX10_shunned_78 (by decide) ?_
            obtain ⟨rfl, rfl⟩ := leaf h
            exact hP0_36 rfl _ _ _ hP hS (lv_sub hl [1, 2, 3, 4, 0] rfl)
          · replace h := if_f c22 h
            refine lv_iconst (v := (1)) hx hb dX10_shunned_73 (by decide) ?_
            refine lv_istore_n (lv' := [(3, .int (1 : Int32)), (0, .ref (w.2.2.1 v0)), (1, .int v1), (2, .int v2), (4, .int v4)]) hx hb dX10_shunned_74 rfl hl (by decide) rfl (fun ls hl => ?_)
            obtain ⟨x24, ex24⟩ : ∃ y : Int32, y = (v4 + (1 : Int32)) := ⟨_, rfl⟩
            replace h := vl_ok ex24 h
            refine lv_iinc (v := x24) (lv' := [(4, .int x24), (3, .int (1 : Int32)), (0, .ref (w.2.2.1 v0)), (1, .int v1), (2, .int v2)]) hx hb dX10_shunned_75 hl (k := 4) rfl (by rw [ex24]; rfl) (by decide) rfl (fun ls hl => ?_)
            refine lv_goto (tgt := 36) hx hb dX10_shunned_78 (by decide) ?_
            obtain ⟨rfl, rfl⟩ := leaf h
            exact hP0_36 rfl _ _ _ hP hS (lv_sub hl [2, 3, 4, 1, 0] rfl)
      · obtain ⟨x27, x28, μ29⟩ := q26
        intro H locs ls hP hS hl
        have hP : fP w μ29 H := hP
        have hl : lv_has ls 5 [(0, .ref (w.2.2.1 v0)), (1, .int v1), (2, .int v2), (3, .int x27)] := hl
        try dsimp only at h
        refine lv_iload_n hx hb dX10_shunned_81 rfl (lv_at hl 3 rfl) ?_
        refine lv_if_ne (tgt := 91) hx hb dX10_shunned_82 (by decide) (fun c30 => ?_) (fun c30 => ?_)
        · replace h := if_f c30 h
          obtain ⟨x31, ex31⟩ : ∃ y : Int32, y = (v2 + (1 : Int32)) := ⟨_, rfl⟩
          replace h := vl_ok ex31 h
          refine lv_iinc (v := x31) (lv' := [(2, .int x31), (0, .ref (w.2.2.1 v0)), (1, .int v1), (3, .int x27)]) hx hb dX10_shunned_91 hl (k := 2) rfl (by rw [ex31]; rfl) (by decide) rfl (fun ls hl => ?_)
          refine lv_goto (tgt := 19) hx hb dX10_shunned_94 (by decide) ?_
          obtain ⟨rfl, rfl⟩ := leaf h
          exact hP0_19 rfl _ _ _ hP hS (lv_sub hl [1, 2, 0] rfl)
        · replace h := if_t c30 h
          refine lv_iload_n hx hb dX10_shunned_85 rfl (lv_at hl 1 rfl) ?_
          refine lv_iconst (v := (1)) hx hb dX10_shunned_86 (by decide) ?_
          refine lv_iload_n hx hb dX10_shunned_87 rfl (lv_at hl 2 rfl) ?_
          refine r_ishl hx hb dX10_shunned_88 ?_
          refine lv_ior hx hb dX10_shunned_89 ?_
          refine lv_topi (fun x32 ex32 => ?_)
          replace h := vl_ok ex32 h
          refine lv_istore_n (lv' := [(1, .int x32), (0, .ref (w.2.2.1 v0)), (2, .int v2), (3, .int x27)]) hx hb dX10_shunned_90 rfl hl (by decide) rfl (fun ls hl => ?_)
          obtain ⟨x33, ex33⟩ : ∃ y : Int32, y = (v2 + (1 : Int32)) := ⟨_, rfl⟩
          replace h := vl_ok ex33 h
          refine lv_iinc (v := x33) (lv' := [(2, .int x33), (1, .int x32), (0, .ref (w.2.2.1 v0)), (3, .int x27)]) hx hb dX10_shunned_91 hl (k := 2) rfl (by rw [ex33]; rfl) (by decide) rfl (fun ls hl => ?_)
          refine lv_goto (tgt := 19) hx hb dX10_shunned_94 (by decide) ?_
          obtain ⟨rfl, rfl⟩ := leaf h
          exact hP0_19 rfl _ _ _ hP hS (lv_sub hl [2, 1, 0] rfl)
  · obtain ⟨x37, x38, μ39⟩ := q36
    intro H locs ls hP hS hl
    have hP : fP w μ39 H := hP
    have hl : lv_has ls 5 [(1, .int x37)] := hl
    try dsimp only at h
    refine lv_iload_n hx hb dX10_shunned_97 rfl (lv_at hl 0 rfl) ?_
    exact r_iret C hr hP hS h dX10_shunned_98

def f_X10_loved_L63 (v0 : Nat) (v1 : Int32) (v2 : Int32) (v3 : Int32) (v4 : Int32) (v5 : Int32) (v6 : Int32) (μ : fMem) : Option (Nat × (Int32 × Int32 × fMem)) :=
  vl (μ.2.2 v0 2) fun x20 => gd (kd x20 = (4, 2)) (bd (f_X2_told x20 (3 : Int32) μ) fun r23 μ22 => if r23 ≤ v6 then some (1, (v5, v6, μ22)) else gd (ixo v4 8) (bd (f_X0_likes (v0 + 84) v6 v4 (μ22.1 ((v0 + 66) + 1) (Int32.toNatClampNeg v4)) μ22) fun r28 μ27 => vl (v5 + r28) fun x30 => vl (v6 + (1 : Int32)) fun x31 => some (0, (x30, x31, μ27))))
def f_X10_loved_j119 (v0 : Nat) (v1 : Int32) (v4 : Int32) (v5 : Int32) (μ : fMem) : Option (Nat × (Int32 × Int32 × Int32 × fMem)) :=
  vl (v4 + (1 : Int32)) fun x41 => some (0, (v4, v5, x41, μ))
def f_X10_loved_L44 (v0 : Nat) (v1 : Int32) (v2 : Int32) (v3 : Int32) (v4 : Int32) (μ : fMem) : Option (Nat × (Int32 × Int32 × Int32 × fMem)) :=
  vl (μ.2.2 v0 2) fun x14 => gd (kd x14 = (4, 2)) (bd (f_X2_told x14 (2 : Int32) μ) fun r17 μ16 => if r17 ≤ v4 then some (1, (v2, v3, v4, μ16)) else bd (lpn (fun (q : Int32 × Int32 × fMem) => f_X10_loved_L63 v0 v1 v2 v3 v4 q.1 q.2.1 q.2.2) fuel ((0 : Int32), (0 : Int32), μ16)) fun t32 q33 => (fun (x34 : Int32) (x35 : Int32) (μ36 : fMem) => if v2 = (-1 : Int32) then f_X10_loved_j119 v0 v1 v4 x34 μ36 else if x34 ≤ v3 then vl (v4 + (1 : Int32)) fun x39 => some (0, (v2, v3, x39, μ36)) else f_X10_loved_j119 v0 v1 v4 x34 μ36) q33.1 q33.2.1 q33.2.2)
def f_X10_loved (v0 : Nat) (v1 : Int32) (μ : fMem) : Option (Int32 × fMem) :=
  if v1 < 0 then some ((-1 : Int32), μ) else if (1 : Int32) < v1 then some ((-1 : Int32), μ) else vl (μ.2.2 v0 2) fun x3 => gd (kd x3 = (4, 2)) (bd (f_X2_told x3 (2 : Int32) μ) fun r6 μ5 => if r6 = 0 then some ((-1 : Int32), μ5) else vl (μ5.2.2 v0 2) fun x9 => gd (kd x9 = (4, 2)) (bd (f_X0_begin (v0 + 84) x9 (v0 + 66) μ5) fun r12 μ11 => bd (lpn (fun (q : Int32 × Int32 × Int32 × fMem) => f_X10_loved_L44 v0 v1 q.1 q.2.1 q.2.2.1 q.2.2.2) fuel ((-1 : Int32), (0 : Int32), (0 : Int32), μ11)) fun t42 q43 => (fun (x44 : Int32) (x45 : Int32) (x46 : Int32) (μ47 : fMem) => if v1 = 0 then some (x44, μ47) else some (x45, μ47)) q43.1 q43.2.1 q43.2.2.1 q43.2.2.2))
def rm_X10_loved : Room := { frames := 4, cells := 0, slots := 0, locals := 131 }
set_option maxHeartbeats 4000000 in
set_option maxRecDepth 100000 in
theorem m_X10_loved (l : Launch) (w : fW) (hJ : fJ w) (hw : w.2.2.2 = sd 0) (v0 : Nat) (v1 : Int32) (hk0 : kd v0 = (4, 10)) (μ : fMem) {r : Int32} {μr : fMem} (h : f_X10_loved v0 v1 μ = some (r, μr)) : Met l yX10_loved (.code yX10_loved cX10_loved 7 (some .int) :: gw) rm_X10_loved (fPc w [.ref (w.2.2.1 v0), .int v1] μ) (fQi w r μr) 0 0 (fA w) := by
  refine met_of hJ (by decide) ?_ (Nat.le_of_ble_eq_true rfl)
  generalize ([.ref (w.2.2.1 v0), .int v1] : List Value).toArray = args
  intro p e s m below meth c ls C hr hP hl hS
  obtain ⟨hx, hb, hml, hown, hts, hK, -, hlk, hT⟩ := id C
  have hl : lv_has ls 7 [(0, .ref (w.2.2.1 v0)), (1, .int v1)] := hl
  unfold f_X10_loved at h
  refine lv_iload_n hx hb dX10_loved_0 rfl (lv_at hl 1 rfl) ?_
  refine lv_if_lt (tgt := 20) hx hb dX10_loved_1 (by decide) (fun c1 => ?_) (fun c1 => ?_)
  · replace h := if_t c1 h
    refine lv_iconst (v := (-1)) hx hb dX10_loved_20 (by decide) ?_
    exact r_iret C hr hP hS h dX10_loved_21
  · replace h := if_f c1 h
    refine lv_iload_n hx hb dX10_loved_4 rfl (lv_at hl 1 rfl) ?_
    refine lv_iconst (v := (1)) hx hb dX10_loved_5 (by decide) ?_
    refine lv_icmp_gt (tgt := 20) hx hb dX10_loved_6 (by decide) (fun c2 => ?_) (fun c2 => ?_)
    · replace h := if_t c2 h
      refine lv_iconst (v := (-1)) hx hb dX10_loved_20 (by decide) ?_
      exact r_iret C hr hP hS h dX10_loved_21
    · replace h := if_f c2 h
      refine lv_aload_n hx hb dX10_loved_9 rfl (lv_at hl 0 rfl) ?_
      refine r_getRx C hP (iw hw (fi_10 hk0)) hk0 fl_X10_22 rfl (zw hw) dX10_loved_10 (fun x3 ex3 => ?_)
      replace h := vl_ok ex3 h
      obtain ⟨g4, h⟩ := gd_ok h
      refine lv_iconst (v := (2)) hx hb dX10_loved_13 (by decide) ?_
      obtain ⟨r6, μ5, h7, h⟩ := bd_ok h
      refine go_i (callV_run (As := [.int (2 : Int32)]) (rest := []) C hl hP (hS.wide hJ).2.1 (iw hw (fi_2 g4)) g4 (m_X2_told l w hJ hw x3 (2 : Int32) g4 μ h7) mv_X10_203 ⟨rfl, rfl, by decide, by decide⟩ rfl rfl (Nat.le_of_ble_eq_true rfl) ⟨Nat.zero_le _, Nat.zero_le _⟩ dX10_loved_14) hS (fun H locs hP hS => ?_)
      refine lv_if_ne (tgt := 22) hx hb dX10_loved_17 (by decide) (fun c8 => ?_) (fun c8 => ?_)
      · replace h := if_f c8 h
        refine lv_aload_n hx hb dX10_loved_22 rfl (lv_at hl 0 rfl) ?_
        refine r_getF (off := 84) C hP (iw hw (fi_10 hk0)) hk0 fl_X10_53 rfl rfl (zw hw) dX10_loved_23 ?_
        refine lv_aload_n hx hb dX10_loved_26 rfl (lv_at hl 0 rfl) ?_
        refine r_getRx C hP (iw hw (fi_10 hk0)) hk0 fl_X10_22 rfl (zw hw) dX10_loved_27 (fun x9 ex9 => ?_)
        replace h := vl_ok ex9 h
        obtain ⟨g10, h⟩ := gd_ok h
        refine lv_aload_n hx hb dX10_loved_30 rfl (lv_at hl 0 rfl) ?_
        refine r_getF (off := 66) C hP (iw hw (fi_10 hk0)) hk0 fl_X10_36 rfl rfl (zw hw) dX10_loved_31 ?_
        obtain ⟨r12, μ11, h13, h⟩ := bd_ok h
        refine go_v (callV_run (As := [.ref (w.2.2.1 x9), .ref (w.2.2.1 (v0 + 66))]) (rest := []) C hl hP (hS.wide hJ).2.1 (iw hw (ff_10_8 hk0).2) (ff_10_8 hk0).1 (m_X0_begin l w hJ hw (v0 + 84) x9 (v0 + 66) (ff_10_8 hk0).1 g10 (ff_10_4 hk0).1 μ5 h13) mv_X10_189 ⟨rfl, rfl, by decide, by decide⟩ rfl rfl (Nat.le_of_ble_eq_true rfl) ⟨Nat.zero_le _, Nat.zero_le _⟩ dX10_loved_34) hS (fun H locs hP hS => ?_)
        refine lv_iconst (v := (-1)) hx hb dX10_loved_37 (by decide) ?_
        refine lv_istore_n (lv' := [(2, .int (-1 : Int32)), (0, .ref (w.2.2.1 v0)), (1, .int v1)]) hx hb dX10_loved_38 rfl hl (by decide) rfl (fun ls hl => ?_)
        refine lv_iconst (v := (0)) hx hb dX10_loved_39 (by decide) ?_
        refine lv_istore_n (lv' := [(3, .int (0 : Int32)), (2, .int (-1 : Int32)), (0, .ref (w.2.2.1 v0)), (1, .int v1)]) hx hb dX10_loved_40 rfl hl (by decide) rfl (fun ls hl => ?_)
        refine lv_iconst (v := (0)) hx hb dX10_loved_41 (by decide) ?_
        refine lv_istore (lv' := [(4, .int (0 : Int32)), (3, .int (0 : Int32)), (2, .int (-1 : Int32)), (0, .ref (w.2.2.1 v0)), (1, .int v1)]) hx hb dX10_loved_42 hl (by decide) rfl (fun ls hl => ?_)
        obtain ⟨t42, q43, h49, h⟩ := bd_ok h
        refine lpn_ind (b := (fun (q : Int32 × Int32 × Int32 × fMem) => f_X10_loved_L44 v0 v1 q.1 q.2.1 q.2.2.1 q.2.2.2)) (P := fun (q : Int32 × Int32 × Int32 × fMem) => WW p l e rm_X10_loved s m args below meth c (MQ below (fQi w r μr) args s 0 0 (fA w)) w q.2.2.2 7 44 [] [(0, .ref (w.2.2.1 v0)), (1, .int v1), (2, .int q.1), (3, .int q.2.1), (4, .int q.2.2.1)]) (K := fun _ (q : Int32 × Int32 × Int32 × fMem) => WW p l e rm_X10_loved s m args below meth c (MQ below (fQi w r μr) args s 0 0 (fA w)) w q.2.2.2 7 131 [] [(1, .int v1), (2, .int q.1), (3, .int q.2.1)]) ?_ fuel ((-1 : Int32), (0 : Int32), (0 : Int32), μ11) t42 q43 h49 ?_ _ _ _ hP hS (lv_sub hl [3, 4, 2, 1, 0] rfl)
        · intro q tz44 sz44 h hP0_44 hK0_44 H locs ls hP hS hl
          obtain ⟨v2, v3, v4, μ⟩ := q
          have hP : fP w μ H := hP
          have hl : lv_has ls 7 [(0, .ref (w.2.2.1 v0)), (1, .int v1), (2, .int v2), (3, .int v3), (4, .int v4)] := hl
          have h : f_X10_loved_L44 v0 v1 v2 v3 v4 μ = some (tz44, sz44) := h
          unfold f_X10_loved_L44 at h
          have J119 : ∀ (v4 : Int32) (v5 : Int32) (μ : fMem), f_X10_loved_j119 v0 v1 v4 v5 μ = some (tz44, sz44) → WW p l e rm_X10_loved s m args below meth c (MQ below (fQi w r μr) args s 0 0 (fA w)) w μ 7 119 [] [(0, .ref (w.2.2.1 v0)), (1, .int v1), (4, .int v4), (5, .int v5)] := by
            intro v4 v5 μ  h H locs ls hP hS hl
            unfold f_X10_loved_j119 at h
            refine lv_iload hx hb dX10_loved_119 (lv_at hl 2 rfl) ?_
            refine lv_istore_n (lv' := [(2, .int v4), (0, .ref (w.2.2.1 v0)), (1, .int v1), (4, .int v4), (5, .int v5)]) hx hb dX10_loved_121 rfl hl (by decide) rfl (fun ls hl => ?_)
            refine lv_iload hx hb dX10_loved_122 (lv_at hl 4 rfl) ?_
            refine lv_istore_n (lv' := [(3, .int v5), (2, .int v4), (0, .ref (w.2.2.1 v0)), (1, .int v1), (4, .int v4), (5, .int v5)]) hx hb dX10_loved_124 rfl hl (by decide) rfl (fun ls hl => ?_)
            obtain ⟨x41, ex41⟩ : ∃ y : Int32, y = (v4 + (1 : Int32)) := ⟨_, rfl⟩
            replace h := vl_ok ex41 h
            refine lv_iinc (v := x41) (lv' := [(4, .int x41), (3, .int v5), (2, .int v4), (0, .ref (w.2.2.1 v0)), (1, .int v1), (5, .int v5)]) hx hb dX10_loved_125 hl (k := 4) rfl (by rw [ex41]; rfl) (by decide) rfl (fun ls hl => ?_)
            refine lv_goto (tgt := 44) hx hb dX10_loved_128 (by decide) ?_
            obtain ⟨rfl, rfl⟩ := leaf h
            exact hP0_44 rfl _ _ _ hP hS (lv_sub hl [3, 4, 2, 1, 0] rfl)
          refine lv_iload hx hb dX10_loved_44 (lv_at hl 4 rfl) ?_
          refine lv_aload_n hx hb dX10_loved_46 rfl (lv_at hl 0 rfl) ?_
          refine r_getRx C hP (iw hw (fi_10 hk0)) hk0 fl_X10_22 rfl (zw hw) dX10_loved_47 (fun x14 ex14 => ?_)
          replace h := vl_ok ex14 h
          obtain ⟨g15, h⟩ := gd_ok h
          refine lv_iconst (v := (2)) hx hb dX10_loved_50 (by decide) ?_
          obtain ⟨r17, μ16, h18, h⟩ := bd_ok h
          refine go_i (callV_run (As := [.int (2 : Int32)]) (rest := [.int v4]) C hl hP (hS.wide hJ).2.1 (iw hw (fi_2 g15)) g15 (m_X2_told l w hJ hw x14 (2 : Int32) g15 μ h18) mv_X10_203 ⟨rfl, rfl, by decide, by decide⟩ rfl rfl (Nat.le_of_ble_eq_true rfl) ⟨Nat.zero_le _, Nat.zero_le _⟩ dX10_loved_51) hS (fun H locs hP hS => ?_)
          refine lv_icmp_ge (tgt := 131) hx hb dX10_loved_54 (by decide) (fun c19 => ?_) (fun c19 => ?_)
          · replace h := if_t c19 h
            obtain ⟨rfl, rfl⟩ := leaf h
            exact (hK0_44 0 rfl) _ _ _ hP hS (lv_sub hl [1, 2, 3] rfl)
          · replace h := if_f c19 h
            refine lv_iconst (v := (0)) hx hb dX10_loved_57 (by decide) ?_
            refine lv_istore (lv' := [(5, .int (0 : Int32)), (0, .ref (w.2.2.1 v0)), (1, .int v1), (2, .int v2), (3, .int v3), (4, .int v4)]) hx hb dX10_loved_58 hl (by decide) rfl (fun ls hl => ?_)
            refine lv_iconst (v := (0)) hx hb dX10_loved_60 (by decide) ?_
            refine lv_istore (lv' := [(6, .int (0 : Int32)), (5, .int (0 : Int32)), (0, .ref (w.2.2.1 v0)), (1, .int v1), (2, .int v2), (3, .int v3), (4, .int v4)]) hx hb dX10_loved_61 hl (by decide) rfl (fun ls hl => ?_)
            obtain ⟨t32, q33, h40, h⟩ := bd_ok h
            refine lpn_ind (b := (fun (q : Int32 × Int32 × fMem) => f_X10_loved_L63 v0 v1 v2 v3 v4 q.1 q.2.1 q.2.2)) (P := fun (q : Int32 × Int32 × fMem) => WW p l e rm_X10_loved s m args below meth c (MQ below (fQi w r μr) args s 0 0 (fA w)) w q.2.2 7 63 [] [(0, .ref (w.2.2.1 v0)), (1, .int v1), (2, .int v2), (3, .int v3), (4, .int v4), (5, .int q.1), (6, .int q.2.1)]) (K := fun _ (q : Int32 × Int32 × fMem) => WW p l e rm_X10_loved s m args below meth c (MQ below (fQi w r μr) args s 0 0 (fA w)) w q.2.2 7 108 [] [(0, .ref (w.2.2.1 v0)), (1, .int v1), (2, .int v2), (3, .int v3), (4, .int v4), (5, .int q.1)]) ?_ fuel ((0 : Int32), (0 : Int32), μ16) t32 q33 h40 ?_ _ _ _ hP hS (lv_sub hl [2, 3, 4, 5, 6, 1, 0] rfl)
            · intro q tz63 sz63 h hP0_63 hK0_63 H locs ls hP hS hl
              obtain ⟨v5, v6, μ⟩ := q
              have hP : fP w μ H := hP
              have hl : lv_has ls 7 [(0, .ref (w.2.2.1 v0)), (1, .int v1), (2, .int v2), (3, .int v3), (4, .int v4), (5, .int v5), (6, .int v6)] := hl
              have h : f_X10_loved_L63 v0 v1 v2 v3 v4 v5 v6 μ = some (tz63, sz63) := h
              unfold f_X10_loved_L63 at h
              refine lv_iload hx hb dX10_loved_63 (lv_at hl 6 rfl) ?_
              refine lv_aload_n hx hb dX10_loved_65 rfl (lv_at hl 0 rfl) ?_
              refine r_getRx C hP (iw hw (fi_10 hk0)) hk0 fl_X10_22 rfl (zw hw) dX10_loved_66 (fun x20 ex20 => ?_)
              replace h := vl_ok ex20 h
              obtain ⟨g21, h⟩ := gd_ok h
              refine lv_iconst (v := (3)) hx hb dX10_loved_69 (by decide) ?_
              obtain ⟨r23, μ22, h24, h⟩ := bd_ok h
              refine go_i (callV_run (As := [.int (3 : Int32)]) (rest := [.int v6]) C hl hP (hS.wide hJ).2.1 (iw hw (fi_2 g21)) g21 (m_X2_told l w hJ hw x20 (3 : Int32) g21 μ h24) mv_X10_203 ⟨rfl, rfl, by decide, by decide⟩ rfl rfl (Nat.le_of_ble_eq_true rfl) ⟨Nat.zero_le _, Nat.zero_le _⟩ dX10_loved_70) hS (fun H locs hP hS => ?_)
              refine lv_icmp_ge (tgt := 108) hx hb dX10_loved_73 (by decide) (fun c25 => ?_) (fun c25 => ?_)
              · replace h := if_t c25 h
                obtain ⟨rfl, rfl⟩ := leaf h
                exact (hK0_63 0 rfl) _ _ _ hP hS (lv_sub hl [0, 1, 2, 3, 4, 5] rfl)
              · replace h := if_f c25 h
                refine lv_iload hx hb dX10_loved_76 (lv_at hl 5 rfl) ?_
                refine lv_aload_n hx hb dX10_loved_78 rfl (lv_at hl 0 rfl) ?_
                refine r_getF (off := 84) C hP (iw hw (fi_10 hk0)) hk0 fl_X10_53 rfl rfl (zw hw) dX10_loved_79 ?_
                refine lv_iload hx hb dX10_loved_82 (lv_at hl 6 rfl) ?_
                refine lv_iload hx hb dX10_loved_84 (lv_at hl 4 rfl) ?_
                refine lv_aload_n hx hb dX10_loved_86 rfl (lv_at hl 0 rfl) ?_
                refine r_getF (off := 66) C hP (iw hw (fi_10 hk0)) hk0 fl_X10_36 rfl rfl (zw hw) dX10_loved_87 ?_
                refine r_getF (off := 1) C hP (iw hw (ff_10_4 hk0).2) (ff_10_4 hk0).1 fl_X10_132 rfl rfl (zw hw) dX10_loved_90 ?_
                refine lv_iload hx hb dX10_loved_93 (lv_at hl 4 rfl) ?_
                obtain ⟨g26, h⟩ := gd_ok h
                refine r_iald C hP (iw hw (ff_7_0 (ff_10_4 hk0).1).2) (ff_7_0 (ff_10_4 hk0).1).1 g26 dX10_loved_95 ?_
                obtain ⟨r28, μ27, h29, h⟩ := bd_ok h
                refine go_i (callV_run (As := [.int v6, .int v4, .int (μ22.1 ((v0 + 66) + 1) (Int32.toNatClampNeg v4))]) (rest := [.int v5]) C hl hP (hS.wide hJ).2.1 (iw hw (ff_10_8 hk0).2) (ff_10_8 hk0).1 (m_X0_likes l w hJ hw (v0 + 84) v6 v4 (μ22.1 ((v0 + 66) + 1) (Int32.toNatClampNeg v4)) (ff_10_8 hk0).1 μ22 h29) mv_X10_193 ⟨rfl, rfl, by decide, by decide⟩ rfl rfl (Nat.le_of_ble_eq_true rfl) ⟨Nat.zero_le _, Nat.zero_le _⟩ dX10_loved_96) hS (fun H locs hP hS => ?_)
                refine lv_iadd hx hb dX10_loved_99 ?_
                refine lv_topi (fun x30 ex30 => ?_)
                replace h := vl_ok ex30 h
                refine lv_istore (lv' := [(5, .int x30), (0, .ref (w.2.2.1 v0)), (1, .int v1), (2, .int v2), (3, .int v3), (4, .int v4), (6, .int v6)]) hx hb dX10_loved_100 hl (by decide) rfl (fun ls hl => ?_)
                obtain ⟨x31, ex31⟩ : ∃ y : Int32, y = (v6 + (1 : Int32)) := ⟨_, rfl⟩
                replace h := vl_ok ex31 h
                refine lv_iinc (v := x31) (lv' := [(6, .int x31), (5, .int x30), (0, .ref (w.2.2.1 v0)), (1, .int v1), (2, .int v2), (3, .int v3), (4, .int v4)]) hx hb dX10_loved_102 hl (k := 6) rfl (by rw [ex31]; rfl) (by decide) rfl (fun ls hl => ?_)
                refine lv_goto (tgt := 63) hx hb dX10_loved_105 (by decide) ?_
                obtain ⟨rfl, rfl⟩ := leaf h
                exact hP0_63 rfl _ _ _ hP hS (lv_sub hl [2, 3, 4, 5, 6, 1, 0] rfl)
            · obtain ⟨x34, x35, μ36⟩ := q33
              intro H locs ls hP hS hl
              have hP : fP w μ36 H := hP
              have hl : lv_has ls 7 [(0, .ref (w.2.2.1 v0)), (1, .int v1), (2, .int v2), (3, .int v3), (4, .int v4), (5, .int x34)] := hl
              try dsimp only at h
              refine lv_iload_n hx hb dX10_loved_108 rfl (lv_at hl 2 rfl) ?_
              refine lv_iconst (v := (-1)) hx hb dX10_loved_109 (by decide) ?_
              refine lv_icmp_eq (tgt := 119) hx hb dX10_loved_110 (by decide) (fun c37 => ?_) (fun c37 => ?_)
              · replace h := if_t c37 h
                exact J119 v4 x34 μ36  h _ _ _ hP hS (lv_sub hl [0, 1, 4, 5] rfl)
              · replace h := if_f c37 h
                refine lv_iload hx hb dX10_loved_113 (lv_at hl 5 rfl) ?_
                refine lv_iload_n hx hb dX10_loved_115 rfl (lv_at hl 3 rfl) ?_
                refine lv_icmp_le (tgt := 125) hx hb dX10_loved_116 (by decide) (fun c38 => ?_) (fun c38 => ?_)
                · replace h := if_t c38 h
                  obtain ⟨x39, ex39⟩ : ∃ y : Int32, y = (v4 + (1 : Int32)) := ⟨_, rfl⟩
                  replace h := vl_ok ex39 h
                  refine lv_iinc (v := x39) (lv' := [(4, .int x39), (0, .ref (w.2.2.1 v0)), (1, .int v1), (2, .int v2), (3, .int v3), (5, .int x34)]) hx hb dX10_loved_125 hl (k := 4) rfl (by rw [ex39]; rfl) (by decide) rfl (fun ls hl => ?_)
                  refine lv_goto (tgt := 44) hx hb dX10_loved_128 (by decide) ?_
                  obtain ⟨rfl, rfl⟩ := leaf h
                  exact hP0_44 rfl _ _ _ hP hS (lv_sub hl [1, 2, 3, 4, 0] rfl)
                · replace h := if_f c38 h
                  exact J119 v4 x34 μ36  h _ _ _ hP hS (lv_sub hl [0, 1, 4, 5] rfl)
        · obtain ⟨x44, x45, x46, μ47⟩ := q43
          intro H locs ls hP hS hl
          have hP : fP w μ47 H := hP
          have hl : lv_has ls 7 [(1, .int v1), (2, .int x44), (3, .int x45)] := hl
          try dsimp only at h
          refine lv_iload_n hx hb dX10_loved_131 rfl (lv_at hl 0 rfl) ?_
          refine lv_if_ne (tgt := 139) hx hb dX10_loved_132 (by decide) (fun c48 => ?_) (fun c48 => ?_)
          · replace h := if_f c48 h
            refine lv_iload_n hx hb dX10_loved_139 rfl (lv_at hl 2 rfl) ?_
            exact r_iret C hr hP hS h dX10_loved_140
          · replace h := if_t c48 h
            refine lv_iload_n hx hb dX10_loved_135 rfl (lv_at hl 1 rfl) ?_
            refine lv_goto (tgt := 140) hx hb dX10_loved_136 (by decide) ?_
            exact r_iret C hr hP hS h dX10_loved_140
      · replace h := if_t c8 h
        refine lv_iconst (v := (-1)) hx hb dX10_loved_20 (by decide) ?_
        exact r_iret C hr hP hS h dX10_loved_21

def f_X10_note (v0 : Nat) (v1 : Int32) (v2 : Int32) (v3 : Int32) (v4 : Int32) (μ : fMem) : Option (Int32 × fMem) :=
  if v1 < (1 : Int32) then some ((-1 : Int32), μ) else if v1 ≤ (30 : Int32) then vl (μ.2.2 v0 2) fun x3 => gd (kd x3 = (4, 2)) (bd (f_X2_has x3 (2 : Int32) v2 μ) fun r6 μ5 => if r6 = 0 then some ((-1 : Int32), μ5) else vl (μ5.2.2 v0 2) fun x9 => gd (kd x9 = (4, 2)) (bd (f_X2_has x9 (0 : Int32) v3 μ5) fun r12 μ11 => if r12 = 0 then some ((-1 : Int32), μ11) else bd (f_X4_add (v0 + 123) v1 v2 v3 v4 μ11) fun r16 μ15 => some (r16, μ15))) else some ((-1 : Int32), μ)
def rm_X10_note : Room := { frames := 1, cells := 0, slots := 0, locals := 24 }
set_option maxHeartbeats 4000000 in
set_option maxRecDepth 100000 in
theorem m_X10_note (l : Launch) (w : fW) (hJ : fJ w) (hw : w.2.2.2 = sd 0) (v0 : Nat) (v1 : Int32) (v2 : Int32) (v3 : Int32) (v4 : Int32) (hk0 : kd v0 = (4, 10)) (μ : fMem) {r : Int32} {μr : fMem} (h : f_X10_note v0 v1 v2 v3 v4 μ = some (r, μr)) : Met l yX10_note (.code yX10_note cX10_note 5 (some .int) :: gw) rm_X10_note (fPc w [.ref (w.2.2.1 v0), .int v1, .int v2, .int v3, .int v4] μ) (fQi w r μr) 0 0 (fA w) := by
  refine met_of hJ (by decide) ?_ (Nat.le_of_ble_eq_true rfl)
  generalize ([.ref (w.2.2.1 v0), .int v1, .int v2, .int v3, .int v4] : List Value).toArray = args
  intro p e s m below meth c ls C hr hP hl hS
  obtain ⟨hx, hb, hml, hown, hts, hK, -, hlk, hT⟩ := id C
  have hl : lv_has ls 5 [(0, .ref (w.2.2.1 v0)), (1, .int v1), (2, .int v2), (3, .int v3), (4, .int v4)] := hl
  unfold f_X10_note at h
  refine lv_iload_n hx hb dX10_note_0 rfl (lv_at hl 1 rfl) ?_
  refine lv_iconst (v := (1)) hx hb dX10_note_1 (by decide) ?_
  refine lv_icmp_lt (tgt := 11) hx hb dX10_note_2 (by decide) (fun c1 => ?_) (fun c1 => ?_)
  · replace h := if_t c1 h
    refine lv_iconst (v := (-1)) hx hb dX10_note_11 (by decide) ?_
    exact r_iret C hr hP hS h dX10_note_12
  · replace h := if_f c1 h
    refine lv_iload_n hx hb dX10_note_5 rfl (lv_at hl 1 rfl) ?_
    refine lv_bipush (v := (30)) hx hb dX10_note_6 (by decide) ?_
    refine lv_icmp_le (tgt := 13) hx hb dX10_note_8 (by decide) (fun c2 => ?_) (fun c2 => ?_)
    · replace h := if_t c2 h
      refine lv_aload_n hx hb dX10_note_13 rfl (lv_at hl 0 rfl) ?_
      refine r_getRx C hP (iw hw (fi_10 hk0)) hk0 fl_X10_22 rfl (zw hw) dX10_note_14 (fun x3 ex3 => ?_)
      replace h := vl_ok ex3 h
      obtain ⟨g4, h⟩ := gd_ok h
      refine lv_iconst (v := (2)) hx hb dX10_note_17 (by decide) ?_
      refine lv_iload_n hx hb dX10_note_18 rfl (lv_at hl 2 rfl) ?_
      obtain ⟨r6, μ5, h7, h⟩ := bd_ok h
      refine go_i (callV_run (As := [.int (2 : Int32), .int v2]) (rest := []) C hl hP (hS.wide hJ).2.1 (iw hw (fi_2 g4)) g4 (m_X2_has l w hJ hw x3 (2 : Int32) v2 g4 μ h7) mv_X10_121 ⟨rfl, rfl, by decide, by decide⟩ rfl rfl (Nat.le_of_ble_eq_true rfl) ⟨Nat.zero_le _, Nat.zero_le _⟩ dX10_note_19) hS (fun H locs hP hS => ?_)
      refine lv_if_eq (tgt := 37) hx hb dX10_note_22 (by decide) (fun c8 => ?_) (fun c8 => ?_)
      · replace h := if_t c8 h
        refine lv_iconst (v := (-1)) hx hb dX10_note_37 (by decide) ?_
        exact r_iret C hr hP hS h dX10_note_38
      · replace h := if_f c8 h
        refine lv_aload_n hx hb dX10_note_25 rfl (lv_at hl 0 rfl) ?_
        refine r_getRx C hP (iw hw (fi_10 hk0)) hk0 fl_X10_22 rfl (zw hw) dX10_note_26 (fun x9 ex9 => ?_)
        replace h := vl_ok ex9 h
        obtain ⟨g10, h⟩ := gd_ok h
        refine lv_iconst (v := (0)) hx hb dX10_note_29 (by decide) ?_
        refine lv_iload_n hx hb dX10_note_30 rfl (lv_at hl 3 rfl) ?_
        obtain ⟨r12, μ11, h13, h⟩ := bd_ok h
        refine go_i (callV_run (As := [.int (0 : Int32), .int v3]) (rest := []) C hl hP (hS.wide hJ).2.1 (iw hw (fi_2 g10)) g10 (m_X2_has l w hJ hw x9 (0 : Int32) v3 g10 μ5 h13) mv_X10_121 ⟨rfl, rfl, by decide, by decide⟩ rfl rfl (Nat.le_of_ble_eq_true rfl) ⟨Nat.zero_le _, Nat.zero_le _⟩ dX10_note_31) hS (fun H locs hP hS => ?_)
        refine lv_if_ne (tgt := 39) hx hb dX10_note_34 (by decide) (fun c14 => ?_) (fun c14 => ?_)
        · replace h := if_f c14 h
          refine lv_aload_n hx hb dX10_note_39 rfl (lv_at hl 0 rfl) ?_
          refine r_getF (off := 123) C hP (iw hw (fi_10 hk0)) hk0 fl_X10_60 rfl rfl (zw hw) dX10_note_40 ?_
          refine lv_iload_n hx hb dX10_note_43 rfl (lv_at hl 1 rfl) ?_
          refine lv_iload_n hx hb dX10_note_44 rfl (lv_at hl 2 rfl) ?_
          refine lv_iload_n hx hb dX10_note_45 rfl (lv_at hl 3 rfl) ?_
          refine lv_iload hx hb dX10_note_46 (lv_at hl 4 rfl) ?_
          obtain ⟨r16, μ15, h17, h⟩ := bd_ok h
          refine go_i (callV_run (As := [.int v1, .int v2, .int v3, .int v4]) (rest := []) C hl hP (hS.wide hJ).2.1 (iw hw (ff_10_9 hk0).2) (ff_10_9 hk0).1 (m_X4_add l w hJ hw (v0 + 123) v1 v2 v3 v4 (ff_10_9 hk0).1 μ11 h17) mv_X10_316 ⟨rfl, rfl, by decide, by decide⟩ rfl rfl (Nat.le_of_ble_eq_true rfl) ⟨Nat.zero_le _, Nat.zero_le _⟩ dX10_note_48) hS (fun H locs hP hS => ?_)
          exact r_iret C hr hP hS h dX10_note_51
        · replace h := if_t c14 h
          refine lv_iconst (v := (-1)) hx hb dX10_note_37 (by decide) ?_
          exact r_iret C hr hP hS h dX10_note_38
    · replace h := if_f c2 h
      refine lv_iconst (v := (-1)) hx hb dX10_note_11 (by decide) ?_
      exact r_iret C hr hP hS h dX10_note_12

