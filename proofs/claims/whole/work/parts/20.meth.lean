def f_X11_line_j444 (v0 : Nat) (μ : fMem) : Option (Unit × fMem) :=
  vl (sI μ v0 22 ((μ.1 v0 22) + (1 : Int32))) fun μ155 => some ((), μ155)
def f_X11_line_j415 (v0 : Nat) (μ : fMem) : Option (Unit × fMem) :=
  if (μ.1 v0 28) = 0 then bd (f_X11_isSign v0 (59 : Int32) μ) fun r146 μ145 => if r146 = 0 then bd (f_X11_wrong v0 (1 : Int32) μ145) fun r153 μ152 => f_X11_line_j444 v0 μ152 else bd (f_X11_token v0 μ145) fun r150 μ149 => f_X11_line_j444 v0 μ149 else some ((), μ)
def f_X11_line_j65 (v0 : Nat) (v1 : Int32) (μ : fMem) : Option (Unit × fMem) :=
  if (μ.1 v0 28) = 0 then vl (sI μ v0 21 ((μ.1 v0 21) ||| (shl (1 : Int32) v1))) fun μ17 => bd (f_X11_token v0 μ17) fun r19 μ18 => if v1 = 0 then bd (f_X11_fresher v0 (0 : Int32) μ18) fun r23 μ22 => bd (f_X11_fresher v0 (0 : Int32) μ22) fun r26 μ25 => bd (f_X11_fresh v0 (v0 + 3) (6 : Int32) r26 μ25) fun r29 μ28 => gd (ixo ((6 : Int32) + r23) 12) (vl (sI μ28 (v0 + 3) (Int32.toNatClampNeg ((6 : Int32) + r23)) r29) fun μ31 => bd (f_X11_fresher v0 (0 : Int32) μ31) fun r34 μ33 => bd (f_X11_reads v0 (0 : Int32) (r34 + (1 : Int32)) μ33) fun r37 μ36 => f_X11_line_j415 v0 μ36) else if v1 = 1 then bd (f_X11_fresher v0 (1 : Int32) μ18) fun r41 μ40 => bd (f_X11_doorLine v0 ((9 : Int32) + r41) μ40) fun r44 μ43 => f_X11_line_j415 v0 μ43 else if v1 = 2 then bd (f_X11_fresher v0 (2 : Int32) μ18) fun r48 μ47 => vl ((8 : Int32) + r48) fun x50 => bd (f_X11_fresher v0 (2 : Int32) μ47) fun r52 μ51 => bd (f_X11_fresh v0 (v0 + 6) (8 : Int32) r52 μ51) fun r55 μ54 => gd (ixo x50 16) (vl (sI μ54 (v0 + 6) (Int32.toNatClampNeg x50) r55) fun μ57 => bd (f_X11_roomAhead v0 μ57) fun r60 μ59 => gd (ixo x50 16) (vl (sI μ59 (v0 + 7) (Int32.toNatClampNeg x50) r60) fun μ62 => bd (f_X11_numeral v0 (0 : Int32) (5 : Int32) μ62) fun r65 μ64 => gd (ixo x50 16) (vl (sI μ64 (v0 + 8) (Int32.toNatClampNeg x50) r65) fun μ67 => bd (f_X11_numeral v0 (0 : Int32) (9 : Int32) μ67) fun r70 μ69 => gd (ixo x50 16) (vl (sI μ69 (v0 + 9) (Int32.toNatClampNeg x50) r70) fun μ72 => bd (f_X11_fresher v0 (2 : Int32) μ72) fun r75 μ74 => bd (f_X11_reads v0 (2 : Int32) (r75 + (1 : Int32)) μ74) fun r78 μ77 => f_X11_line_j415 v0 μ77)))) else if v1 = 3 then bd (f_X11_fresher v0 (3 : Int32) μ18) fun r82 μ81 => vl ((6 : Int32) + r82) fun x84 => bd (f_X11_fresher v0 (3 : Int32) μ81) fun r86 μ85 => bd (f_X11_fresh v0 (v0 + 10) (6 : Int32) r86 μ85) fun r89 μ88 => gd (ixo x84 12) (vl (sI μ88 (v0 + 10) (Int32.toNatClampNeg x84) r89) fun μ91 => bd (f_X11_numeral v0 (0 : Int32) (9 : Int32) μ91) fun r94 μ93 => gd (ixo x84 12) (vl (sI μ93 (v0 + 11) (Int32.toNatClampNeg x84) r94) fun μ96 => bd (f_X11_numeral v0 (0 : Int32) (5 : Int32) μ96) fun r99 μ98 => gd (ixo x84 12) (vl (sI μ98 (v0 + 12) (Int32.toNatClampNeg x84) r99) fun μ101 => bd (f_X11_numeral v0 (0 : Int32) (1 : Int32) μ101) fun r104 μ103 => gd (ixo x84 12) (vl (sI μ103 (v0 + 13) (Int32.toNatClampNeg x84) r104) fun μ106 => bd (f_X11_numeral v0 (0 : Int32) (100 : Int32) μ106) fun r109 μ108 => gd (ixo x84 12) (vl (sI μ108 (v0 + 14) (Int32.toNatClampNeg x84) r109) fun μ111 => bd (f_X11_fresher v0 (3 : Int32) μ111) fun r114 μ113 => bd (f_X11_reads v0 (3 : Int32) (r114 + (1 : Int32)) μ113) fun r117 μ116 => f_X11_line_j415 v0 μ116))))) else if v1 = 4 then bd (f_X11_fresher v0 (4 : Int32) μ18) fun r121 μ120 => bd (f_X11_numeral v0 (0 : Int32) (99 : Int32) μ120) fun r124 μ123 => gd (ixo ((9 : Int32) + r121) 18) (vl (sI μ123 (v0 + 15) (Int32.toNatClampNeg ((9 : Int32) + r121)) r124) fun μ126 => bd (f_X11_fresher v0 (4 : Int32) μ126) fun r129 μ128 => bd (f_X11_reads v0 (4 : Int32) (r129 + (1 : Int32)) μ128) fun r132 μ131 => f_X11_line_j415 v0 μ131) else if v1 = 5 then bd (f_X11_numeral v0 (0 : Int32) (99999 : Int32) μ18) fun r136 μ135 => bd (f_X11_reads v0 (5 : Int32) r136 μ135) fun r139 μ138 => f_X11_line_j415 v0 μ138 else bd (f_X11_lawLine v0 μ18) fun r142 μ141 => f_X11_line_j415 v0 μ141 else some ((), μ)
def f_X11_line_j16 (v0 : Nat) (μ : fMem) : Option (Unit × fMem) :=
  bd (f_X11_wrong v0 (1 : Int32) μ) fun r157 μ156 => some ((), μ156)
def f_X11_line (v0 : Nat) (μ : fMem) : Option (Unit × fMem) :=
  if (μ.1 v0 26) = 0 then if (μ.1 v0 27) ≤ (6 : Int32) then vl (μ.1 v0 27) fun x3 => bd (f_X11_isFull v0 x3 μ) fun r5 μ4 => if r5 = 0 then if x3 = (5 : Int32) then if ((shr (μ4.1 v0 21) x3) &&& (1 : Int32)) = (1 : Int32) then bd (f_X11_wrong v0 (3 : Int32) μ4) fun r11 μ10 => f_X11_line_j65 v0 x3 μ10 else f_X11_line_j65 v0 x3 μ4 else f_X11_line_j65 v0 x3 μ4 else bd (f_X11_wrong v0 (2 : Int32) μ4) fun r14 μ13 => f_X11_line_j65 v0 x3 μ13 else f_X11_line_j16 v0 μ else f_X11_line_j16 v0 μ
def rm_X11_line : Room := { frames := 495, cells := 0, slots := 0, locals := 10431 }
set_option maxHeartbeats 4000000 in
set_option maxRecDepth 100000 in
theorem m_X11_line (l : Launch) (w : fW) (hJ : fJ w) (hw : w.2.2.2 = sd 1) (v0 : Nat) (hk0 : kd v0 = (4, 11)) (μ : fMem) {r : Unit} {μr : fMem} (h : f_X11_line v0 μ = some (r, μr)) : Met l yX11_line (.code yX11_line cX11_line 4 none :: gw) rm_X11_line (fPc w [.ref (w.2.2.1 v0)] μ) (fQv w μr) 0 0 (fA w) := by
  refine met_of hJ (by decide) ?_ (Nat.le_of_ble_eq_true rfl)
  generalize ([.ref (w.2.2.1 v0)] : List Value).toArray = args
  intro p e s m below meth c ls C hr hP hl hS
  obtain ⟨hx, hb, hml, hown, hts, hK, -, hlk, hT⟩ := id C
  have hl : lv_has ls 4 [(0, .ref (w.2.2.1 v0))] := hl
  unfold f_X11_line at h
  have J444 : ∀  (μ : fMem), f_X11_line_j444 v0 μ = some (r, μr) → WW p l e rm_X11_line s m args below meth c (MQ below (fQv w μr) args s 0 0 (fA w)) w μ 4 444 [] [(0, .ref (w.2.2.1 v0))] := by
    intro  μ  h H locs ls hP hS hl
    unfold f_X11_line_j444 at h
    refine lv_aload_n hx hb dX11_line_444 rfl (lv_at hl 0 rfl) ?_
    refine lv_dup hx hb dX11_line_445 rfl ?_
    refine r_getI C hP (iw hw (fi_11 hk0)) hk0 fl_X11_258 (Or.inl rfl) dX11_line_446 ?_
    refine lv_iconst (v := (1)) hx hb dX11_line_449 (by decide) ?_
    refine lv_iadd hx hb dX11_line_450 ?_
    refine r_putI C hP hS (iw hw (fi_11 hk0)) hk0 fp_X11_258 rfl dX11_line_451 (fun H locs hP hS => ?_)
    obtain ⟨μ155, eμ155, h⟩ := vl_ex h
    have hP : fP w μ155 H := by rw [eμ155]; exact hP
    exact r_vret C hr hP hS h dX11_line_454
  have J415 : ∀  (μ : fMem), f_X11_line_j415 v0 μ = some (r, μr) → WW p l e rm_X11_line s m args below meth c (MQ below (fQv w μr) args s 0 0 (fA w)) w μ 4 415 [] [(0, .ref (w.2.2.1 v0))] := by
    intro  μ  h H locs ls hP hS hl
    unfold f_X11_line_j415 at h
    refine lv_aload_n hx hb dX11_line_415 rfl (lv_at hl 0 rfl) ?_
    refine r_getI C hP (iw hw (fi_11 hk0)) hk0 fl_X11_202 (Or.inl rfl) dX11_line_416 ?_
    refine lv_if_eq (tgt := 423) hx hb dX11_line_419 (by decide) (fun c144 => ?_) (fun c144 => ?_)
    · replace h := if_t c144 h
      refine lv_aload_n hx hb dX11_line_423 rfl (lv_at hl 0 rfl) ?_
      refine lv_bipush (v := (59)) hx hb dX11_line_424 (by decide) ?_
      obtain ⟨r146, μ145, h147, h⟩ := bd_ok h
      refine go_i (callV_run (As := [.int (59 : Int32)]) (rest := []) C hl hP (hS.wide hJ).2.1 (iw hw (fi_11 hk0)) hk0 (m_X11_isSign l w hJ hw v0 (59 : Int32) hk0 μ h147) mv_X11_255 ⟨rfl, rfl, by decide, by decide⟩ rfl rfl (Nat.le_of_ble_eq_true rfl) ⟨Nat.zero_le _, Nat.zero_le _⟩ dX11_line_426) hS (fun H locs hP hS => ?_)
      refine lv_if_ne (tgt := 440) hx hb dX11_line_429 (by decide) (fun c148 => ?_) (fun c148 => ?_)
      · replace h := if_f c148 h
        refine lv_aload_n hx hb dX11_line_440 rfl (lv_at hl 0 rfl) ?_
        obtain ⟨r150, μ149, h151, h⟩ := bd_ok h
        refine go_v (callV_run (As := []) (rest := []) C hl hP (hS.wide hJ).2.1 (iw hw (fi_11 hk0)) hk0 (m_X11_token l w hJ hw v0 hk0 μ145 h151) mv_X11_208 ⟨rfl, rfl, by decide, by decide⟩ rfl rfl (Nat.le_of_ble_eq_true rfl) ⟨Nat.zero_le _, Nat.zero_le _⟩ dX11_line_441) hS (fun H locs hP hS => ?_)
        exact J444  μ149  h _ _ _ hP hS (lv_sub hl [0] rfl)
      · replace h := if_t c148 h
        refine lv_aload_n hx hb dX11_line_432 rfl (lv_at hl 0 rfl) ?_
        refine lv_iconst (v := (1)) hx hb dX11_line_433 (by decide) ?_
        obtain ⟨r153, μ152, h154, h⟩ := bd_ok h
        refine go_v (callV_run (As := [.int (1 : Int32)]) (rest := []) C hl hP (hS.wide hJ).2.1 (iw hw (fi_11 hk0)) hk0 (m_X11_wrong l w hJ hw v0 (1 : Int32) hk0 μ145 h154) mv_X11_211 ⟨rfl, rfl, by decide, by decide⟩ rfl rfl (Nat.le_of_ble_eq_true rfl) ⟨Nat.zero_le _, Nat.zero_le _⟩ dX11_line_434) hS (fun H locs hP hS => ?_)
        refine lv_goto (tgt := 444) hx hb dX11_line_437 (by decide) ?_
        exact J444  μ152  h _ _ _ hP hS (lv_sub hl [0] rfl)
    · replace h := if_f c144 h
      exact r_vret C hr hP hS h dX11_line_422
  have J65 : ∀ (v1 : Int32) (μ : fMem), f_X11_line_j65 v0 v1 μ = some (r, μr) → WW p l e rm_X11_line s m args below meth c (MQ below (fQv w μr) args s 0 0 (fA w)) w μ 4 65 [] [(0, .ref (w.2.2.1 v0)), (1, .int v1)] := by
    intro v1 μ  h H locs ls hP hS hl
    unfold f_X11_line_j65 at h
    refine lv_aload_n hx hb dX11_line_65 rfl (lv_at hl 0 rfl) ?_
    refine r_getI C hP (iw hw (fi_11 hk0)) hk0 fl_X11_202 (Or.inl rfl) dX11_line_66 ?_
    refine lv_if_eq (tgt := 73) hx hb dX11_line_69 (by decide) (fun c16 => ?_) (fun c16 => ?_)
    · replace h := if_t c16 h
      refine lv_aload_n hx hb dX11_line_73 rfl (lv_at hl 0 rfl) ?_
      refine lv_dup hx hb dX11_line_74 rfl ?_
      refine r_getI C hP (iw hw (fi_11 hk0)) hk0 fl_X11_231 (Or.inl rfl) dX11_line_75 ?_
      refine lv_iconst (v := (1)) hx hb dX11_line_78 (by decide) ?_
      refine lv_iload_n hx hb dX11_line_79 rfl (lv_at hl 1 rfl) ?_
      refine r_ishl hx hb dX11_line_80 ?_
      refine lv_ior hx hb dX11_line_81 ?_
      refine r_putI C hP hS (iw hw (fi_11 hk0)) hk0 fp_X11_231 rfl dX11_line_82 (fun H locs hP hS => ?_)
      obtain ⟨μ17, eμ17, h⟩ := vl_ex h
      have hP : fP w μ17 H := by rw [eμ17]; exact hP
      refine lv_aload_n hx hb dX11_line_85 rfl (lv_at hl 0 rfl) ?_
      obtain ⟨r19, μ18, h20, h⟩ := bd_ok h
      refine go_v (callV_run (As := []) (rest := []) C hl hP (hS.wide hJ).2.1 (iw hw (fi_11 hk0)) hk0 (m_X11_token l w hJ hw v0 hk0 μ17 h20) mv_X11_208 ⟨rfl, rfl, by decide, by decide⟩ rfl rfl (Nat.le_of_ble_eq_true rfl) ⟨Nat.zero_le _, Nat.zero_le _⟩ dX11_line_86) hS (fun H locs hP hS => ?_)
      refine lv_iload_n hx hb dX11_line_89 rfl (lv_at hl 1 rfl) ?_
      by_cases c21 : v1 = 0
      · replace h := if_t c21 h
        refine lv_tableIn (off := 38) (tgt := 128) hx hb dX11_line_90 (by rw [c21]; decide) (by rw [c21]; decide) (by rw [c21]; rfl) (by decide) ?_
        refine lv_aload_n hx hb dX11_line_128 rfl (lv_at hl 0 rfl) ?_
        refine r_getF (off := 3) C hP (iw hw (fi_11 hk0)) hk0 fl_X11_16 rfl rfl (zw hw) dX11_line_129 ?_
        refine lv_bipush (v := (6)) hx hb dX11_line_132 (by decide) ?_
        refine lv_aload_n hx hb dX11_line_134 rfl (lv_at hl 0 rfl) ?_
        refine lv_iconst (v := (0)) hx hb dX11_line_135 (by decide) ?_
        obtain ⟨r23, μ22, h24, h⟩ := bd_ok h
        refine go_i (callV_run (As := [.int (0 : Int32)]) (rest := [.int (6 : Int32), .ref (w.2.2.1 (v0 + 3))]) C hl hP (hS.wide hJ).2.1 (iw hw (fi_11 hk0)) hk0 (m_X11_fresher l w hJ hw v0 (0 : Int32) hk0 μ18 h24) mv_X11_218 ⟨rfl, rfl, by decide, by decide⟩ rfl rfl (Nat.le_of_ble_eq_true rfl) ⟨Nat.zero_le _, Nat.zero_le _⟩ dX11_line_136) hS (fun H locs hP hS => ?_)
        refine lv_iadd hx hb dX11_line_139 ?_
        refine lv_aload_n hx hb dX11_line_140 rfl (lv_at hl 0 rfl) ?_
        refine lv_aload_n hx hb dX11_line_141 rfl (lv_at hl 0 rfl) ?_
        refine r_getF (off := 3) C hP (iw hw (fi_11 hk0)) hk0 fl_X11_16 rfl rfl (zw hw) dX11_line_142 ?_
        refine lv_bipush (v := (6)) hx hb dX11_line_145 (by decide) ?_
        refine lv_aload_n hx hb dX11_line_147 rfl (lv_at hl 0 rfl) ?_
        refine lv_iconst (v := (0)) hx hb dX11_line_148 (by decide) ?_
        obtain ⟨r26, μ25, h27, h⟩ := bd_ok h
        refine go_i (callV_run (As := [.int (0 : Int32)]) (rest := [.int (6 : Int32), .ref (w.2.2.1 (v0 + 3)), .ref (w.2.2.1 v0), .int ((6 : Int32) + r23), .ref (w.2.2.1 (v0 + 3))]) C hl hP (hS.wide hJ).2.1 (iw hw (fi_11 hk0)) hk0 (m_X11_fresher l w hJ hw v0 (0 : Int32) hk0 μ22 h27) mv_X11_218 ⟨rfl, rfl, by decide, by decide⟩ rfl rfl (Nat.le_of_ble_eq_true rfl) ⟨Nat.zero_le _, Nat.zero_le _⟩ dX11_line_149) hS (fun H locs hP hS => ?_)
        obtain ⟨r29, μ28, h30, h⟩ := bd_ok h
        refine go_i (callV_run (As := [.ref (w.2.2.1 (v0 + 3)), .int (6 : Int32), .int r26]) (rest := [.int ((6 : Int32) + r23), .ref (w.2.2.1 (v0 + 3))]) C hl hP (hS.wide hJ).2.1 (iw hw (fi_11 hk0)) hk0 (m_X11_fresh l w hJ hw v0 (v0 + 3) (6 : Int32) r26 hk0 (karr (ff_11_4 hk0).1) (iw hw (ff_11_4 hk0).2) μ25 h30) mv_X11_234 ⟨rfl, rfl, by decide, by decide⟩ rfl rfl (Nat.le_of_ble_eq_true rfl) ⟨Nat.zero_le _, Nat.zero_le _⟩ dX11_line_152) hS (fun H locs hP hS => ?_)
        obtain ⟨g32, h⟩ := gd_ok h
        refine r_iast C hP hS (iw hw (ff_11_4 hk0).2) (ff_11_4 hk0).1 g32 dX11_line_155 (fun H locs hP hS => ?_)
        obtain ⟨μ31, eμ31, h⟩ := vl_ex h
        have hP : fP w μ31 H := by rw [eμ31]; exact hP
        refine lv_aload_n hx hb dX11_line_156 rfl (lv_at hl 0 rfl) ?_
        refine lv_iconst (v := (0)) hx hb dX11_line_157 (by decide) ?_
        refine lv_aload_n hx hb dX11_line_158 rfl (lv_at hl 0 rfl) ?_
        refine lv_iconst (v := (0)) hx hb dX11_line_159 (by decide) ?_
        obtain ⟨r34, μ33, h35, h⟩ := bd_ok h
        refine go_i (callV_run (As := [.int (0 : Int32)]) (rest := [.int (0 : Int32), .ref (w.2.2.1 v0)]) C hl hP (hS.wide hJ).2.1 (iw hw (fi_11 hk0)) hk0 (m_X11_fresher l w hJ hw v0 (0 : Int32) hk0 μ31 h35) mv_X11_218 ⟨rfl, rfl, by decide, by decide⟩ rfl rfl (Nat.le_of_ble_eq_true rfl) ⟨Nat.zero_le _, Nat.zero_le _⟩ dX11_line_160) hS (fun H locs hP hS => ?_)
        refine lv_iconst (v := (1)) hx hb dX11_line_163 (by decide) ?_
        refine lv_iadd hx hb dX11_line_164 ?_
        obtain ⟨r37, μ36, h38, h⟩ := bd_ok h
        refine go_v (callV_run (As := [.int (0 : Int32), .int (r34 + (1 : Int32))]) (rest := []) C hl hP (hS.wide hJ).2.1 (iw hw (fi_11 hk0)) hk0 (m_X11_reads l w hJ hw v0 (0 : Int32) (r34 + (1 : Int32)) hk0 μ33 h38) mv_X11_238 ⟨rfl, rfl, by decide, by decide⟩ rfl rfl (Nat.le_of_ble_eq_true rfl) ⟨Nat.zero_le _, Nat.zero_le _⟩ dX11_line_165) hS (fun H locs hP hS => ?_)
        refine lv_goto (tgt := 415) hx hb dX11_line_168 (by decide) ?_
        exact J415  μ36  h _ _ _ hP hS (lv_sub hl [0] rfl)
      replace h := if_f c21 h
      by_cases c39 : v1 = 1
      · replace h := if_t c39 h
        refine lv_tableIn (off := 81) (tgt := 171) hx hb dX11_line_90 (by rw [c39]; decide) (by rw [c39]; decide) (by rw [c39]; rfl) (by decide) ?_
        refine lv_aload_n hx hb dX11_line_171 rfl (lv_at hl 0 rfl) ?_
        refine lv_bipush (v := (9)) hx hb dX11_line_172 (by decide) ?_
        refine lv_aload_n hx hb dX11_line_174 rfl (lv_at hl 0 rfl) ?_
        refine lv_iconst (v := (1)) hx hb dX11_line_175 (by decide) ?_
        obtain ⟨r41, μ40, h42, h⟩ := bd_ok h
        refine go_i (callV_run (As := [.int (1 : Int32)]) (rest := [.int (9 : Int32), .ref (w.2.2.1 v0)]) C hl hP (hS.wide hJ).2.1 (iw hw (fi_11 hk0)) hk0 (m_X11_fresher l w hJ hw v0 (1 : Int32) hk0 μ18 h42) mv_X11_218 ⟨rfl, rfl, by decide, by decide⟩ rfl rfl (Nat.le_of_ble_eq_true rfl) ⟨Nat.zero_le _, Nat.zero_le _⟩ dX11_line_176) hS (fun H locs hP hS => ?_)
        refine lv_iadd hx hb dX11_line_179 ?_
        obtain ⟨r44, μ43, h45, h⟩ := bd_ok h
        refine go_v (callV_run (As := [.int ((9 : Int32) + r41)]) (rest := []) C hl hP (hS.wide hJ).2.1 (iw hw (fi_11 hk0)) hk0 (m_X11_doorLine l w hJ hw v0 ((9 : Int32) + r41) hk0 μ40 h45) mv_X11_242 ⟨rfl, rfl, by decide, by decide⟩ rfl rfl (Nat.le_of_ble_eq_true rfl) ⟨Nat.zero_le _, Nat.zero_le _⟩ dX11_line_180) hS (fun H locs hP hS => ?_)
        refine lv_goto (tgt := 415) hx hb dX11_line_183 (by decide) ?_
        exact J415  μ43  h _ _ _ hP hS (lv_sub hl [0] rfl)
      replace h := if_f c39 h
      by_cases c46 : v1 = 2
      · replace h := if_t c46 h
        refine lv_tableIn (off := 96) (tgt := 186) hx hb dX11_line_90 (by rw [c46]; decide) (by rw [c46]; decide) (by rw [c46]; rfl) (by decide) ?_
        refine lv_bipush (v := (8)) hx hb dX11_line_186 (by decide) ?_
        refine lv_aload_n hx hb dX11_line_188 rfl (lv_at hl 0 rfl) ?_
        refine lv_iconst (v := (2)) hx hb dX11_line_189 (by decide) ?_
        obtain ⟨r48, μ47, h49, h⟩ := bd_ok h
        refine go_i (callV_run (As := [.int (2 : Int32)]) (rest := [.int (8 : Int32)]) C hl hP (hS.wide hJ).2.1 (iw hw (fi_11 hk0)) hk0 (m_X11_fresher l w hJ hw v0 (2 : Int32) hk0 μ18 h49) mv_X11_218 ⟨rfl, rfl, by decide, by decide⟩ rfl rfl (Nat.le_of_ble_eq_true rfl) ⟨Nat.zero_le _, Nat.zero_le _⟩ dX11_line_190) hS (fun H locs hP hS => ?_)
        refine lv_iadd hx hb dX11_line_193 ?_
        refine lv_topi (fun x50 ex50 => ?_)
        replace h := vl_ok ex50 h
        refine lv_istore_n (lv' := [(2, .int x50), (0, .ref (w.2.2.1 v0)), (1, .int v1)]) hx hb dX11_line_194 rfl hl (by decide) rfl (fun ls hl => ?_)
        refine lv_aload_n hx hb dX11_line_195 rfl (lv_at hl 1 rfl) ?_
        refine r_getF (off := 6) C hP (iw hw (fi_11 hk0)) hk0 fl_X11_25 rfl rfl (zw hw) dX11_line_196 ?_
        refine lv_iload_n hx hb dX11_line_199 rfl (lv_at hl 0 rfl) ?_
        refine lv_aload_n hx hb dX11_line_200 rfl (lv_at hl 1 rfl) ?_
        refine lv_aload_n hx hb dX11_line_201 rfl (lv_at hl 1 rfl) ?_
        refine r_getF (off := 6) C hP (iw hw (fi_11 hk0)) hk0 fl_X11_25 rfl rfl (zw hw) dX11_line_202 ?_
        refine lv_bipush (v := (8)) hx hb dX11_line_205 (by decide) ?_
        refine lv_aload_n hx hb dX11_line_207 rfl (lv_at hl 1 rfl) ?_
        refine lv_iconst (v := (2)) hx hb dX11_line_208 (by decide) ?_
        obtain ⟨r52, μ51, h53, h⟩ := bd_ok h
        refine go_i (callV_run (As := [.int (2 : Int32)]) (rest := [.int (8 : Int32), .ref (w.2.2.1 (v0 + 6)), .ref (w.2.2.1 v0), .int x50, .ref (w.2.2.1 (v0 + 6))]) C hl hP (hS.wide hJ).2.1 (iw hw (fi_11 hk0)) hk0 (m_X11_fresher l w hJ hw v0 (2 : Int32) hk0 μ47 h53) mv_X11_218 ⟨rfl, rfl, by decide, by decide⟩ rfl rfl (Nat.le_of_ble_eq_true rfl) ⟨Nat.zero_le _, Nat.zero_le _⟩ dX11_line_209) hS (fun H locs hP hS => ?_)
        obtain ⟨r55, μ54, h56, h⟩ := bd_ok h
        refine go_i (callV_run (As := [.ref (w.2.2.1 (v0 + 6)), .int (8 : Int32), .int r52]) (rest := [.int x50, .ref (w.2.2.1 (v0 + 6))]) C hl hP (hS.wide hJ).2.1 (iw hw (fi_11 hk0)) hk0 (m_X11_fresh l w hJ hw v0 (v0 + 6) (8 : Int32) r52 hk0 (karr (ff_11_7 hk0).1) (iw hw (ff_11_7 hk0).2) μ51 h56) mv_X11_234 ⟨rfl, rfl, by decide, by decide⟩ rfl rfl (Nat.le_of_ble_eq_true rfl) ⟨Nat.zero_le _, Nat.zero_le _⟩ dX11_line_212) hS (fun H locs hP hS => ?_)
        obtain ⟨g58, h⟩ := gd_ok h
        refine r_iast C hP hS (iw hw (ff_11_7 hk0).2) (ff_11_7 hk0).1 g58 dX11_line_215 (fun H locs hP hS => ?_)
        obtain ⟨μ57, eμ57, h⟩ := vl_ex h
        have hP : fP w μ57 H := by rw [eμ57]; exact hP
        refine lv_aload_n hx hb dX11_line_216 rfl (lv_at hl 1 rfl) ?_
        refine r_getF (off := 7) C hP (iw hw (fi_11 hk0)) hk0 fl_X11_28 rfl rfl (zw hw) dX11_line_217 ?_
        refine lv_iload_n hx hb dX11_line_220 rfl (lv_at hl 0 rfl) ?_
        refine lv_aload_n hx hb dX11_line_221 rfl (lv_at hl 1 rfl) ?_
        obtain ⟨r60, μ59, h61, h⟩ := bd_ok h
        refine go_i (callV_run (As := []) (rest := [.int x50, .ref (w.2.2.1 (v0 + 7))]) C hl hP (hS.wide hJ).2.1 (iw hw (fi_11 hk0)) hk0 (m_X11_roomAhead l w hJ hw v0 hk0 μ57 h61) mv_X11_245 ⟨rfl, rfl, by decide, by decide⟩ rfl rfl (Nat.le_of_ble_eq_true rfl) ⟨Nat.zero_le _, Nat.zero_le _⟩ dX11_line_222) hS (fun H locs hP hS => ?_)
        obtain ⟨g63, h⟩ := gd_ok h
        refine r_iast C hP hS (iw hw (ff_11_8 hk0).2) (ff_11_8 hk0).1 g63 dX11_line_225 (fun H locs hP hS => ?_)
        obtain ⟨μ62, eμ62, h⟩ := vl_ex h
        have hP : fP w μ62 H := by rw [eμ62]; exact hP
        refine lv_aload_n hx hb dX11_line_226 rfl (lv_at hl 1 rfl) ?_
        refine r_getF (off := 8) C hP (iw hw (fi_11 hk0)) hk0 fl_X11_31 rfl rfl (zw hw) dX11_line_227 ?_
        refine lv_iload_n hx hb dX11_line_230 rfl (lv_at hl 0 rfl) ?_
        refine lv_aload_n hx hb dX11_line_231 rfl (lv_at hl 1 rfl) ?_
        refine lv_iconst (v := (0)) hx hb dX11_line_232 (by decide) ?_
        refine lv_iconst (v := (5)) hx hb dX11_line_233 (by decide) ?_
        obtain ⟨r65, μ64, h66, h⟩ := bd_ok h
        refine go_i (callV_run (As := [.int (0 : Int32), .int (5 : Int32)]) (rest := [.int x50, .ref (w.2.2.1 (v0 + 8))]) C hl hP (hS.wide hJ).2.1 (iw hw (fi_11 hk0)) hk0 (m_X11_numeral l w hJ hw v0 (0 : Int32) (5 : Int32) hk0 μ62 h66) mv_X11_248 ⟨rfl, rfl, by decide, by decide⟩ rfl rfl (Nat.le_of_ble_eq_true rfl) ⟨Nat.zero_le _, Nat.zero_le _⟩ dX11_line_234) hS (fun H locs hP hS => ?_)
        obtain ⟨g68, h⟩ := gd_ok h
        refine r_iast C hP hS (iw hw (ff_11_9 hk0).2) (ff_11_9 hk0).1 g68 dX11_line_237 (fun H locs hP hS => ?_)
        obtain ⟨μ67, eμ67, h⟩ := vl_ex h
        have hP : fP w μ67 H := by rw [eμ67]; exact hP
        refine lv_aload_n hx hb dX11_line_238 rfl (lv_at hl 1 rfl) ?_
        refine r_getF (off := 9) C hP (iw hw (fi_11 hk0)) hk0 fl_X11_34 rfl rfl (zw hw) dX11_line_239 ?_
        refine lv_iload_n hx hb dX11_line_242 rfl (lv_at hl 0 rfl) ?_
        refine lv_aload_n hx hb dX11_line_243 rfl (lv_at hl 1 rfl) ?_
        refine lv_iconst (v := (0)) hx hb dX11_line_244 (by decide) ?_
        refine lv_bipush (v := (9)) hx hb dX11_line_245 (by decide) ?_
        obtain ⟨r70, μ69, h71, h⟩ := bd_ok h
        refine go_i (callV_run (As := [.int (0 : Int32), .int (9 : Int32)]) (rest := [.int x50, .ref (w.2.2.1 (v0 + 9))]) C hl hP (hS.wide hJ).2.1 (iw hw (fi_11 hk0)) hk0 (m_X11_numeral l w hJ hw v0 (0 : Int32) (9 : Int32) hk0 μ67 h71) mv_X11_248 ⟨rfl, rfl, by decide, by decide⟩ rfl rfl (Nat.le_of_ble_eq_true rfl) ⟨Nat.zero_le _, Nat.zero_le _⟩ dX11_line_247) hS (fun H locs hP hS => ?_)
        obtain ⟨g73, h⟩ := gd_ok h
        refine r_iast C hP hS (iw hw (ff_11_10 hk0).2) (ff_11_10 hk0).1 g73 dX11_line_250 (fun H locs hP hS => ?_)
        obtain ⟨μ72, eμ72, h⟩ := vl_ex h
        have hP : fP w μ72 H := by rw [eμ72]; exact hP
        refine lv_aload_n hx hb dX11_line_251 rfl (lv_at hl 1 rfl) ?_
        refine lv_iconst (v := (2)) hx hb dX11_line_252 (by decide) ?_
        refine lv_aload_n hx hb dX11_line_253 rfl (lv_at hl 1 rfl) ?_
        refine lv_iconst (v := (2)) hx hb dX11_line_254 (by decide) ?_
        obtain ⟨r75, μ74, h76, h⟩ := bd_ok h
        refine go_i (callV_run (As := [.int (2 : Int32)]) (rest := [.int (2 : Int32), .ref (w.2.2.1 v0)]) C hl hP (hS.wide hJ).2.1 (iw hw (fi_11 hk0)) hk0 (m_X11_fresher l w hJ hw v0 (2 : Int32) hk0 μ72 h76) mv_X11_218 ⟨rfl, rfl, by decide, by decide⟩ rfl rfl (Nat.le_of_ble_eq_true rfl) ⟨Nat.zero_le _, Nat.zero_le _⟩ dX11_line_255) hS (fun H locs hP hS => ?_)
        refine lv_iconst (v := (1)) hx hb dX11_line_258 (by decide) ?_
        refine lv_iadd hx hb dX11_line_259 ?_
        obtain ⟨r78, μ77, h79, h⟩ := bd_ok h
        refine go_v (callV_run (As := [.int (2 : Int32), .int (r75 + (1 : Int32))]) (rest := []) C hl hP (hS.wide hJ).2.1 (iw hw (fi_11 hk0)) hk0 (m_X11_reads l w hJ hw v0 (2 : Int32) (r75 + (1 : Int32)) hk0 μ74 h79) mv_X11_238 ⟨rfl, rfl, by decide, by decide⟩ rfl rfl (Nat.le_of_ble_eq_true rfl) ⟨Nat.zero_le _, Nat.zero_le _⟩ dX11_line_260) hS (fun H locs hP hS => ?_)
        refine lv_goto (tgt := 415) hx hb dX11_line_263 (by decide) ?_
        exact J415  μ77  h _ _ _ hP hS (lv_sub hl [1] rfl)
      replace h := if_f c46 h
      by_cases c80 : v1 = 3
      · replace h := if_t c80 h
        refine lv_tableIn (off := 176) (tgt := 266) hx hb dX11_line_90 (by rw [c80]; decide) (by rw [c80]; decide) (by rw [c80]; rfl) (by decide) ?_
        refine lv_bipush (v := (6)) hx hb dX11_line_266 (by decide) ?_
        refine lv_aload_n hx hb dX11_line_268 rfl (lv_at hl 0 rfl) ?_
        refine lv_iconst (v := (3)) hx hb dX11_line_269 (by decide) ?_
        obtain ⟨r82, μ81, h83, h⟩ := bd_ok h
        refine go_i (callV_run (As := [.int (3 : Int32)]) (rest := [.int (6 : Int32)]) C hl hP (hS.wide hJ).2.1 (iw hw (fi_11 hk0)) hk0 (m_X11_fresher l w hJ hw v0 (3 : Int32) hk0 μ18 h83) mv_X11_218 ⟨rfl, rfl, by decide, by decide⟩ rfl rfl (Nat.le_of_ble_eq_true rfl) ⟨Nat.zero_le _, Nat.zero_le _⟩ dX11_line_270) hS (fun H locs hP hS => ?_)
        refine lv_iadd hx hb dX11_line_273 ?_
        refine lv_topi (fun x84 ex84 => ?_)
        replace h := vl_ok ex84 h
        refine lv_istore_n (lv' := [(3, .int x84), (0, .ref (w.2.2.1 v0)), (1, .int v1)]) hx hb dX11_line_274 rfl hl (by decide) rfl (fun ls hl => ?_)
        refine lv_aload_n hx hb dX11_line_275 rfl (lv_at hl 1 rfl) ?_
        refine r_getF (off := 10) C hP (iw hw (fi_11 hk0)) hk0 fl_X11_37 rfl rfl (zw hw) dX11_line_276 ?_
        refine lv_iload_n hx hb dX11_line_279 rfl (lv_at hl 0 rfl) ?_
        refine lv_aload_n hx hb dX11_line_280 rfl (lv_at hl 1 rfl) ?_
        refine lv_aload_n hx hb dX11_line_281 rfl (lv_at hl 1 rfl) ?_
        refine r_getF (off := 10) C hP (iw hw (fi_11 hk0)) hk0 fl_X11_37 rfl rfl (zw hw) dX11_line_282 ?_
        refine lv_bipush (v := (6)) hx hb dX11_line_285 (by decide) ?_
        refine lv_aload_n hx hb dX11_line_287 rfl (lv_at hl 1 rfl) ?_
        refine lv_iconst (v := (3)) hx hb dX11_line_288 (by decide) ?_
        obtain ⟨r86, μ85, h87, h⟩ := bd_ok h
        refine go_i (callV_run (As := [.int (3 : Int32)]) (rest := [.int (6 : Int32), .ref (w.2.2.1 (v0 + 10)), .ref (w.2.2.1 v0), .int x84, .ref (w.2.2.1 (v0 + 10))]) C hl hP (hS.wide hJ).2.1 (iw hw (fi_11 hk0)) hk0 (m_X11_fresher l w hJ hw v0 (3 : Int32) hk0 μ81 h87) mv_X11_218 ⟨rfl, rfl, by decide, by decide⟩ rfl rfl (Nat.le_of_ble_eq_true rfl) ⟨Nat.zero_le _, Nat.zero_le _⟩ dX11_line_289) hS (fun H locs hP hS => ?_)
        obtain ⟨r89, μ88, h90, h⟩ := bd_ok h
        refine go_i (callV_run (As := [.ref (w.2.2.1 (v0 + 10)), .int (6 : Int32), .int r86]) (rest := [.int x84, .ref (w.2.2.1 (v0 + 10))]) C hl hP (hS.wide hJ).2.1 (iw hw (fi_11 hk0)) hk0 (m_X11_fresh l w hJ hw v0 (v0 + 10) (6 : Int32) r86 hk0 (karr (ff_11_11 hk0).1) (iw hw (ff_11_11 hk0).2) μ85 h90) mv_X11_234 ⟨rfl, rfl, by decide, by decide⟩ rfl rfl (Nat.le_of_ble_eq_true rfl) ⟨Nat.zero_le _, Nat.zero_le _⟩ dX11_line_292) hS (fun H locs hP hS => ?_)
        obtain ⟨g92, h⟩ := gd_ok h
        refine r_iast C hP hS (iw hw (ff_11_11 hk0).2) (ff_11_11 hk0).1 g92 dX11_line_295 (fun H locs hP hS => ?_)
        obtain ⟨μ91, eμ91, h⟩ := vl_ex h
        have hP : fP w μ91 H := by rw [eμ91]; exact hP
        refine lv_aload_n hx hb dX11_line_296 rfl (lv_at hl 1 rfl) ?_
        refine r_getF (off := 11) C hP (iw hw (fi_11 hk0)) hk0 fl_X11_40 rfl rfl (zw hw) dX11_line_297 ?_
        refine lv_iload_n hx hb dX11_line_300 rfl (lv_at hl 0 rfl) ?_
        refine lv_aload_n hx hb dX11_line_301 rfl (lv_at hl 1 rfl) ?_
        refine lv_iconst (v := (0)) hx hb dX11_line_302 (by decide) ?_
        refine lv_bipush (v := (9)) hx hb dX11_line_303 (by decide) ?_
        obtain ⟨r94, μ93, h95, h⟩ := bd_ok h
        refine go_i (callV_run (As := [.int (0 : Int32), .int (9 : Int32)]) (rest := [.int x84, .ref (w.2.2.1 (v0 + 11))]) C hl hP (hS.wide hJ).2.1 (iw hw (fi_11 hk0)) hk0 (m_X11_numeral l w hJ hw v0 (0 : Int32) (9 : Int32) hk0 μ91 h95) mv_X11_248 ⟨rfl, rfl, by decide, by decide⟩ rfl rfl (Nat.le_of_ble_eq_true rfl) ⟨Nat.zero_le _, Nat.zero_le _⟩ dX11_line_305) hS (fun H locs hP hS => ?_)
        obtain ⟨g97, h⟩ := gd_ok h
        refine r_iast C hP hS (iw hw (ff_11_12 hk0).2) (ff_11_12 hk0).1 g97 dX11_line_308 (fun H locs hP hS => ?_)
        obtain ⟨μ96, eμ96, h⟩ := vl_ex h
        have hP : fP w μ96 H := by rw [eμ96]; exact hP
        refine lv_aload_n hx hb dX11_line_309 rfl (lv_at hl 1 rfl) ?_
        refine r_getF (off := 12) C hP (iw hw (fi_11 hk0)) hk0 fl_X11_43 rfl rfl (zw hw) dX11_line_310 ?_
        refine lv_iload_n hx hb dX11_line_313 rfl (lv_at hl 0 rfl) ?_
        refine lv_aload_n hx hb dX11_line_314 rfl (lv_at hl 1 rfl) ?_
        refine lv_iconst (v := (0)) hx hb dX11_line_315 (by decide) ?_
        refine lv_iconst (v := (5)) hx hb dX11_line_316 (by decide) ?_
        obtain ⟨r99, μ98, h100, h⟩ := bd_ok h
        refine go_i (callV_run (As := [.int (0 : Int32), .int (5 : Int32)]) (rest := [.int x84, .ref (w.2.2.1 (v0 + 12))]) C hl hP (hS.wide hJ).2.1 (iw hw (fi_11 hk0)) hk0 (m_X11_numeral l w hJ hw v0 (0 : Int32) (5 : Int32) hk0 μ96 h100) mv_X11_248 ⟨rfl, rfl, by decide, by decide⟩ rfl rfl (Nat.le_of_ble_eq_true rfl) ⟨Nat.zero_le _, Nat.zero_le _⟩ dX11_line_317) hS (fun H locs hP hS => ?_)
        obtain ⟨g102, h⟩ := gd_ok h
        refine r_iast C hP hS (iw hw (ff_11_13 hk0).2) (ff_11_13 hk0).1 g102 dX11_line_320 (fun H locs hP hS => ?_)
        obtain ⟨μ101, eμ101, h⟩ := vl_ex h
        have hP : fP w μ101 H := by rw [eμ101]; exact hP
        refine lv_aload_n hx hb dX11_line_321 rfl (lv_at hl 1 rfl) ?_
        refine r_getF (off := 13) C hP (iw hw (fi_11 hk0)) hk0 fl_X11_46 rfl rfl (zw hw) dX11_line_322 ?_
        refine lv_iload_n hx hb dX11_line_325 rfl (lv_at hl 0 rfl) ?_
        refine lv_aload_n hx hb dX11_line_326 rfl (lv_at hl 1 rfl) ?_
        refine lv_iconst (v := (0)) hx hb dX11_line_327 (by decide) ?_
        refine lv_iconst (v := (1)) hx hb dX11_line_328 (by decide) ?_
        obtain ⟨r104, μ103, h105, h⟩ := bd_ok h
        refine go_i (callV_run (As := [.int (0 : Int32), .int (1 : Int32)]) (rest := [.int x84, .ref (w.2.2.1 (v0 + 13))]) C hl hP (hS.wide hJ).2.1 (iw hw (fi_11 hk0)) hk0 (m_X11_numeral l w hJ hw v0 (0 : Int32) (1 : Int32) hk0 μ101 h105) mv_X11_248 ⟨rfl, rfl, by decide, by decide⟩ rfl rfl (Nat.le_of_ble_eq_true rfl) ⟨Nat.zero_le _, Nat.zero_le _⟩ dX11_line_329) hS (fun H locs hP hS => ?_)
        obtain ⟨g107, h⟩ := gd_ok h
        refine r_iast C hP hS (iw hw (ff_11_14 hk0).2) (ff_11_14 hk0).1 g107 dX11_line_332 (fun H locs hP hS => ?_)
        obtain ⟨μ106, eμ106, h⟩ := vl_ex h
        have hP : fP w μ106 H := by rw [eμ106]; exact hP
        refine lv_aload_n hx hb dX11_line_333 rfl (lv_at hl 1 rfl) ?_
        refine r_getF (off := 14) C hP (iw hw (fi_11 hk0)) hk0 fl_X11_49 rfl rfl (zw hw) dX11_line_334 ?_
        refine lv_iload_n hx hb dX11_line_337 rfl (lv_at hl 0 rfl) ?_
        refine lv_aload_n hx hb dX11_line_338 rfl (lv_at hl 1 rfl) ?_
        refine lv_iconst (v := (0)) hx hb dX11_line_339 (by decide) ?_
        refine lv_bipush (v := (100)) hx hb dX11_line_340 (by decide) ?_
        obtain ⟨r109, μ108, h110, h⟩ := bd_ok h
        refine go_i (callV_run (As := [.int (0 : Int32), .int (100 : Int32)]) (rest := [.int x84, .ref (w.2.2.1 (v0 + 14))]) C hl hP (hS.wide hJ).2.1 (iw hw (fi_11 hk0)) hk0 (m_X11_numeral l w hJ hw v0 (0 : Int32) (100 : Int32) hk0 μ106 h110) mv_X11_248 ⟨rfl, rfl, by decide, by decide⟩ rfl rfl (Nat.le_of_ble_eq_true rfl) ⟨Nat.zero_le _, Nat.zero_le _⟩ dX11_line_342) hS (fun H locs hP hS => ?_)
        obtain ⟨g112, h⟩ := gd_ok h
        refine r_iast C hP hS (iw hw (ff_11_15 hk0).2) (ff_11_15 hk0).1 g112 dX11_line_345 (fun H locs hP hS => ?_)
        obtain ⟨μ111, eμ111, h⟩ := vl_ex h
        have hP : fP w μ111 H := by rw [eμ111]; exact hP
        refine lv_aload_n hx hb dX11_line_346 rfl (lv_at hl 1 rfl) ?_
        refine lv_iconst (v := (3)) hx hb dX11_line_347 (by decide) ?_
        refine lv_aload_n hx hb dX11_line_348 rfl (lv_at hl 1 rfl) ?_
        refine lv_iconst (v := (3)) hx hb dX11_line_349 (by decide) ?_
        obtain ⟨r114, μ113, h115, h⟩ := bd_ok h
        refine go_i (callV_run (As := [.int (3 : Int32)]) (rest := [.int (3 : Int32), .ref (w.2.2.1 v0)]) C hl hP (hS.wide hJ).2.1 (iw hw (fi_11 hk0)) hk0 (m_X11_fresher l w hJ hw v0 (3 : Int32) hk0 μ111 h115) mv_X11_218 ⟨rfl, rfl, by decide, by decide⟩ rfl rfl (Nat.le_of_ble_eq_true rfl) ⟨Nat.zero_le _, Nat.zero_le _⟩ dX11_line_350) hS (fun H locs hP hS => ?_)
        refine lv_iconst (v := (1)) hx hb dX11_line_353 (by decide) ?_
        refine lv_iadd hx hb dX11_line_354 ?_
        obtain ⟨r117, μ116, h118, h⟩ := bd_ok h
        refine go_v (callV_run (As := [.int (3 : Int32), .int (r114 + (1 : Int32))]) (rest := []) C hl hP (hS.wide hJ).2.1 (iw hw (fi_11 hk0)) hk0 (m_X11_reads l w hJ hw v0 (3 : Int32) (r114 + (1 : Int32)) hk0 μ113 h118) mv_X11_238 ⟨rfl, rfl, by decide, by decide⟩ rfl rfl (Nat.le_of_ble_eq_true rfl) ⟨Nat.zero_le _, Nat.zero_le _⟩ dX11_line_355) hS (fun H locs hP hS => ?_)
        refine lv_goto (tgt := 415) hx hb dX11_line_358 (by decide) ?_
        exact J415  μ116  h _ _ _ hP hS (lv_sub hl [1] rfl)
      replace h := if_f c80 h
      by_cases c119 : v1 = 4
      · replace h := if_t c119 h
        refine lv_tableIn (off := 271) (tgt := 361) hx hb dX11_line_90 (by rw [c119]; decide) (by rw [c119]; decide) (by rw [c119]; rfl) (by decide) ?_
        refine lv_aload_n hx hb dX11_line_361 rfl (lv_at hl 0 rfl) ?_
        refine r_getF (off := 15) C hP (iw hw (fi_11 hk0)) hk0 fl_X11_52 rfl rfl (zw hw) dX11_line_362 ?_
        refine lv_bipush (v := (9)) hx hb dX11_line_365 (by decide) ?_
        refine lv_aload_n hx hb dX11_line_367 rfl (lv_at hl 0 rfl) ?_
        refine lv_iconst (v := (4)) hx hb dX11_line_368 (by decide) ?_
        obtain ⟨r121, μ120, h122, h⟩ := bd_ok h
        refine go_i (callV_run (As := [.int (4 : Int32)]) (rest := [.int (9 : Int32), .ref (w.2.2.1 (v0 + 15))]) C hl hP (hS.wide hJ).2.1 (iw hw (fi_11 hk0)) hk0 (m_X11_fresher l w hJ hw v0 (4 : Int32) hk0 μ18 h122) mv_X11_218 ⟨rfl, rfl, by decide, by decide⟩ rfl rfl (Nat.le_of_ble_eq_true rfl) ⟨Nat.zero_le _, Nat.zero_le _⟩ dX11_line_369) hS (fun H locs hP hS => ?_)
        refine lv_iadd hx hb dX11_line_372 ?_
        refine lv_aload_n hx hb dX11_line_373 rfl (lv_at hl 0 rfl) ?_
        refine lv_iconst (v := (0)) hx hb dX11_line_374 (by decide) ?_
        refine lv_bipush (v := (99)) hx hb dX11_line_375 (by decide) ?_
        obtain ⟨r124, μ123, h125, h⟩ := bd_ok h
        refine go_i (callV_run (As := [.int (0 : Int32), .int (99 : Int32)]) (rest := [.int ((9 : Int32) + r121), .ref (w.2.2.1 (v0 + 15))]) C hl hP (hS.wide hJ).2.1 (iw hw (fi_11 hk0)) hk0 (m_X11_numeral l w hJ hw v0 (0 : Int32) (99 : Int32) hk0 μ120 h125) mv_X11_248 ⟨rfl, rfl, by decide, by decide⟩ rfl rfl (Nat.le_of_ble_eq_true rfl) ⟨Nat.zero_le _, Nat.zero_le _⟩ dX11_line_377) hS (fun H locs hP hS => ?_)
        obtain ⟨g127, h⟩ := gd_ok h
        refine r_iast C hP hS (iw hw (ff_11_16 hk0).2) (ff_11_16 hk0).1 g127 dX11_line_380 (fun H locs hP hS => ?_)
        obtain ⟨μ126, eμ126, h⟩ := vl_ex h
        have hP : fP w μ126 H := by rw [eμ126]; exact hP
        refine lv_aload_n hx hb dX11_line_381 rfl (lv_at hl 0 rfl) ?_
        refine lv_iconst (v := (4)) hx hb dX11_line_382 (by decide) ?_
        refine lv_aload_n hx hb dX11_line_383 rfl (lv_at hl 0 rfl) ?_
        refine lv_iconst (v := (4)) hx hb dX11_line_384 (by decide) ?_
        obtain ⟨r129, μ128, h130, h⟩ := bd_ok h
        refine go_i (callV_run (As := [.int (4 : Int32)]) (rest := [.int (4 : Int32), .ref (w.2.2.1 v0)]) C hl hP (hS.wide hJ).2.1 (iw hw (fi_11 hk0)) hk0 (m_X11_fresher l w hJ hw v0 (4 : Int32) hk0 μ126 h130) mv_X11_218 ⟨rfl, rfl, by decide, by decide⟩ rfl rfl (Nat.le_of_ble_eq_true rfl) ⟨Nat.zero_le _, Nat.zero_le _⟩ dX11_line_385) hS (fun H locs hP hS => ?_)
        refine lv_iconst (v := (1)) hx hb dX11_line_388 (by decide) ?_
        refine lv_iadd hx hb dX11_line_389 ?_
        obtain ⟨r132, μ131, h133, h⟩ := bd_ok h
        refine go_v (callV_run (As := [.int (4 : Int32), .int (r129 + (1 : Int32))]) (rest := []) C hl hP (hS.wide hJ).2.1 (iw hw (fi_11 hk0)) hk0 (m_X11_reads l w hJ hw v0 (4 : Int32) (r129 + (1 : Int32)) hk0 μ128 h133) mv_X11_238 ⟨rfl, rfl, by decide, by decide⟩ rfl rfl (Nat.le_of_ble_eq_true rfl) ⟨Nat.zero_le _, Nat.zero_le _⟩ dX11_line_390) hS (fun H locs hP hS => ?_)
        refine lv_goto (tgt := 415) hx hb dX11_line_393 (by decide) ?_
        exact J415  μ131  h _ _ _ hP hS (lv_sub hl [0] rfl)
      replace h := if_f c119 h
      by_cases c134 : v1 = 5
      · replace h := if_t c134 h
        refine lv_tableIn (off := 306) (tgt := 396) hx hb dX11_line_90 (by rw [c134]; decide) (by rw [c134]; decide) (by rw [c134]; rfl) (by decide) ?_
        refine lv_aload_n hx hb dX11_line_396 rfl (lv_at hl 0 rfl) ?_
        refine lv_iconst (v := (5)) hx hb dX11_line_397 (by decide) ?_
        refine lv_aload_n hx hb dX11_line_398 rfl (lv_at hl 0 rfl) ?_
        refine lv_iconst (v := (0)) hx hb dX11_line_399 (by decide) ?_
        refine lv_ldc hx hb hown (hts _ ct_X11_186) dX11_line_400 ?_
        obtain ⟨r136, μ135, h137, h⟩ := bd_ok h
        refine go_i (callV_run (As := [.int (0 : Int32), .int (99999 : Int32)]) (rest := [.int (5 : Int32), .ref (w.2.2.1 v0)]) C hl hP (hS.wide hJ).2.1 (iw hw (fi_11 hk0)) hk0 (m_X11_numeral l w hJ hw v0 (0 : Int32) (99999 : Int32) hk0 μ18 h137) mv_X11_248 ⟨rfl, rfl, by decide, by decide⟩ rfl rfl (Nat.le_of_ble_eq_true rfl) ⟨Nat.zero_le _, Nat.zero_le _⟩ dX11_line_402) hS (fun H locs hP hS => ?_)
        obtain ⟨r139, μ138, h140, h⟩ := bd_ok h
        refine go_v (callV_run (As := [.int (5 : Int32), .int r136]) (rest := []) C hl hP (hS.wide hJ).2.1 (iw hw (fi_11 hk0)) hk0 (m_X11_reads l w hJ hw v0 (5 : Int32) r136 hk0 μ135 h140) mv_X11_238 ⟨rfl, rfl, by decide, by decide⟩ rfl rfl (Nat.le_of_ble_eq_true rfl) ⟨Nat.zero_le _, Nat.zero_le _⟩ dX11_line_405) hS (fun H locs hP hS => ?_)
        refine lv_goto (tgt := 415) hx hb dX11_line_408 (by decide) ?_
        exact J415  μ138  h _ _ _ hP hS (lv_sub hl [0] rfl)
      replace h := if_f c134 h
      have ho : Int32.toInt v1 < 0 ∨ 5 < Int32.toInt v1 := tb_out _ _ _ (fun v h1 h2 => by
        rcases (show v = 0 ∨ v = 1 ∨ v = 2 ∨ v = 3 ∨ v = 4 ∨ v = 5 by omega) with rfl | rfl | rfl | rfl | rfl | rfl
        · exact c21
        · exact c39
        · exact c46
        · exact c80
        · exact c119
        · exact c134)
      refine lv_tableOut (tgt := 411) hx hb dX11_line_90 ho (by decide) ?_
      refine lv_aload_n hx hb dX11_line_411 rfl (lv_at hl 0 rfl) ?_
      obtain ⟨r142, μ141, h143, h⟩ := bd_ok h
      refine go_v (callV_run (As := []) (rest := []) C hl hP (hS.wide hJ).2.1 (iw hw (fi_11 hk0)) hk0 (m_X11_lawLine l w hJ hw v0 hk0 μ18 h143) mv_X11_252 ⟨rfl, rfl, by decide, by decide⟩ rfl rfl (Nat.le_of_ble_eq_true rfl) ⟨Nat.zero_le _, Nat.zero_le _⟩ dX11_line_412) hS (fun H locs hP hS => ?_)
      exact J415  μ141  h _ _ _ hP hS (lv_sub hl [0] rfl)
    · replace h := if_f c16 h
      exact r_vret C hr hP hS h dX11_line_72
  have J16 : ∀  (μ : fMem), f_X11_line_j16 v0 μ = some (r, μr) → WW p l e rm_X11_line s m args below meth c (MQ below (fQv w μr) args s 0 0 (fA w)) w μ 4 16 [] [(0, .ref (w.2.2.1 v0))] := by
    intro  μ  h H locs ls hP hS hl
    unfold f_X11_line_j16 at h
    refine lv_aload_n hx hb dX11_line_16 rfl (lv_at hl 0 rfl) ?_
    refine lv_iconst (v := (1)) hx hb dX11_line_17 (by decide) ?_
    obtain ⟨r157, μ156, h158, h⟩ := bd_ok h
    refine go_v (callV_run (As := [.int (1 : Int32)]) (rest := []) C hl hP (hS.wide hJ).2.1 (iw hw (fi_11 hk0)) hk0 (m_X11_wrong l w hJ hw v0 (1 : Int32) hk0 μ h158) mv_X11_211 ⟨rfl, rfl, by decide, by decide⟩ rfl rfl (Nat.le_of_ble_eq_true rfl) ⟨Nat.zero_le _, Nat.zero_le _⟩ dX11_line_18) hS (fun H locs hP hS => ?_)
    exact r_vret C hr hP hS h dX11_line_21
  refine lv_aload_n hx hb dX11_line_0 rfl (lv_at hl 0 rfl) ?_
  refine r_getI C hP (iw hw (fi_11 hk0)) hk0 fl_X11_167 (Or.inl rfl) dX11_line_1 ?_
  refine lv_if_ne (tgt := 16) hx hb dX11_line_4 (by decide) (fun c1 => ?_) (fun c1 => ?_)
  · replace h := if_f c1 h
    exact J16  μ  h _ _ _ hP hS (lv_sub hl [0] rfl)
  · replace h := if_t c1 h
    refine lv_aload_n hx hb dX11_line_7 rfl (lv_at hl 0 rfl) ?_
    refine r_getI C hP (iw hw (fi_11 hk0)) hk0 fl_X11_177 (Or.inl rfl) dX11_line_8 ?_
    refine lv_bipush (v := (6)) hx hb dX11_line_11 (by decide) ?_
    refine lv_icmp_le (tgt := 22) hx hb dX11_line_13 (by decide) (fun c2 => ?_) (fun c2 => ?_)
    · replace h := if_t c2 h
      refine lv_aload_n hx hb dX11_line_22 rfl (lv_at hl 0 rfl) ?_
      refine r_getI C hP (iw hw (fi_11 hk0)) hk0 fl_X11_177 (Or.inl rfl) dX11_line_23 ?_
      refine lv_topi (fun x3 ex3 => ?_)
      replace h := vl_ok ex3 h
      refine lv_istore_n (lv' := [(1, .int x3), (0, .ref (w.2.2.1 v0))]) hx hb dX11_line_26 rfl hl (by decide) rfl (fun ls hl => ?_)
      refine lv_aload_n hx hb dX11_line_27 rfl (lv_at hl 1 rfl) ?_
      refine lv_iload_n hx hb dX11_line_28 rfl (lv_at hl 0 rfl) ?_
      obtain ⟨r5, μ4, h6, h⟩ := bd_ok h
      refine go_i (callV_run (As := [.int x3]) (rest := []) C hl hP (hS.wide hJ).2.1 (iw hw (fi_11 hk0)) hk0 (m_X11_isFull l w hJ hw v0 x3 hk0 μ h6) mv_X11_228 ⟨rfl, rfl, by decide, by decide⟩ rfl rfl (Nat.le_of_ble_eq_true rfl) ⟨Nat.zero_le _, Nat.zero_le _⟩ dX11_line_29) hS (fun H locs hP hS => ?_)
      refine lv_if_eq (tgt := 43) hx hb dX11_line_32 (by decide) (fun c7 => ?_) (fun c7 => ?_)
      · replace h := if_t c7 h
        refine lv_iload_n hx hb dX11_line_43 rfl (lv_at hl 0 rfl) ?_
        refine lv_iconst (v := (5)) hx hb dX11_line_44 (by decide) ?_
        refine lv_icmp_ne (tgt := 65) hx hb dX11_line_45 (by decide) (fun c8 => ?_) (fun c8 => ?_)
        · replace h := if_f c8 h
          exact J65 x3 μ4  h _ _ _ hP hS (lv_sub hl [1, 0] rfl)
        · replace h := if_t c8 h
          refine lv_aload_n hx hb dX11_line_48 rfl (lv_at hl 1 rfl) ?_
          refine r_getI C hP (iw hw (fi_11 hk0)) hk0 fl_X11_231 (Or.inl rfl) dX11_line_49 ?_
          refine lv_iload_n hx hb dX11_line_52 rfl (lv_at hl 0 rfl) ?_
          refine r_ishr hx hb dX11_line_53 ?_
          refine lv_iconst (v := (1)) hx hb dX11_line_54 (by decide) ?_
          refine lv_iand hx hb dX11_line_55 ?_
          refine lv_iconst (v := (1)) hx hb dX11_line_56 (by decide) ?_
          refine lv_icmp_ne (tgt := 65) hx hb dX11_line_57 (by decide) (fun c9 => ?_) (fun c9 => ?_)
          · replace h := if_f c9 h
            exact J65 x3 μ4  h _ _ _ hP hS (lv_sub hl [1, 0] rfl)
          · replace h := if_t c9 h
            refine lv_aload_n hx hb dX11_line_60 rfl (lv_at hl 1 rfl) ?_
            refine lv_iconst (v := (3)) hx hb dX11_line_61 (by decide) ?_
            obtain ⟨r11, μ10, h12, h⟩ := bd_ok h
            refine go_v (callV_run (As := [.int (3 : Int32)]) (rest := []) C hl hP (hS.wide hJ).2.1 (iw hw (fi_11 hk0)) hk0 (m_X11_wrong l w hJ hw v0 (3 : Int32) hk0 μ4 h12) mv_X11_211 ⟨rfl, rfl, by decide, by decide⟩ rfl rfl (Nat.le_of_ble_eq_true rfl) ⟨Nat.zero_le _, Nat.zero_le _⟩ dX11_line_62) hS (fun H locs hP hS => ?_)
            exact J65 x3 μ10  h _ _ _ hP hS (lv_sub hl [1, 0] rfl)
      · replace h := if_f c7 h
        refine lv_aload_n hx hb dX11_line_35 rfl (lv_at hl 1 rfl) ?_
        refine lv_iconst (v := (2)) hx hb dX11_line_36 (by decide) ?_
        obtain ⟨r14, μ13, h15, h⟩ := bd_ok h
        refine go_v (callV_run (As := [.int (2 : Int32)]) (rest := []) C hl hP (hS.wide hJ).2.1 (iw hw (fi_11 hk0)) hk0 (m_X11_wrong l w hJ hw v0 (2 : Int32) hk0 μ4 h15) mv_X11_211 ⟨rfl, rfl, by decide, by decide⟩ rfl rfl (Nat.le_of_ble_eq_true rfl) ⟨Nat.zero_le _, Nat.zero_le _⟩ dX11_line_37) hS (fun H locs hP hS => ?_)
        refine lv_goto (tgt := 65) hx hb dX11_line_40 (by decide) ?_
        exact J65 x3 μ13  h _ _ _ hP hS (lv_sub hl [1, 0] rfl)
    · replace h := if_f c2 h
      exact J16  μ  h _ _ _ hP hS (lv_sub hl [0] rfl)

def f_X11_half_L7 (v0 : Nat) (x1 : Int32) (v2 : Int32) (μ : fMem) : Option (Nat × (Int32 × fMem)) :=
  if x1 ≤ v2 then some (1, (v2, μ)) else gd (ixo (x1 + v2) (kd v0).2) (gd (ixo v2 (kd v0).2) (vl (sI μ v0 (Int32.toNatClampNeg v2) (μ.1 v0 (Int32.toNatClampNeg (x1 + v2)))) fun μ4 => vl (v2 + (1 : Int32)) fun x6 => some (0, (x6, μ4))))
def f_X11_half (v0 : Nat) (μ : fMem) : Option (Unit × fMem) :=
  vl ((Int32.ofNat (kd v0).2) / (2 : Int32)) fun x1 => bd (lpn (fun (q : Int32 × fMem) => f_X11_half_L7 v0 x1 q.1 q.2) fuel ((0 : Int32), μ)) fun t7 q8 => (fun (x9 : Int32) (μ10 : fMem) => some ((), μ10)) q8.1 q8.2
def rm_X11_half : Room := { frames := 0, cells := 0, slots := 0, locals := 0 }
set_option maxHeartbeats 4000000 in
set_option maxRecDepth 100000 in
theorem m_X11_half (l : Launch) (w : fW) (hJ : fJ w) (hw : w.2.2.2 = sd 1) (v0 : Nat) (hk0 : kd v0 = (0, (kd v0).2)) (hi0 : inW w.2.2.2 v0) (μ : fMem) {r : Unit} {μr : fMem} (h : f_X11_half v0 μ = some (r, μr)) : Met l yX11_half (.code yX11_half cX11_half 3 none :: gw) rm_X11_half (fPc w [.ref (w.2.2.1 v0)] μ) (fQv w μr) 0 0 (fA w) := by
  refine met_of hJ (by decide) ?_ (Nat.le_of_ble_eq_true rfl)
  generalize ([.ref (w.2.2.1 v0)] : List Value).toArray = args
  intro p e s m below meth c ls C hr hP hl hS
  obtain ⟨hx, hb, hml, hown, hts, hK, -, hlk, hT⟩ := id C
  have hl : lv_has ls 3 [(0, .ref (w.2.2.1 v0))] := hl
  unfold f_X11_half at h
  refine lv_aload_n hx hb dX11_half_0 rfl (lv_at hl 0 rfl) ?_
  refine r_alen C hP hi0 (Or.inl hk0) rfl dX11_half_1 ?_
  refine lv_iconst (v := (2)) hx hb dX11_half_2 (by decide) ?_
  refine lv_idiv hx hb dX11_half_3 (by decide) ?_
  refine lv_topi (fun x1 ex1 => ?_)
  replace h := vl_ok ex1 h
  refine lv_istore_n (lv' := [(1, .int x1), (0, .ref (w.2.2.1 v0))]) hx hb dX11_half_4 rfl hl (by decide) rfl (fun ls hl => ?_)
  refine lv_iconst (v := (0)) hx hb dX11_half_5 (by decide) ?_
  refine lv_istore_n (lv' := [(2, .int (0 : Int32)), (1, .int x1), (0, .ref (w.2.2.1 v0))]) hx hb dX11_half_6 rfl hl (by decide) rfl (fun ls hl => ?_)
  obtain ⟨t7, q8, h11, h⟩ := bd_ok h
  refine lpn_ind (b := (fun (q : Int32 × fMem) => f_X11_half_L7 v0 x1 q.1 q.2)) (P := fun (q : Int32 × fMem) => WW p l e rm_X11_half s m args below meth c (MQ below (fQv w μr) args s 0 0 (fA w)) w q.2 3 7 [] [(0, .ref (w.2.2.1 v0)), (1, .int x1), (2, .int q.1)]) (K := fun _ (q : Int32 × fMem) => WW p l e rm_X11_half s m args below meth c (MQ below (fQv w μr) args s 0 0 (fA w)) w q.2 3 26 [] []) ?_ fuel ((0 : Int32), μ) t7 q8 h11 ?_ _ _ _ hP hS (lv_sub hl [2, 1, 0] rfl)
  · intro q tz7 sz7 h hP0_7 hK0_7 H locs ls hP hS hl
    obtain ⟨v2, μ⟩ := q
    have hP : fP w μ H := hP
    have hl : lv_has ls 3 [(0, .ref (w.2.2.1 v0)), (1, .int x1), (2, .int v2)] := hl
    have h : f_X11_half_L7 v0 x1 v2 μ = some (tz7, sz7) := h
    unfold f_X11_half_L7 at h
    refine lv_iload_n hx hb dX11_half_7 rfl (lv_at hl 2 rfl) ?_
    refine lv_iload_n hx hb dX11_half_8 rfl (lv_at hl 1 rfl) ?_
    refine lv_icmp_ge (tgt := 26) hx hb dX11_half_9 (by decide) (fun c2 => ?_) (fun c2 => ?_)
    · replace h := if_t c2 h
      obtain ⟨rfl, rfl⟩ := leaf h
      exact (hK0_7 0 rfl) _ _ _ hP hS (lv_sub hl [] rfl)
    · replace h := if_f c2 h
      refine lv_aload_n hx hb dX11_half_12 rfl (lv_at hl 0 rfl) ?_
      refine lv_iload_n hx hb dX11_half_13 rfl (lv_at hl 2 rfl) ?_
      refine lv_aload_n hx hb dX11_half_14 rfl (lv_at hl 0 rfl) ?_
      refine lv_iload_n hx hb dX11_half_15 rfl (lv_at hl 1 rfl) ?_
      refine lv_iload_n hx hb dX11_half_16 rfl (lv_at hl 2 rfl) ?_
      refine lv_iadd hx hb dX11_half_17 ?_
      obtain ⟨g3, h⟩ := gd_ok h
      refine r_iald C hP hi0 hk0 g3 dX11_half_18 ?_
      obtain ⟨g5, h⟩ := gd_ok h
      refine r_iast C hP hS hi0 hk0 g5 dX11_half_19 (fun H locs hP hS => ?_)
      obtain ⟨μ4, eμ4, h⟩ := vl_ex h
      have hP : fP w μ4 H := by rw [eμ4]; exact hP
      obtain ⟨x6, ex6⟩ : ∃ y : Int32, y = (v2 + (1 : Int32)) := ⟨_, rfl⟩
      replace h := vl_ok ex6 h
      refine lv_iinc (v := x6) (lv' := [(2, .int x6), (0, .ref (w.2.2.1 v0)), (1, .int x1)]) hx hb dX11_half_20 hl (k := 2) rfl (by rw [ex6]; rfl) (by decide) rfl (fun ls hl => ?_)
      refine lv_goto (tgt := 7) hx hb dX11_half_23 (by decide) ?_
      obtain ⟨rfl, rfl⟩ := leaf h
      exact hP0_7 rfl _ _ _ hP hS (lv_sub hl [1, 2, 0] rfl)
  · obtain ⟨x9, μ10⟩ := q8
    intro H locs ls hP hS hl
    have hP : fP w μ10 H := hP
    have hl : lv_has ls 3 [] := hl
    try dsimp only at h
    exact r_vret C hr hP hS h dX11_half_26

def f_X11_starts_j64 (v0 : Nat) (v1 : Int32) (v2 : Int32) (t0 : Nat) (t1 : Int32) (t2 : Int32) (μ : fMem) : Option (Nat × (Int32 × fMem)) :=
  gd (ixo t1 184) (vl (sI μ t0 (Int32.toNatClampNeg t1) t2) fun μ10 => gd (ixo (((8 : Int32) * v1) + v2) 184) (vl (sI μ10 (v0 + 26) (Int32.toNatClampNeg (((8 : Int32) * v1) + v2)) (0 : Int32)) fun μ12 => gd (ixo (((8 : Int32) * v1) + v2) 184) (vl (sI μ12 (v0 + 27) (Int32.toNatClampNeg (((8 : Int32) * v1) + v2)) (0 : Int32)) fun μ14 => vl (v2 + (1 : Int32)) fun x16 => some (0, (x16, μ14)))))
def f_X11_starts_L28 (v0 : Nat) (v1 : Int32) (v2 : Int32) (μ : fMem) : Option (Nat × (Int32 × fMem)) :=
  if (8 : Int32) ≤ v2 then some (1, (v2, μ)) else if (μ.1 (v0 + 2) 2) ≤ v2 then f_X11_starts_j64 v0 v1 v2 (v0 + 25) (((8 : Int32) * v1) + v2) (0 : Int32) μ else gd (ixo v2 16) (f_X11_starts_j64 v0 v1 v2 (v0 + 25) (((8 : Int32) * v1) + v2) (μ.1 (v0 + 7) (Int32.toNatClampNeg v2)) μ)
def f_X11_starts_L97 (v0 : Nat) (v1 : Int32) (v2 : Int32) (μ : fMem) : Option (Nat × (Int32 × fMem)) :=
  if (6 : Int32) ≤ v2 then some (1, (v2, μ)) else gd (ixo (((6 : Int32) * v1) + v2) 138) (vl (sI μ (v0 + 28) (Int32.toNatClampNeg (((6 : Int32) * v1) + v2)) (0 : Int32)) fun μ22 => gd (ixo (((6 : Int32) * v1) + v2) 138) (vl (sI μ22 (v0 + 29) (Int32.toNatClampNeg (((6 : Int32) * v1) + v2)) (0 : Int32)) fun μ24 => vl (v2 + (1 : Int32)) fun x26 => some (0, (x26, μ24))))
def f_X11_starts (v0 : Nat) (v1 : Int32) (μ : fMem) : Option (Unit × fMem) :=
  gd (ixo v1 23) (vl (sI μ (v0 + 22) (Int32.toNatClampNeg v1) (0 : Int32)) fun μ1 => gd (ixo v1 23) (vl (sI μ1 (v0 + 23) (Int32.toNatClampNeg v1) (μ1.1 (v0 + 2) 5)) fun μ3 => gd (ixo v1 23) (vl (sI μ3 (v0 + 24) (Int32.toNatClampNeg v1) (0 : Int32)) fun μ5 => bd (lpn (fun (q : Int32 × fMem) => f_X11_starts_L28 v0 v1 q.1 q.2) fuel ((0 : Int32), μ5)) fun t17 q18 => (fun (x19 : Int32) (μ20 : fMem) => bd (lpn (fun (q : Int32 × fMem) => f_X11_starts_L97 v0 v1 q.1 q.2) fuel ((0 : Int32), μ20)) fun t27 q28 => (fun (x29 : Int32) (μ30 : fMem) => some ((), μ30)) q28.1 q28.2) q18.1 q18.2)))
def rm_X11_starts : Room := { frames := 0, cells := 0, slots := 0, locals := 0 }
set_option maxHeartbeats 4000000 in
set_option maxRecDepth 100000 in
theorem m_X11_starts (l : Launch) (w : fW) (hJ : fJ w) (hw : w.2.2.2 = sd 1) (v0 : Nat) (v1 : Int32) (hk0 : kd v0 = (4, 11)) (μ : fMem) {r : Unit} {μr : fMem} (h : f_X11_starts v0 v1 μ = some (r, μr)) : Met l yX11_starts (.code yX11_starts cX11_starts 3 none :: gw) rm_X11_starts (fPc w [.ref (w.2.2.1 v0), .int v1] μ) (fQv w μr) 0 0 (fA w) := by
  refine met_of hJ (by decide) ?_ (Nat.le_of_ble_eq_true rfl)
  generalize ([.ref (w.2.2.1 v0), .int v1] : List Value).toArray = args
  intro p e s m below meth c ls C hr hP hl hS
  obtain ⟨hx, hb, hml, hown, hts, hK, -, hlk, hT⟩ := id C
  have hl : lv_has ls 3 [(0, .ref (w.2.2.1 v0)), (1, .int v1)] := hl
  unfold f_X11_starts at h
  refine lv_aload_n hx hb dX11_starts_0 rfl (lv_at hl 0 rfl) ?_
  refine r_getF (off := 22) C hP (iw hw (fi_11 hk0)) hk0 fl_X11_78 rfl rfl (zw hw) dX11_starts_1 ?_
  refine lv_iload_n hx hb dX11_starts_4 rfl (lv_at hl 1 rfl) ?_
  refine lv_iconst (v := (0)) hx hb dX11_starts_5 (by decide) ?_
  obtain ⟨g2, h⟩ := gd_ok h
  refine r_iast C hP hS (iw hw (ff_11_37 hk0).2) (ff_11_37 hk0).1 g2 dX11_starts_6 (fun H locs hP hS => ?_)
  obtain ⟨μ1, eμ1, h⟩ := vl_ex h
  have hP : fP w μ1 H := by rw [eμ1]; exact hP
  refine lv_aload_n hx hb dX11_starts_7 rfl (lv_at hl 0 rfl) ?_
  refine r_getF (off := 23) C hP (iw hw (fi_11 hk0)) hk0 fl_X11_81 rfl rfl (zw hw) dX11_starts_8 ?_
  refine lv_iload_n hx hb dX11_starts_11 rfl (lv_at hl 1 rfl) ?_
  refine lv_aload_n hx hb dX11_starts_12 rfl (lv_at hl 0 rfl) ?_
  refine r_getF (off := 2) C hP (iw hw (fi_11 hk0)) hk0 fl_X11_13 rfl rfl (zw hw) dX11_starts_13 ?_
  refine lv_iconst (v := (5)) hx hb dX11_starts_16 (by decide) ?_
  refine n_iald (j := 5) C hP (iw hw (ff_11_3 hk0).2) (ff_11_3 hk0).1 (by decide) (by decide) dX11_starts_17 ?_
  obtain ⟨g4, h⟩ := gd_ok h
  refine r_iast C hP hS (iw hw (ff_11_38 hk0).2) (ff_11_38 hk0).1 g4 dX11_starts_18 (fun H locs hP hS => ?_)
  obtain ⟨μ3, eμ3, h⟩ := vl_ex h
  have hP : fP w μ3 H := by rw [eμ3]; exact hP
  refine lv_aload_n hx hb dX11_starts_19 rfl (lv_at hl 0 rfl) ?_
  refine r_getF (off := 24) C hP (iw hw (fi_11 hk0)) hk0 fl_X11_84 rfl rfl (zw hw) dX11_starts_20 ?_
  refine lv_iload_n hx hb dX11_starts_23 rfl (lv_at hl 1 rfl) ?_
  refine lv_iconst (v := (0)) hx hb dX11_starts_24 (by decide) ?_
  obtain ⟨g6, h⟩ := gd_ok h
  refine r_iast C hP hS (iw hw (ff_11_39 hk0).2) (ff_11_39 hk0).1 g6 dX11_starts_25 (fun H locs hP hS => ?_)
  obtain ⟨μ5, eμ5, h⟩ := vl_ex h
  have hP : fP w μ5 H := by rw [eμ5]; exact hP
  refine lv_iconst (v := (0)) hx hb dX11_starts_26 (by decide) ?_
  refine lv_istore_n (lv' := [(2, .int (0 : Int32)), (0, .ref (w.2.2.1 v0)), (1, .int v1)]) hx hb dX11_starts_27 rfl hl (by decide) rfl (fun ls hl => ?_)
  obtain ⟨t17, q18, h32, h⟩ := bd_ok h
  refine lpn_ind (b := (fun (q : Int32 × fMem) => f_X11_starts_L28 v0 v1 q.1 q.2)) (P := fun (q : Int32 × fMem) => WW p l e rm_X11_starts s m args below meth c (MQ below (fQv w μr) args s 0 0 (fA w)) w q.2 3 28 [] [(0, .ref (w.2.2.1 v0)), (1, .int v1), (2, .int q.1)]) (K := fun _ (q : Int32 × fMem) => WW p l e rm_X11_starts s m args below meth c (MQ below (fQv w μr) args s 0 0 (fA w)) w q.2 3 95 [] [(0, .ref (w.2.2.1 v0)), (1, .int v1)]) ?_ fuel ((0 : Int32), μ5) t17 q18 h32 ?_ _ _ _ hP hS (lv_sub hl [1, 2, 0] rfl)
  · intro q tz28 sz28 h hP0_28 hK0_28 H locs ls hP hS hl
    obtain ⟨v2, μ⟩ := q
    have hP : fP w μ H := hP
    have hl : lv_has ls 3 [(0, .ref (w.2.2.1 v0)), (1, .int v1), (2, .int v2)] := hl
    have h : f_X11_starts_L28 v0 v1 v2 μ = some (tz28, sz28) := h
    unfold f_X11_starts_L28 at h
    have J64 : ∀ (v2 : Int32) (t0 : Nat) (t1 : Int32) (t2 : Int32) (μ : fMem) (_ : kd t0 = (0, 184)) (_ : inW w.2.2.2 t0), f_X11_starts_j64 v0 v1 v2 t0 t1 t2 μ = some (tz28, sz28) → WW p l e rm_X11_starts s m args below meth c (MQ below (fQv w μr) args s 0 0 (fA w)) w μ 3 64 [.int t2, .int t1, .ref (w.2.2.1 t0)] [(0, .ref (w.2.2.1 v0)), (1, .int v1), (2, .int v2)] := by
      intro v2 t0 t1 t2 μ kt0 it0 h H locs ls hP hS hl
      unfold f_X11_starts_j64 at h
      obtain ⟨g11, h⟩ := gd_ok h
      refine r_iast C hP hS it0 kt0 g11 dX11_starts_64 (fun H locs hP hS => ?_)
      obtain ⟨μ10, eμ10, h⟩ := vl_ex h
      have hP : fP w μ10 H := by rw [eμ10]; exact hP
      refine lv_aload_n hx hb dX11_starts_65 rfl (lv_at hl 0 rfl) ?_
      refine r_getF (off := 26) C hP (iw hw (fi_11 hk0)) hk0 fl_X11_90 rfl rfl (zw hw) dX11_starts_66 ?_
      refine lv_bipush (v := (8)) hx hb dX11_starts_69 (by decide) ?_
      refine lv_iload_n hx hb dX11_starts_71 rfl (lv_at hl 1 rfl) ?_
      refine lv_imul hx hb dX11_starts_72 ?_
      refine lv_iload_n hx hb dX11_starts_73 rfl (lv_at hl 2 rfl) ?_
      refine lv_iadd hx hb dX11_starts_74 ?_
      refine lv_iconst (v := (0)) hx hb dX11_starts_75 (by decide) ?_
      obtain ⟨g13, h⟩ := gd_ok h
      refine r_iast C hP hS (iw hw (ff_11_41 hk0).2) (ff_11_41 hk0).1 g13 dX11_starts_76 (fun H locs hP hS => ?_)
      obtain ⟨μ12, eμ12, h⟩ := vl_ex h
      have hP : fP w μ12 H := by rw [eμ12]; exact hP
      refine lv_aload_n hx hb dX11_starts_77 rfl (lv_at hl 0 rfl) ?_
      refine r_getF (off := 27) C hP (iw hw (fi_11 hk0)) hk0 fl_X11_93 rfl rfl (zw hw) dX11_starts_78 ?_
      refine lv_bipush (v := (8)) hx hb dX11_starts_81 (by decide) ?_
      refine lv_iload_n hx hb dX11_starts_83 rfl (lv_at hl 1 rfl) ?_
      refine lv_imul hx hb dX11_starts_84 ?_
      refine lv_iload_n hx hb dX11_starts_85 rfl (lv_at hl 2 rfl) ?_
      refine lv_iadd hx hb dX11_starts_86 ?_
      refine lv_iconst (v := (0)) hx hb dX11_starts_87 (by decide) ?_
      obtain ⟨g15, h⟩ := gd_ok h
      refine r_iast C hP hS (iw hw (ff_11_42 hk0).2) (ff_11_42 hk0).1 g15 dX11_starts_88 (fun H locs hP hS => ?_)
      obtain ⟨μ14, eμ14, h⟩ := vl_ex h
      have hP : fP w μ14 H := by rw [eμ14]; exact hP
      obtain ⟨x16, ex16⟩ : ∃ y : Int32, y = (v2 + (1 : Int32)) := ⟨_, rfl⟩
      replace h := vl_ok ex16 h
      refine lv_iinc (v := x16) (lv' := [(2, .int x16), (0, .ref (w.2.2.1 v0)), (1, .int v1)]) hx hb dX11_starts_89 hl (k := 2) rfl (by rw [ex16]; rfl) (by decide) rfl (fun ls hl => ?_)
      refine lv_goto (tgt := 28) hx hb dX11_starts_92 (by decide) ?_
      obtain ⟨rfl, rfl⟩ := leaf h
      exact hP0_28 rfl _ _ _ hP hS (lv_sub hl [1, 2, 0] rfl)
    refine lv_iload_n hx hb dX11_starts_28 rfl (lv_at hl 2 rfl) ?_
    refine lv_bipush (v := (8)) hx hb dX11_starts_29 (by decide) ?_
    refine lv_icmp_ge (tgt := 95) hx hb dX11_starts_31 (by decide) (fun c7 => ?_) (fun c7 => ?_)
    · replace h := if_t c7 h
      obtain ⟨rfl, rfl⟩ := leaf h
      exact (hK0_28 0 rfl) _ _ _ hP hS (lv_sub hl [0, 1] rfl)
    · replace h := if_f c7 h
      refine lv_aload_n hx hb dX11_starts_34 rfl (lv_at hl 0 rfl) ?_
      refine r_getF (off := 25) C hP (iw hw (fi_11 hk0)) hk0 fl_X11_87 rfl rfl (zw hw) dX11_starts_35 ?_
      refine lv_bipush (v := (8)) hx hb dX11_starts_38 (by decide) ?_
      refine lv_iload_n hx hb dX11_starts_40 rfl (lv_at hl 1 rfl) ?_
      refine lv_imul hx hb dX11_starts_41 ?_
      refine lv_iload_n hx hb dX11_starts_42 rfl (lv_at hl 2 rfl) ?_
      refine lv_iadd hx hb dX11_starts_43 ?_
      refine lv_iload_n hx hb dX11_starts_44 rfl (lv_at hl 2 rfl) ?_
      refine lv_aload_n hx hb dX11_starts_45 rfl (lv_at hl 0 rfl) ?_
      refine r_getF (off := 2) C hP (iw hw (fi_11 hk0)) hk0 fl_X11_13 rfl rfl (zw hw) dX11_starts_46 ?_
      refine lv_iconst (v := (2)) hx hb dX11_starts_49 (by decide) ?_
      refine n_iald (j := 2) C hP (iw hw (ff_11_3 hk0).2) (ff_11_3 hk0).1 (by decide) (by decide) dX11_starts_50 ?_
      refine lv_icmp_ge (tgt := 63) hx hb dX11_starts_51 (by decide) (fun c8 => ?_) (fun c8 => ?_)
      · replace h := if_t c8 h
        refine lv_iconst (v := (0)) hx hb dX11_starts_63 (by decide) ?_
        exact J64 v2 (v0 + 25) (((8 : Int32) * v1) + v2) (0 : Int32) μ (ff_11_40 hk0).1 (iw hw (ff_11_40 hk0).2) h _ _ _ hP hS (lv_sub hl [0, 1, 2] rfl)
      · replace h := if_f c8 h
        refine lv_aload_n hx hb dX11_starts_54 rfl (lv_at hl 0 rfl) ?_
        refine r_getF (off := 7) C hP (iw hw (fi_11 hk0)) hk0 fl_X11_28 rfl rfl (zw hw) dX11_starts_55 ?_
        refine lv_iload_n hx hb dX11_starts_58 rfl (lv_at hl 2 rfl) ?_
        obtain ⟨g9, h⟩ := gd_ok h
        refine r_iald C hP (iw hw (ff_11_8 hk0).2) (ff_11_8 hk0).1 g9 dX11_starts_59 ?_
        refine lv_goto (tgt := 64) hx hb dX11_starts_60 (by decide) ?_
        exact J64 v2 (v0 + 25) (((8 : Int32) * v1) + v2) (μ.1 (v0 + 7) (Int32.toNatClampNeg v2)) μ (ff_11_40 hk0).1 (iw hw (ff_11_40 hk0).2) h _ _ _ hP hS (lv_sub hl [0, 1, 2] rfl)
  · obtain ⟨x19, μ20⟩ := q18
    intro H locs ls hP hS hl
    have hP : fP w μ20 H := hP
    have hl : lv_has ls 3 [(0, .ref (w.2.2.1 v0)), (1, .int v1)] := hl
    try dsimp only at h
    refine lv_iconst (v := (0)) hx hb dX11_starts_95 (by decide) ?_
    refine lv_istore_n (lv' := [(2, .int (0 : Int32)), (0, .ref (w.2.2.1 v0)), (1, .int v1)]) hx hb dX11_starts_96 rfl hl (by decide) rfl (fun ls hl => ?_)
    obtain ⟨t27, q28, h31, h⟩ := bd_ok h
    refine lpn_ind (b := (fun (q : Int32 × fMem) => f_X11_starts_L97 v0 v1 q.1 q.2)) (P := fun (q : Int32 × fMem) => WW p l e rm_X11_starts s m args below meth c (MQ below (fQv w μr) args s 0 0 (fA w)) w q.2 3 97 [] [(0, .ref (w.2.2.1 v0)), (1, .int v1), (2, .int q.1)]) (K := fun _ (q : Int32 × fMem) => WW p l e rm_X11_starts s m args below meth c (MQ below (fQv w μr) args s 0 0 (fA w)) w q.2 3 133 [] []) ?_ fuel ((0 : Int32), μ20) t27 q28 h31 ?_ _ _ _ hP hS (lv_sub hl [1, 2, 0] rfl)
    · intro q tz97 sz97 h hP0_97 hK0_97 H locs ls hP hS hl
      obtain ⟨v2, μ⟩ := q
      have hP : fP w μ H := hP
      have hl : lv_has ls 3 [(0, .ref (w.2.2.1 v0)), (1, .int v1), (2, .int v2)] := hl
      have h : f_X11_starts_L97 v0 v1 v2 μ = some (tz97, sz97) := h
      unfold f_X11_starts_L97 at h
      refine lv_iload_n hx hb dX11_starts_97 rfl (lv_at hl 2 rfl) ?_
      refine lv_bipush (v := (6)) hx hb dX11_starts_98 (by decide) ?_
      refine lv_icmp_ge (tgt := 133) hx hb dX11_starts_100 (by decide) (fun c21 => ?_) (fun c21 => ?_)
      · replace h := if_t c21 h
        obtain ⟨rfl, rfl⟩ := leaf h
        exact (hK0_97 0 rfl) _ _ _ hP hS (lv_sub hl [] rfl)
      · replace h := if_f c21 h
        refine lv_aload_n hx hb dX11_starts_103 rfl (lv_at hl 0 rfl) ?_
        refine r_getF (off := 28) C hP (iw hw (fi_11 hk0)) hk0 fl_X11_96 rfl rfl (zw hw) dX11_starts_104 ?_
        refine lv_bipush (v := (6)) hx hb dX11_starts_107 (by decide) ?_
        refine lv_iload_n hx hb dX11_starts_109 rfl (lv_at hl 1 rfl) ?_
        refine lv_imul hx hb dX11_starts_110 ?_
        refine lv_iload_n hx hb dX11_starts_111 rfl (lv_at hl 2 rfl) ?_
        refine lv_iadd hx hb dX11_starts_112 ?_
        refine lv_iconst (v := (0)) hx hb dX11_starts_113 (by decide) ?_
        obtain ⟨g23, h⟩ := gd_ok h
        refine r_iast C hP hS (iw hw (ff_11_43 hk0).2) (ff_11_43 hk0).1 g23 dX11_starts_114 (fun H locs hP hS => ?_)
        obtain ⟨μ22, eμ22, h⟩ := vl_ex h
        have hP : fP w μ22 H := by rw [eμ22]; exact hP
        refine lv_aload_n hx hb dX11_starts_115 rfl (lv_at hl 0 rfl) ?_
        refine r_getF (off := 29) C hP (iw hw (fi_11 hk0)) hk0 fl_X11_99 rfl rfl (zw hw) dX11_starts_116 ?_
        refine lv_bipush (v := (6)) hx hb dX11_starts_119 (by decide) ?_
        refine lv_iload_n hx hb dX11_starts_121 rfl (lv_at hl 1 rfl) ?_
        refine lv_imul hx hb dX11_starts_122 ?_
        refine lv_iload_n hx hb dX11_starts_123 rfl (lv_at hl 2 rfl) ?_
        refine lv_iadd hx hb dX11_starts_124 ?_
        refine lv_iconst (v := (0)) hx hb dX11_starts_125 (by decide) ?_
        obtain ⟨g25, h⟩ := gd_ok h
        refine r_iast C hP hS (iw hw (ff_11_44 hk0).2) (ff_11_44 hk0).1 g25 dX11_starts_126 (fun H locs hP hS => ?_)
        obtain ⟨μ24, eμ24, h⟩ := vl_ex h
        have hP : fP w μ24 H := by rw [eμ24]; exact hP
        obtain ⟨x26, ex26⟩ : ∃ y : Int32, y = (v2 + (1 : Int32)) := ⟨_, rfl⟩
        replace h := vl_ok ex26 h
        refine lv_iinc (v := x26) (lv' := [(2, .int x26), (0, .ref (w.2.2.1 v0)), (1, .int v1)]) hx hb dX11_starts_127 hl (k := 2) rfl (by rw [ex26]; rfl) (by decide) rfl (fun ls hl => ?_)
        refine lv_goto (tgt := 97) hx hb dX11_starts_130 (by decide) ?_
        obtain ⟨rfl, rfl⟩ := leaf h
        exact hP0_97 rfl _ _ _ hP hS (lv_sub hl [1, 2, 0] rfl)
    · obtain ⟨x29, μ30⟩ := q28
      intro H locs ls hP hS hl
      have hP : fP w μ30 H := hP
      have hl : lv_has ls 3 [] := hl
      try dsimp only at h
      exact r_vret C hr hP hS h dX11_starts_133

def f_X11_begins (v0 : Nat) (μ : fMem) : Option (Unit × fMem) :=
  bd (f_X11_starts v0 (0 : Int32) μ) fun r2 μ1 => some ((), μ1)
def rm_X11_begins : Room := { frames := 1, cells := 0, slots := 0, locals := 22 }
set_option maxHeartbeats 4000000 in
set_option maxRecDepth 100000 in
theorem m_X11_begins (l : Launch) (w : fW) (hJ : fJ w) (hw : w.2.2.2 = sd 1) (v0 : Nat) (hk0 : kd v0 = (4, 11)) (μ : fMem) {r : Unit} {μr : fMem} (h : f_X11_begins v0 μ = some (r, μr)) : Met l yX11_begins (.code yX11_begins cX11_begins 1 none :: gw) rm_X11_begins (fPc w [.ref (w.2.2.1 v0)] μ) (fQv w μr) 0 0 (fA w) := by
  refine met_of hJ (by decide) ?_ (Nat.le_of_ble_eq_true rfl)
  generalize ([.ref (w.2.2.1 v0)] : List Value).toArray = args
  intro p e s m below meth c ls C hr hP hl hS
  obtain ⟨hx, hb, hml, hown, hts, hK, -, hlk, hT⟩ := id C
  have hl : lv_has ls 1 [(0, .ref (w.2.2.1 v0))] := hl
  unfold f_X11_begins at h
  refine lv_aload_n hx hb dX11_begins_0 rfl (lv_at hl 0 rfl) ?_
  refine lv_iconst (v := (0)) hx hb dX11_begins_1 (by decide) ?_
  obtain ⟨r2, μ1, h3, h⟩ := bd_ok h
  refine go_v (callV_run (As := [.int (0 : Int32)]) (rest := []) C hl hP (hS.wide hJ).2.1 (iw hw (fi_11 hk0)) hk0 (m_X11_starts l w hJ hw v0 (0 : Int32) hk0 μ h3) mv_X11_334 ⟨rfl, rfl, by decide, by decide⟩ rfl rfl (Nat.le_of_ble_eq_true rfl) ⟨Nat.zero_le _, Nat.zero_le _⟩ dX11_begins_2) hS (fun H locs hP hS => ?_)
  exact r_vret C hr hP hS h dX11_begins_5

def f_X11_text_L47 (v0 : Nat) (v2 : Int32) (μ : fMem) : Option (Nat × (Int32 × fMem)) :=
  if (7 : Int32) ≤ v2 then some (1, (v2, μ)) else bd (f_X11_reads v0 v2 (0 : Int32) μ) fun r11 μ10 => vl (v2 + (1 : Int32)) fun x13 => some (0, (x13, μ10))
def f_X11_text_L67 (v0 : Nat) (v2 : Int32) (μ : fMem) : Option (Nat × (Int32 × fMem)) :=
  if (6 : Int32) ≤ v2 then some (1, (v2, μ)) else gd (ixo v2 6) (vl (sI μ (v0 + 16) (Int32.toNatClampNeg v2) (0 : Int32)) fun μ19 => gd (ixo v2 6) (vl (sI μ19 (v0 + 17) (Int32.toNatClampNeg v2) (0 : Int32)) fun μ21 => vl (v2 + (1 : Int32)) fun x23 => some (0, (x23, μ21))))
def f_X11_text_L117 (v0 : Nat)  (μ : fMem) : Option (Nat × (fMem)) :=
  if (μ.1 v0 28) = 0 then if (μ.1 v0 26) = (4 : Int32) then some (1, (μ)) else bd (f_X11_line v0 μ) fun r38 μ37 => some (0, (μ37)) else some (1, (μ))
def f_X11_text (v0 : Nat) (v1 : Int32) (μ : fMem) : Option (Int32 × fMem) :=
  vl (sI μ v0 0 (0 : Int32)) fun μ1 => if v1 < 0 then some ((-2 : Int32), μ1) else if v1 ≤ (μ1.1 v0 2) then vl (sI μ1 v0 23 v1) fun μ4 => vl (sI μ4 v0 2 (0 : Int32)) fun μ5 => vl (sI μ5 v0 24 (0 : Int32)) fun μ6 => vl (sI μ6 v0 28 (0 : Int32)) fun μ7 => vl (sI μ7 v0 29 (-1 : Int32)) fun μ8 => bd (lpn (fun (q : Int32 × fMem) => f_X11_text_L47 v0 q.1 q.2) fuel ((0 : Int32), μ8)) fun t14 q15 => (fun (x16 : Int32) (μ17 : fMem) => bd (lpn (fun (q : Int32 × fMem) => f_X11_text_L67 v0 q.1 q.2) fuel ((3 : Int32), μ17)) fun t24 q25 => (fun (x26 : Int32) (μ27 : fMem) => vl (sI μ27 v0 21 (0 : Int32)) fun μ28 => vl (sI μ28 v0 22 (0 : Int32)) fun μ29 => vl (sI μ29 v0 32 (0 : Int32)) fun μ30 => vl (sI μ30 v0 33 (0 : Int32)) fun μ31 => bd (f_X11_token v0 μ31) fun r33 μ32 => bd (lpn (fun (q : fMem) => f_X11_text_L117 v0 q) fuel (μ32)) fun t40 q41 => (fun  (q41 : fMem) => vl (sI q41 v0 30 (q41.1 v0 28)) fun μ43 => vl (sI μ43 v0 31 (μ43.1 v0 29)) fun μ44 => if (μ44.1 v0 28) = 0 then bd (f_X11_half (v0 + 2) μ44) fun r47 μ46 => bd (f_X11_half (v0 + 3) μ46) fun r50 μ49 => bd (f_X11_half (v0 + 4) μ49) fun r53 μ52 => bd (f_X11_half (v0 + 5) μ52) fun r56 μ55 => bd (f_X11_half (v0 + 6) μ55) fun r59 μ58 => bd (f_X11_half (v0 + 7) μ58) fun r62 μ61 => bd (f_X11_half (v0 + 8) μ61) fun r65 μ64 => bd (f_X11_half (v0 + 9) μ64) fun r68 μ67 => bd (f_X11_half (v0 + 10) μ67) fun r71 μ70 => bd (f_X11_half (v0 + 11) μ70) fun r74 μ73 => bd (f_X11_half (v0 + 12) μ73) fun r77 μ76 => bd (f_X11_half (v0 + 13) μ76) fun r80 μ79 => bd (f_X11_half (v0 + 14) μ79) fun r83 μ82 => bd (f_X11_half (v0 + 15) μ82) fun r86 μ85 => bd (f_X11_half (v0 + 16) μ85) fun r89 μ88 => bd (f_X11_half (v0 + 17) μ88) fun r92 μ91 => bd (f_X11_half (v0 + 18) μ91) fun r95 μ94 => bd (f_X11_half (v0 + 19) μ94) fun r98 μ97 => vl (sI μ97 v0 57 (0 : Int32)) fun μ100 => vl (sI μ100 v0 58 (-1 : Int32)) fun μ101 => vl (sI μ101 v0 45 (0 : Int32)) fun μ102 => vl (sI μ102 v0 46 (0 : Int32)) fun μ103 => bd (f_X11_begins v0 μ103) fun r105 μ104 => some ((μ104.1 v0 22), μ104) else some ((-1 : Int32), μ44)) q41) q25.1 q25.2) q15.1 q15.2 else some ((-2 : Int32), μ1)
def rm_X11_text : Room := { frames := 496, cells := 0, slots := 0, locals := 10454 }
set_option maxHeartbeats 4000000 in
set_option maxRecDepth 100000 in
theorem m_X11_text (l : Launch) (w : fW) (hJ : fJ w) (hw : w.2.2.2 = sd 1) (v0 : Nat) (v1 : Int32) (hk0 : kd v0 = (4, 11)) (μ : fMem) {r : Int32} {μr : fMem} (h : f_X11_text v0 v1 μ = some (r, μr)) : Met l yX11_text (.code yX11_text cX11_text 3 (some .int) :: gw) rm_X11_text (fPc w [.ref (w.2.2.1 v0), .int v1] μ) (fQi w r μr) 0 0 (fA w) := by
  refine met_of hJ (by decide) ?_ (Nat.le_of_ble_eq_true rfl)
  generalize ([.ref (w.2.2.1 v0), .int v1] : List Value).toArray = args
  intro p e s m below meth c ls C hr hP hl hS
  obtain ⟨hx, hb, hml, hown, hts, hK, -, hlk, hT⟩ := id C
  have hl : lv_has ls 3 [(0, .ref (w.2.2.1 v0)), (1, .int v1)] := hl
  unfold f_X11_text at h
  refine lv_aload_n hx hb dX11_text_0 rfl (lv_at hl 0 rfl) ?_
  refine lv_iconst (v := (0)) hx hb dX11_text_1 (by decide) ?_
  refine r_putI C hP hS (iw hw (fi_11 hk0)) hk0 fp_X11_148 rfl dX11_text_2 (fun H locs hP hS => ?_)
  obtain ⟨μ1, eμ1, h⟩ := vl_ex h
  have hP : fP w μ1 H := by rw [eμ1]; exact hP
  refine lv_iload_n hx hb dX11_text_5 rfl (lv_at hl 1 rfl) ?_
  refine lv_if_lt (tgt := 17) hx hb dX11_text_6 (by decide) (fun c2 => ?_) (fun c2 => ?_)
  · replace h := if_t c2 h
    refine lv_bipush (v := (-2)) hx hb dX11_text_17 (by decide) ?_
    exact r_iret C hr hP hS h dX11_text_19
  · replace h := if_f c2 h
    refine lv_iload_n hx hb dX11_text_9 rfl (lv_at hl 1 rfl) ?_
    refine lv_aload_n hx hb dX11_text_10 rfl (lv_at hl 0 rfl) ?_
    refine r_getI C hP (iw hw (fi_11 hk0)) hk0 fl_X11_151 (Or.inl rfl) dX11_text_11 ?_
    refine lv_icmp_le (tgt := 20) hx hb dX11_text_14 (by decide) (fun c3 => ?_) (fun c3 => ?_)
    · replace h := if_t c3 h
      refine lv_aload_n hx hb dX11_text_20 rfl (lv_at hl 0 rfl) ?_
      refine lv_iload_n hx hb dX11_text_21 rfl (lv_at hl 1 rfl) ?_
      refine r_putI C hP hS (iw hw (fi_11 hk0)) hk0 fp_X11_157 rfl dX11_text_22 (fun H locs hP hS => ?_)
      obtain ⟨μ4, eμ4, h⟩ := vl_ex h
      have hP : fP w μ4 H := by rw [eμ4]; exact hP
      refine lv_aload_n hx hb dX11_text_25 rfl (lv_at hl 0 rfl) ?_
      refine lv_iconst (v := (0)) hx hb dX11_text_26 (by decide) ?_
      refine r_putI C hP hS (iw hw (fi_11 hk0)) hk0 fp_X11_151 rfl dX11_text_27 (fun H locs hP hS => ?_)
      obtain ⟨μ5, eμ5, h⟩ := vl_ex h
      have hP : fP w μ5 H := by rw [eμ5]; exact hP
      refine lv_aload_n hx hb dX11_text_30 rfl (lv_at hl 0 rfl) ?_
      refine lv_iconst (v := (0)) hx hb dX11_text_31 (by decide) ?_
      refine r_putI C hP hS (iw hw (fi_11 hk0)) hk0 fp_X11_154 rfl dX11_text_32 (fun H locs hP hS => ?_)
      obtain ⟨μ6, eμ6, h⟩ := vl_ex h
      have hP : fP w μ6 H := by rw [eμ6]; exact hP
      refine lv_aload_n hx hb dX11_text_35 rfl (lv_at hl 0 rfl) ?_
      refine lv_iconst (v := (0)) hx hb dX11_text_36 (by decide) ?_
      refine r_putI C hP hS (iw hw (fi_11 hk0)) hk0 fp_X11_202 rfl dX11_text_37 (fun H locs hP hS => ?_)
      obtain ⟨μ7, eμ7, h⟩ := vl_ex h
      have hP : fP w μ7 H := by rw [eμ7]; exact hP
      refine lv_aload_n hx hb dX11_text_40 rfl (lv_at hl 0 rfl) ?_
      refine lv_iconst (v := (-1)) hx hb dX11_text_41 (by decide) ?_
      refine r_putI C hP hS (iw hw (fi_11 hk0)) hk0 fp_X11_205 rfl dX11_text_42 (fun H locs hP hS => ?_)
      obtain ⟨μ8, eμ8, h⟩ := vl_ex h
      have hP : fP w μ8 H := by rw [eμ8]; exact hP
      refine lv_iconst (v := (0)) hx hb dX11_text_45 (by decide) ?_
      refine lv_istore_n (lv' := [(2, .int (0 : Int32)), (0, .ref (w.2.2.1 v0)), (1, .int v1)]) hx hb dX11_text_46 rfl hl (by decide) rfl (fun ls hl => ?_)
      obtain ⟨t14, q15, h109, h⟩ := bd_ok h
      refine lpn_ind (b := (fun (q : Int32 × fMem) => f_X11_text_L47 v0 q.1 q.2)) (P := fun (q : Int32 × fMem) => WW p l e rm_X11_text s m args below meth c (MQ below (fQi w r μr) args s 0 0 (fA w)) w q.2 3 47 [] [(0, .ref (w.2.2.1 v0)), (2, .int q.1)]) (K := fun _ (q : Int32 × fMem) => WW p l e rm_X11_text s m args below meth c (MQ below (fQi w r μr) args s 0 0 (fA w)) w q.2 3 65 [] [(0, .ref (w.2.2.1 v0))]) ?_ fuel ((0 : Int32), μ8) t14 q15 h109 ?_ _ _ _ hP hS (lv_sub hl [1, 0] rfl)
      · intro q tz47 sz47 h hP0_47 hK0_47 H locs ls hP hS hl
        obtain ⟨v2, μ⟩ := q
        have hP : fP w μ H := hP
        have hl : lv_has ls 3 [(0, .ref (w.2.2.1 v0)), (2, .int v2)] := hl
        have h : f_X11_text_L47 v0 v2 μ = some (tz47, sz47) := h
        unfold f_X11_text_L47 at h
        refine lv_iload_n hx hb dX11_text_47 rfl (lv_at hl 1 rfl) ?_
        refine lv_bipush (v := (7)) hx hb dX11_text_48 (by decide) ?_
        refine lv_icmp_ge (tgt := 65) hx hb dX11_text_50 (by decide) (fun c9 => ?_) (fun c9 => ?_)
        · replace h := if_t c9 h
          obtain ⟨rfl, rfl⟩ := leaf h
          exact (hK0_47 0 rfl) _ _ _ hP hS (lv_sub hl [0] rfl)
        · replace h := if_f c9 h
          refine lv_aload_n hx hb dX11_text_53 rfl (lv_at hl 0 rfl) ?_
          refine lv_iload_n hx hb dX11_text_54 rfl (lv_at hl 1 rfl) ?_
          refine lv_iconst (v := (0)) hx hb dX11_text_55 (by decide) ?_
          obtain ⟨r11, μ10, h12, h⟩ := bd_ok h
          refine go_v (callV_run (As := [.int v2, .int (0 : Int32)]) (rest := []) C hl hP (hS.wide hJ).2.1 (iw hw (fi_11 hk0)) hk0 (m_X11_reads l w hJ hw v0 v2 (0 : Int32) hk0 μ h12) mv_X11_238 ⟨rfl, rfl, by decide, by decide⟩ rfl rfl (Nat.le_of_ble_eq_true rfl) ⟨Nat.zero_le _, Nat.zero_le _⟩ dX11_text_56) hS (fun H locs hP hS => ?_)
          obtain ⟨x13, ex13⟩ : ∃ y : Int32, y = (v2 + (1 : Int32)) := ⟨_, rfl⟩
          replace h := vl_ok ex13 h
          refine lv_iinc (v := x13) (lv' := [(2, .int x13), (0, .ref (w.2.2.1 v0))]) hx hb dX11_text_59 hl (k := 1) rfl (by rw [ex13]; rfl) (by decide) rfl (fun ls hl => ?_)
          refine lv_goto (tgt := 47) hx hb dX11_text_62 (by decide) ?_
          obtain ⟨rfl, rfl⟩ := leaf h
          exact hP0_47 rfl _ _ _ hP hS (lv_sub hl [1, 0] rfl)
      · obtain ⟨x16, μ17⟩ := q15
        intro H locs ls hP hS hl
        have hP : fP w μ17 H := hP
        have hl : lv_has ls 3 [(0, .ref (w.2.2.1 v0))] := hl
        try dsimp only at h
        refine lv_iconst (v := (3)) hx hb dX11_text_65 (by decide) ?_
        refine lv_istore_n (lv' := [(2, .int (3 : Int32)), (0, .ref (w.2.2.1 v0))]) hx hb dX11_text_66 rfl hl (by decide) rfl (fun ls hl => ?_)
        obtain ⟨t24, q25, h108, h⟩ := bd_ok h
        refine lpn_ind (b := (fun (q : Int32 × fMem) => f_X11_text_L67 v0 q.1 q.2)) (P := fun (q : Int32 × fMem) => WW p l e rm_X11_text s m args below meth c (MQ below (fQi w r μr) args s 0 0 (fA w)) w q.2 3 67 [] [(0, .ref (w.2.2.1 v0)), (2, .int q.1)]) (K := fun _ (q : Int32 × fMem) => WW p l e rm_X11_text s m args below meth c (MQ below (fQi w r μr) args s 0 0 (fA w)) w q.2 3 93 [] [(0, .ref (w.2.2.1 v0))]) ?_ fuel ((3 : Int32), μ17) t24 q25 h108 ?_ _ _ _ hP hS (lv_sub hl [1, 0] rfl)
        · intro q tz67 sz67 h hP0_67 hK0_67 H locs ls hP hS hl
          obtain ⟨v2, μ⟩ := q
          have hP : fP w μ H := hP
          have hl : lv_has ls 3 [(0, .ref (w.2.2.1 v0)), (2, .int v2)] := hl
          have h : f_X11_text_L67 v0 v2 μ = some (tz67, sz67) := h
          unfold f_X11_text_L67 at h
          refine lv_iload_n hx hb dX11_text_67 rfl (lv_at hl 1 rfl) ?_
          refine lv_bipush (v := (6)) hx hb dX11_text_68 (by decide) ?_
          refine lv_icmp_ge (tgt := 93) hx hb dX11_text_70 (by decide) (fun c18 => ?_) (fun c18 => ?_)
          · replace h := if_t c18 h
            obtain ⟨rfl, rfl⟩ := leaf h
            exact (hK0_67 0 rfl) _ _ _ hP hS (lv_sub hl [0] rfl)
          · replace h := if_f c18 h
            refine lv_aload_n hx hb dX11_text_73 rfl (lv_at hl 0 rfl) ?_
            refine r_getF (off := 16) C hP (iw hw (fi_11 hk0)) hk0 fl_X11_55 rfl rfl (zw hw) dX11_text_74 ?_
            refine lv_iload_n hx hb dX11_text_77 rfl (lv_at hl 1 rfl) ?_
            refine lv_iconst (v := (0)) hx hb dX11_text_78 (by decide) ?_
            obtain ⟨g20, h⟩ := gd_ok h
            refine r_iast C hP hS (iw hw (ff_11_17 hk0).2) (ff_11_17 hk0).1 g20 dX11_text_79 (fun H locs hP hS => ?_)
            obtain ⟨μ19, eμ19, h⟩ := vl_ex h
            have hP : fP w μ19 H := by rw [eμ19]; exact hP
            refine lv_aload_n hx hb dX11_text_80 rfl (lv_at hl 0 rfl) ?_
            refine r_getF (off := 17) C hP (iw hw (fi_11 hk0)) hk0 fl_X11_58 rfl rfl (zw hw) dX11_text_81 ?_
            refine lv_iload_n hx hb dX11_text_84 rfl (lv_at hl 1 rfl) ?_
            refine lv_iconst (v := (0)) hx hb dX11_text_85 (by decide) ?_
            obtain ⟨g22, h⟩ := gd_ok h
            refine r_iast C hP hS (iw hw (ff_11_18 hk0).2) (ff_11_18 hk0).1 g22 dX11_text_86 (fun H locs hP hS => ?_)
            obtain ⟨μ21, eμ21, h⟩ := vl_ex h
            have hP : fP w μ21 H := by rw [eμ21]; exact hP
            obtain ⟨x23, ex23⟩ : ∃ y : Int32, y = (v2 + (1 : Int32)) := ⟨_, rfl⟩
            replace h := vl_ok ex23 h
            refine lv_iinc (v := x23) (lv' := [(2, .int x23), (0, .ref (w.2.2.1 v0))]) hx hb dX11_text_87 hl (k := 1) rfl (by rw [ex23]; rfl) (by decide) rfl (fun ls hl => ?_)
            refine lv_goto (tgt := 67) hx hb dX11_text_90 (by decide) ?_
            obtain ⟨rfl, rfl⟩ := leaf h
            exact hP0_67 rfl _ _ _ hP hS (lv_sub hl [1, 0] rfl)
        · obtain ⟨x26, μ27⟩ := q25
          intro H locs ls hP hS hl
          have hP : fP w μ27 H := hP
          have hl : lv_has ls 3 [(0, .ref (w.2.2.1 v0))] := hl
          try dsimp only at h
          refine lv_aload_n hx hb dX11_text_93 rfl (lv_at hl 0 rfl) ?_
          refine lv_iconst (v := (0)) hx hb dX11_text_94 (by decide) ?_
          refine r_putI C hP hS (iw hw (fi_11 hk0)) hk0 fp_X11_231 rfl dX11_text_95 (fun H locs hP hS => ?_)
          obtain ⟨μ28, eμ28, h⟩ := vl_ex h
          have hP : fP w μ28 H := by rw [eμ28]; exact hP
          refine lv_aload_n hx hb dX11_text_98 rfl (lv_at hl 0 rfl) ?_
          refine lv_iconst (v := (0)) hx hb dX11_text_99 (by decide) ?_
          refine r_putI C hP hS (iw hw (fi_11 hk0)) hk0 fp_X11_258 rfl dX11_text_100 (fun H locs hP hS => ?_)
          obtain ⟨μ29, eμ29, h⟩ := vl_ex h
          have hP : fP w μ29 H := by rw [eμ29]; exact hP
          refine lv_aload_n hx hb dX11_text_103 rfl (lv_at hl 0 rfl) ?_
          refine lv_iconst (v := (0)) hx hb dX11_text_104 (by decide) ?_
          refine r_putI C hP hS (iw hw (fi_11 hk0)) hk0 fp_X11_291 rfl dX11_text_105 (fun H locs hP hS => ?_)
          obtain ⟨μ30, eμ30, h⟩ := vl_ex h
          have hP : fP w μ30 H := by rw [eμ30]; exact hP
          refine lv_aload_n hx hb dX11_text_108 rfl (lv_at hl 0 rfl) ?_
          refine lv_iconst (v := (0)) hx hb dX11_text_109 (by decide) ?_
          refine r_putI C hP hS (iw hw (fi_11 hk0)) hk0 fp_X11_264 rfl dX11_text_110 (fun H locs hP hS => ?_)
          obtain ⟨μ31, eμ31, h⟩ := vl_ex h
          have hP : fP w μ31 H := by rw [eμ31]; exact hP
          refine lv_aload_n hx hb dX11_text_113 rfl (lv_at hl 0 rfl) ?_
          obtain ⟨r33, μ32, h34, h⟩ := bd_ok h
          refine go_v (callV_run (As := []) (rest := []) C hl hP (hS.wide hJ).2.1 (iw hw (fi_11 hk0)) hk0 (m_X11_token l w hJ hw v0 hk0 μ31 h34) mv_X11_208 ⟨rfl, rfl, by decide, by decide⟩ rfl rfl (Nat.le_of_ble_eq_true rfl) ⟨Nat.zero_le _, Nat.zero_le _⟩ dX11_text_114) hS (fun H locs hP hS => ?_)
          obtain ⟨t40, q41, h107, h⟩ := bd_ok h
          refine lpn_ind (b := (fun (q : fMem) => f_X11_text_L117 v0 q)) (P := fun (q : fMem) => WW p l e rm_X11_text s m args below meth c (MQ below (fQi w r μr) args s 0 0 (fA w)) w q 3 117 [] [(0, .ref (w.2.2.1 v0))]) (K := fun _ (q : fMem) => WW p l e rm_X11_text s m args below meth c (MQ below (fQi w r μr) args s 0 0 (fA w)) w q 3 139 [] [(0, .ref (w.2.2.1 v0))]) ?_ fuel (μ32) t40 q41 h107 ?_ _ _ _ hP hS (lv_sub hl [0] rfl)
          · intro μ tz117 sz117 h hP0_117 hK0_117 H locs ls hP hS hl
            have hP : fP w μ H := hP
            have hl : lv_has ls 3 [(0, .ref (w.2.2.1 v0))] := hl
            have h : f_X11_text_L117 v0  μ = some (tz117, sz117) := h
            unfold f_X11_text_L117 at h
            refine lv_aload_n hx hb dX11_text_117 rfl (lv_at hl 0 rfl) ?_
            refine r_getI C hP (iw hw (fi_11 hk0)) hk0 fl_X11_202 (Or.inl rfl) dX11_text_118 ?_
            refine lv_if_ne (tgt := 139) hx hb dX11_text_121 (by decide) (fun c35 => ?_) (fun c35 => ?_)
            · replace h := if_f c35 h
              obtain ⟨rfl, rfl⟩ := leaf h
              exact (hK0_117 0 rfl) _ _ _ hP hS (lv_sub hl [0] rfl)
            · replace h := if_t c35 h
              refine lv_aload_n hx hb dX11_text_124 rfl (lv_at hl 0 rfl) ?_
              refine r_getI C hP (iw hw (fi_11 hk0)) hk0 fl_X11_167 (Or.inl rfl) dX11_text_125 ?_
              refine lv_iconst (v := (4)) hx hb dX11_text_128 (by decide) ?_
              refine lv_icmp_eq (tgt := 139) hx hb dX11_text_129 (by decide) (fun c36 => ?_) (fun c36 => ?_)
              · replace h := if_t c36 h
                obtain ⟨rfl, rfl⟩ := leaf h
                exact (hK0_117 0 rfl) _ _ _ hP hS (lv_sub hl [0] rfl)
              · replace h := if_f c36 h
                refine lv_aload_n hx hb dX11_text_132 rfl (lv_at hl 0 rfl) ?_
                obtain ⟨r38, μ37, h39, h⟩ := bd_ok h
                refine go_v (callV_run (As := []) (rest := []) C hl hP (hS.wide hJ).2.1 (iw hw (fi_11 hk0)) hk0 (m_X11_line l w hJ hw v0 hk0 μ h39) mv_X11_294 ⟨rfl, rfl, by decide, by decide⟩ rfl rfl (Nat.le_of_ble_eq_true rfl) ⟨Nat.zero_le _, Nat.zero_le _⟩ dX11_text_133) hS (fun H locs hP hS => ?_)
                refine lv_goto (tgt := 117) hx hb dX11_text_136 (by decide) ?_
                obtain ⟨rfl, rfl⟩ := leaf h
                exact hP0_117 rfl _ _ _ hP hS (lv_sub hl [0] rfl)
          · skip
            intro H locs ls hP hS hl
            have hP : fP w q41 H := hP
            have hl : lv_has ls 3 [(0, .ref (w.2.2.1 v0))] := hl
            try dsimp only at h
            refine lv_aload_n hx hb dX11_text_139 rfl (lv_at hl 0 rfl) ?_
            refine lv_aload_n hx hb dX11_text_140 rfl (lv_at hl 0 rfl) ?_
            refine r_getI C hP (iw hw (fi_11 hk0)) hk0 fl_X11_202 (Or.inl rfl) dX11_text_141 ?_
            refine r_putI C hP hS (iw hw (fi_11 hk0)) hk0 fp_X11_297 rfl dX11_text_144 (fun H locs hP hS => ?_)
            obtain ⟨μ43, eμ43, h⟩ := vl_ex h
            have hP : fP w μ43 H := by rw [eμ43]; exact hP
            refine lv_aload_n hx hb dX11_text_147 rfl (lv_at hl 0 rfl) ?_
            refine lv_aload_n hx hb dX11_text_148 rfl (lv_at hl 0 rfl) ?_
            refine r_getI C hP (iw hw (fi_11 hk0)) hk0 fl_X11_205 (Or.inl rfl) dX11_text_149 ?_
            refine r_putI C hP hS (iw hw (fi_11 hk0)) hk0 fp_X11_67 rfl dX11_text_152 (fun H locs hP hS => ?_)
            obtain ⟨μ44, eμ44, h⟩ := vl_ex h
            have hP : fP w μ44 H := by rw [eμ44]; exact hP
            refine lv_aload_n hx hb dX11_text_155 rfl (lv_at hl 0 rfl) ?_
            refine r_getI C hP (iw hw (fi_11 hk0)) hk0 fl_X11_202 (Or.inl rfl) dX11_text_156 ?_
            refine lv_if_eq (tgt := 164) hx hb dX11_text_159 (by decide) (fun c45 => ?_) (fun c45 => ?_)
            · replace h := if_t c45 h
              refine lv_aload_n hx hb dX11_text_164 rfl (lv_at hl 0 rfl) ?_
              refine r_getF (off := 2) C hP (iw hw (fi_11 hk0)) hk0 fl_X11_13 rfl rfl (zw hw) dX11_text_165 ?_
              obtain ⟨r47, μ46, h48, h⟩ := bd_ok h
              refine go_v (callS_run (As := [.ref (w.2.2.1 (v0 + 2))]) (rest := []) C hl hP (hS.wide hJ).2.1 (m_X11_half l w hJ hw (v0 + 2) (karr (ff_11_3 hk0).1) (iw hw (ff_11_3 hk0).2) μ44 h48) ms_X11_300 ⟨rfl, rfl, by decide, by decide⟩ rfl rfl (Nat.le_of_ble_eq_true rfl) ⟨Nat.zero_le _, Nat.zero_le _⟩ dX11_text_168) hS (fun H locs hP hS => ?_)
              refine lv_aload_n hx hb dX11_text_171 rfl (lv_at hl 0 rfl) ?_
              refine r_getF (off := 3) C hP (iw hw (fi_11 hk0)) hk0 fl_X11_16 rfl rfl (zw hw) dX11_text_172 ?_
              obtain ⟨r50, μ49, h51, h⟩ := bd_ok h
              refine go_v (callS_run (As := [.ref (w.2.2.1 (v0 + 3))]) (rest := []) C hl hP (hS.wide hJ).2.1 (m_X11_half l w hJ hw (v0 + 3) (karr (ff_11_4 hk0).1) (iw hw (ff_11_4 hk0).2) μ46 h51) ms_X11_300 ⟨rfl, rfl, by decide, by decide⟩ rfl rfl (Nat.le_of_ble_eq_true rfl) ⟨Nat.zero_le _, Nat.zero_le _⟩ dX11_text_175) hS (fun H locs hP hS => ?_)
              refine lv_aload_n hx hb dX11_text_178 rfl (lv_at hl 0 rfl) ?_
              refine r_getF (off := 4) C hP (iw hw (fi_11 hk0)) hk0 fl_X11_19 rfl rfl (zw hw) dX11_text_179 ?_
              obtain ⟨r53, μ52, h54, h⟩ := bd_ok h
              refine go_v (callS_run (As := [.ref (w.2.2.1 (v0 + 4))]) (rest := []) C hl hP (hS.wide hJ).2.1 (m_X11_half l w hJ hw (v0 + 4) (karr (ff_11_5 hk0).1) (iw hw (ff_11_5 hk0).2) μ49 h54) ms_X11_300 ⟨rfl, rfl, by decide, by decide⟩ rfl rfl (Nat.le_of_ble_eq_true rfl) ⟨Nat.zero_le _, Nat.zero_le _⟩ dX11_text_182) hS (fun H locs hP hS => ?_)
              refine lv_aload_n hx hb dX11_text_185 rfl (lv_at hl 0 rfl) ?_
              refine r_getF (off := 5) C hP (iw hw (fi_11 hk0)) hk0 fl_X11_22 rfl rfl (zw hw) dX11_text_186 ?_
              obtain ⟨r56, μ55, h57, h⟩ := bd_ok h
              refine go_v (callS_run (As := [.ref (w.2.2.1 (v0 + 5))]) (rest := []) C hl hP (hS.wide hJ).2.1 (m_X11_half l w hJ hw (v0 + 5) (karr (ff_11_6 hk0).1) (iw hw (ff_11_6 hk0).2) μ52 h57) ms_X11_300 ⟨rfl, rfl, by decide, by decide⟩ rfl rfl (Nat.le_of_ble_eq_true rfl) ⟨Nat.zero_le _, Nat.zero_le _⟩ dX11_text_189) hS (fun H locs hP hS => ?_)
              refine lv_aload_n hx hb dX11_text_192 rfl (lv_at hl 0 rfl) ?_
              refine r_getF (off := 6) C hP (iw hw (fi_11 hk0)) hk0 fl_X11_25 rfl rfl (zw hw) dX11_text_193 ?_
              obtain ⟨r59, μ58, h60, h⟩ := bd_ok h
              refine go_v (callS_run (As := [.ref (w.2.2.1 (v0 + 6))]) (rest := []) C hl hP (hS.wide hJ).2.1 (m_X11_half l w hJ hw (v0 + 6) (karr (ff_11_7 hk0).1) (iw hw (ff_11_7 hk0).2) μ55 h60) ms_X11_300 ⟨rfl, rfl, by decide, by decide⟩ rfl rfl (Nat.le_of_ble_eq_true rfl) ⟨Nat.zero_le _, Nat.zero_le _⟩ dX11_text_196) hS (fun H locs hP hS => ?_)
              refine lv_aload_n hx hb dX11_text_199 rfl (lv_at hl 0 rfl) ?_
              refine r_getF (off := 7) C hP (iw hw (fi_11 hk0)) hk0 fl_X11_28 rfl rfl (zw hw) dX11_text_200 ?_
              obtain ⟨r62, μ61, h63, h⟩ := bd_ok h
              refine go_v (callS_run (As := [.ref (w.2.2.1 (v0 + 7))]) (rest := []) C hl hP (hS.wide hJ).2.1 (m_X11_half l w hJ hw (v0 + 7) (karr (ff_11_8 hk0).1) (iw hw (ff_11_8 hk0).2) μ58 h63) ms_X11_300 ⟨rfl, rfl, by decide, by decide⟩ rfl rfl (Nat.le_of_ble_eq_true rfl) ⟨Nat.zero_le _, Nat.zero_le _⟩ dX11_text_203) hS (fun H locs hP hS => ?_)
              refine lv_aload_n hx hb dX11_text_206 rfl (lv_at hl 0 rfl) ?_
              refine r_getF (off := 8) C hP (iw hw (fi_11 hk0)) hk0 fl_X11_31 rfl rfl (zw hw) dX11_text_207 ?_
              obtain ⟨r65, μ64, h66, h⟩ := bd_ok h
              refine go_v (callS_run (As := [.ref (w.2.2.1 (v0 + 8))]) (rest := []) C hl hP (hS.wide hJ).2.1 (m_X11_half l w hJ hw (v0 + 8) (karr (ff_11_9 hk0).1) (iw hw (ff_11_9 hk0).2) μ61 h66) ms_X11_300 ⟨rfl, rfl, by decide, by decide⟩ rfl rfl (Nat.le_of_ble_eq_true rfl) ⟨Nat.zero_le _, Nat.zero_le _⟩ dX11_text_210) hS (fun H locs hP hS => ?_)
              refine lv_aload_n hx hb dX11_text_213 rfl (lv_at hl 0 rfl) ?_
              refine r_getF (off := 9) C hP (iw hw (fi_11 hk0)) hk0 fl_X11_34 rfl rfl (zw hw) dX11_text_214 ?_
              obtain ⟨r68, μ67, h69, h⟩ := bd_ok h
              refine go_v (callS_run (As := [.ref (w.2.2.1 (v0 + 9))]) (rest := []) C hl hP (hS.wide hJ).2.1 (m_X11_half l w hJ hw (v0 + 9) (karr (ff_11_10 hk0).1) (iw hw (ff_11_10 hk0).2) μ64 h69) ms_X11_300 ⟨rfl, rfl, by decide, by decide⟩ rfl rfl (Nat.le_of_ble_eq_true rfl) ⟨Nat.zero_le _, Nat.zero_le _⟩ dX11_text_217) hS (fun H locs hP hS => ?_)
              refine lv_aload_n hx hb dX11_text_220 rfl (lv_at hl 0 rfl) ?_
              refine r_getF (off := 10) C hP (iw hw (fi_11 hk0)) hk0 fl_X11_37 rfl rfl (zw hw) dX11_text_221 ?_
              obtain ⟨r71, μ70, h72, h⟩ := bd_ok h
              refine go_v (callS_run (As := [.ref (w.2.2.1 (v0 + 10))]) (rest := []) C hl hP (hS.wide hJ).2.1 (m_X11_half l w hJ hw (v0 + 10) (karr (ff_11_11 hk0).1) (iw hw (ff_11_11 hk0).2) μ67 h72) ms_X11_300 ⟨rfl, rfl, by decide, by decide⟩ rfl rfl (Nat.le_of_ble_eq_true rfl) ⟨Nat.zero_le _, Nat.zero_le _⟩ dX11_text_224) hS (fun H locs hP hS => ?_)
              refine lv_aload_n hx hb dX11_text_227 rfl (lv_at hl 0 rfl) ?_
              refine r_getF (off := 11) C hP (iw hw (fi_11 hk0)) hk0 fl_X11_40 rfl rfl (zw hw) dX11_text_228 ?_
              obtain ⟨r74, μ73, h75, h⟩ := bd_ok h
              refine go_v (callS_run (As := [.ref (w.2.2.1 (v0 + 11))]) (rest := []) C hl hP (hS.wide hJ).2.1 (m_X11_half l w hJ hw (v0 + 11) (karr (ff_11_12 hk0).1) (iw hw (ff_11_12 hk0).2) μ70 h75) ms_X11_300 ⟨rfl, rfl, by decide, by decide⟩ rfl rfl (Nat.le_of_ble_eq_true rfl) ⟨Nat.zero_le _, Nat.zero_le _⟩ dX11_text_231) hS (fun H locs hP hS => ?_)
              refine lv_aload_n hx hb dX11_text_234 rfl (lv_at hl 0 rfl) ?_
              refine r_getF (off := 12) C hP (iw hw (fi_11 hk0)) hk0 fl_X11_43 rfl rfl (zw hw) dX11_text_235 ?_
              obtain ⟨r77, μ76, h78, h⟩ := bd_ok h
              refine go_v (callS_run (As := [.ref (w.2.2.1 (v0 + 12))]) (rest := []) C hl hP (hS.wide hJ).2.1 (m_X11_half l w hJ hw (v0 + 12) (karr (ff_11_13 hk0).1) (iw hw (ff_11_13 hk0).2) μ73 h78) ms_X11_300 ⟨rfl, rfl, by decide, by decide⟩ rfl rfl (Nat.le_of_ble_eq_true rfl) ⟨Nat.zero_le _, Nat.zero_le _⟩ dX11_text_238) hS (fun H locs hP hS => ?_)
              refine lv_aload_n hx hb dX11_text_241 rfl (lv_at hl 0 rfl) ?_
              refine r_getF (off := 13) C hP (iw hw (fi_11 hk0)) hk0 fl_X11_46 rfl rfl (zw hw) dX11_text_242 ?_
              obtain ⟨r80, μ79, h81, h⟩ := bd_ok h
              refine go_v (callS_run (As := [.ref (w.2.2.1 (v0 + 13))]) (rest := []) C hl hP (hS.wide hJ).2.1 (m_X11_half l w hJ hw (v0 + 13) (karr (ff_11_14 hk0).1) (iw hw (ff_11_14 hk0).2) μ76 h81) ms_X11_300 ⟨rfl, rfl, by decide, by decide⟩ rfl rfl (Nat.le_of_ble_eq_true rfl) ⟨Nat.zero_le _, Nat.zero_le _⟩ dX11_text_245) hS (fun H locs hP hS => ?_)
              refine lv_aload_n hx hb dX11_text_248 rfl (lv_at hl 0 rfl) ?_
              refine r_getF (off := 14) C hP (iw hw (fi_11 hk0)) hk0 fl_X11_49 rfl rfl (zw hw) dX11_text_249 ?_
              obtain ⟨r83, μ82, h84, h⟩ := bd_ok h
              refine go_v (callS_run (As := [.ref (w.2.2.1 (v0 + 14))]) (rest := []) C hl hP (hS.wide hJ).2.1 (m_X11_half l w hJ hw (v0 + 14) (karr (ff_11_15 hk0).1) (iw hw (ff_11_15 hk0).2) μ79 h84) ms_X11_300 ⟨rfl, rfl, by decide, by decide⟩ rfl rfl (Nat.le_of_ble_eq_true rfl) ⟨Nat.zero_le _, Nat.zero_le _⟩ dX11_text_252) hS (fun H locs hP hS => ?_)
              refine lv_aload_n hx hb dX11_text_255 rfl (lv_at hl 0 rfl) ?_
              refine r_getF (off := 15) C hP (iw hw (fi_11 hk0)) hk0 fl_X11_52 rfl rfl (zw hw) dX11_text_256 ?_
              obtain ⟨r86, μ85, h87, h⟩ := bd_ok h
              refine go_v (callS_run (As := [.ref (w.2.2.1 (v0 + 15))]) (rest := []) C hl hP (hS.wide hJ).2.1 (m_X11_half l w hJ hw (v0 + 15) (karr (ff_11_16 hk0).1) (iw hw (ff_11_16 hk0).2) μ82 h87) ms_X11_300 ⟨rfl, rfl, by decide, by decide⟩ rfl rfl (Nat.le_of_ble_eq_true rfl) ⟨Nat.zero_le _, Nat.zero_le _⟩ dX11_text_259) hS (fun H locs hP hS => ?_)
              refine lv_aload_n hx hb dX11_text_262 rfl (lv_at hl 0 rfl) ?_
              refine r_getF (off := 16) C hP (iw hw (fi_11 hk0)) hk0 fl_X11_55 rfl rfl (zw hw) dX11_text_263 ?_
              obtain ⟨r89, μ88, h90, h⟩ := bd_ok h
              refine go_v (callS_run (As := [.ref (w.2.2.1 (v0 + 16))]) (rest := []) C hl hP (hS.wide hJ).2.1 (m_X11_half l w hJ hw (v0 + 16) (karr (ff_11_17 hk0).1) (iw hw (ff_11_17 hk0).2) μ85 h90) ms_X11_300 ⟨rfl, rfl, by decide, by decide⟩ rfl rfl (Nat.le_of_ble_eq_true rfl) ⟨Nat.zero_le _, Nat.zero_le _⟩ dX11_text_266) hS (fun H locs hP hS => ?_)
              refine lv_aload_n hx hb dX11_text_269 rfl (lv_at hl 0 rfl) ?_
              refine r_getF (off := 17) C hP (iw hw (fi_11 hk0)) hk0 fl_X11_58 rfl rfl (zw hw) dX11_text_270 ?_
              obtain ⟨r92, μ91, h93, h⟩ := bd_ok h
              refine go_v (callS_run (As := [.ref (w.2.2.1 (v0 + 17))]) (rest := []) C hl hP (hS.wide hJ).2.1 (m_X11_half l w hJ hw (v0 + 17) (karr (ff_11_18 hk0).1) (iw hw (ff_11_18 hk0).2) μ88 h93) ms_X11_300 ⟨rfl, rfl, by decide, by decide⟩ rfl rfl (Nat.le_of_ble_eq_true rfl) ⟨Nat.zero_le _, Nat.zero_le _⟩ dX11_text_273) hS (fun H locs hP hS => ?_)
              refine lv_aload_n hx hb dX11_text_276 rfl (lv_at hl 0 rfl) ?_
              refine r_getF (off := 18) C hP (iw hw (fi_11 hk0)) hk0 fl_X11_61 rfl rfl (zw hw) dX11_text_277 ?_
              obtain ⟨r95, μ94, h96, h⟩ := bd_ok h
              refine go_v (callS_run (As := [.ref (w.2.2.1 (v0 + 18))]) (rest := []) C hl hP (hS.wide hJ).2.1 (m_X11_half l w hJ hw (v0 + 18) (karr (ff_11_19 hk0).1) (iw hw (ff_11_19 hk0).2) μ91 h96) ms_X11_300 ⟨rfl, rfl, by decide, by decide⟩ rfl rfl (Nat.le_of_ble_eq_true rfl) ⟨Nat.zero_le _, Nat.zero_le _⟩ dX11_text_280) hS (fun H locs hP hS => ?_)
              refine lv_aload_n hx hb dX11_text_283 rfl (lv_at hl 0 rfl) ?_
              refine r_getF (off := 19) C hP (iw hw (fi_11 hk0)) hk0 fl_X11_64 rfl rfl (zw hw) dX11_text_284 ?_
              obtain ⟨r98, μ97, h99, h⟩ := bd_ok h
              refine go_v (callS_run (As := [.ref (w.2.2.1 (v0 + 19))]) (rest := []) C hl hP (hS.wide hJ).2.1 (m_X11_half l w hJ hw (v0 + 19) (karr (ff_11_20 hk0).1) (iw hw (ff_11_20 hk0).2) μ94 h99) ms_X11_300 ⟨rfl, rfl, by decide, by decide⟩ rfl rfl (Nat.le_of_ble_eq_true rfl) ⟨Nat.zero_le _, Nat.zero_le _⟩ dX11_text_287) hS (fun H locs hP hS => ?_)
              refine lv_aload_n hx hb dX11_text_290 rfl (lv_at hl 0 rfl) ?_
              refine lv_iconst (v := (0)) hx hb dX11_text_291 (by decide) ?_
              refine r_putI C hP hS (iw hw (fi_11 hk0)) hk0 fp_X11_304 rfl dX11_text_292 (fun H locs hP hS => ?_)
              obtain ⟨μ100, eμ100, h⟩ := vl_ex h
              have hP : fP w μ100 H := by rw [eμ100]; exact hP
              refine lv_aload_n hx hb dX11_text_295 rfl (lv_at hl 0 rfl) ?_
              refine lv_iconst (v := (-1)) hx hb dX11_text_296 (by decide) ?_
              refine r_putI C hP hS (iw hw (fi_11 hk0)) hk0 fp_X11_123 rfl dX11_text_297 (fun H locs hP hS => ?_)
              obtain ⟨μ101, eμ101, h⟩ := vl_ex h
              have hP : fP w μ101 H := by rw [eμ101]; exact hP
              refine lv_aload_n hx hb dX11_text_300 rfl (lv_at hl 0 rfl) ?_
              refine lv_iconst (v := (0)) hx hb dX11_text_301 (by decide) ?_
              refine r_putZ C hP hS (iw hw (fi_11 hk0)) hk0 fp_X11_307 rfl (Or.inl rfl) dX11_text_302 (fun H locs hP hS => ?_)
              obtain ⟨μ102, eμ102, h⟩ := vl_ex h
              have hP : fP w μ102 H := by rw [eμ102]; exact hP
              refine lv_aload_n hx hb dX11_text_305 rfl (lv_at hl 0 rfl) ?_
              refine lv_iconst (v := (0)) hx hb dX11_text_306 (by decide) ?_
              refine r_putI C hP hS (iw hw (fi_11 hk0)) hk0 fp_X11_311 rfl dX11_text_307 (fun H locs hP hS => ?_)
              obtain ⟨μ103, eμ103, h⟩ := vl_ex h
              have hP : fP w μ103 H := by rw [eμ103]; exact hP
              refine lv_aload_n hx hb dX11_text_310 rfl (lv_at hl 0 rfl) ?_
              obtain ⟨r105, μ104, h106, h⟩ := bd_ok h
              refine go_v (callV_run (As := []) (rest := []) C hl hP (hS.wide hJ).2.1 (iw hw (fi_11 hk0)) hk0 (m_X11_begins l w hJ hw v0 hk0 μ103 h106) mv_X11_145 ⟨rfl, rfl, by decide, by decide⟩ rfl rfl (Nat.le_of_ble_eq_true rfl) ⟨Nat.zero_le _, Nat.zero_le _⟩ dX11_text_311) hS (fun H locs hP hS => ?_)
              refine lv_aload_n hx hb dX11_text_314 rfl (lv_at hl 0 rfl) ?_
              refine r_getI C hP (iw hw (fi_11 hk0)) hk0 fl_X11_258 (Or.inl rfl) dX11_text_315 ?_
              exact r_iret C hr hP hS h dX11_text_318
            · replace h := if_f c45 h
              refine lv_iconst (v := (-1)) hx hb dX11_text_162 (by decide) ?_
              exact r_iret C hr hP hS h dX11_text_163
    · replace h := if_f c3 h
      refine lv_bipush (v := (-2)) hx hb dX11_text_17 (by decide) ?_
      exact r_iret C hr hP hS h dX11_text_19

def f_X11_fault (v0 : Nat) (v1 : Int32) (μ : fMem) : Option (Int32 × fMem) :=
  vl (sI μ v0 0 (0 : Int32)) fun μ1 => if v1 = 0 then some ((μ1.1 v0 30), μ1) else if v1 = (1 : Int32) then some ((μ1.1 v0 31), μ1) else some ((-1 : Int32), μ1)
def rm_X11_fault : Room := { frames := 0, cells := 0, slots := 0, locals := 0 }
set_option maxHeartbeats 4000000 in
set_option maxRecDepth 100000 in
theorem m_X11_fault (l : Launch) (w : fW) (hJ : fJ w) (hw : w.2.2.2 = sd 1) (v0 : Nat) (v1 : Int32) (hk0 : kd v0 = (4, 11)) (μ : fMem) {r : Int32} {μr : fMem} (h : f_X11_fault v0 v1 μ = some (r, μr)) : Met l yX11_fault (.code yX11_fault cX11_fault 2 (some .int) :: gw) rm_X11_fault (fPc w [.ref (w.2.2.1 v0), .int v1] μ) (fQi w r μr) 0 0 (fA w) := by
  refine met_of hJ (by decide) ?_ (Nat.le_of_ble_eq_true rfl)
  generalize ([.ref (w.2.2.1 v0), .int v1] : List Value).toArray = args
  intro p e s m below meth c ls C hr hP hl hS
  obtain ⟨hx, hb, hml, hown, hts, hK, -, hlk, hT⟩ := id C
  have hl : lv_has ls 2 [(0, .ref (w.2.2.1 v0)), (1, .int v1)] := hl
  unfold f_X11_fault at h
  refine lv_aload_n hx hb dX11_fault_0 rfl (lv_at hl 0 rfl) ?_
  refine lv_iconst (v := (0)) hx hb dX11_fault_1 (by decide) ?_
  refine r_putI C hP hS (iw hw (fi_11 hk0)) hk0 fp_X11_148 rfl dX11_fault_2 (fun H locs hP hS => ?_)
  obtain ⟨μ1, eμ1, h⟩ := vl_ex h
  have hP : fP w μ1 H := by rw [eμ1]; exact hP
  refine lv_iload_n hx hb dX11_fault_5 rfl (lv_at hl 1 rfl) ?_
  refine lv_if_ne (tgt := 16) hx hb dX11_fault_6 (by decide) (fun c2 => ?_) (fun c2 => ?_)
  · replace h := if_f c2 h
    refine lv_iload_n hx hb dX11_fault_16 rfl (lv_at hl 1 rfl) ?_
    refine lv_iconst (v := (1)) hx hb dX11_fault_17 (by decide) ?_
    refine lv_icmp_ne (tgt := 28) hx hb dX11_fault_18 (by decide) (fun c3 => ?_) (fun c3 => ?_)
    · replace h := if_f c3 h
      refine lv_iconst (v := (-1)) hx hb dX11_fault_28 (by decide) ?_
      exact r_iret C hr hP hS h dX11_fault_29
    · replace h := if_t c3 h
      refine lv_aload_n hx hb dX11_fault_21 rfl (lv_at hl 0 rfl) ?_
      refine r_getI C hP (iw hw (fi_11 hk0)) hk0 fl_X11_67 (Or.inl rfl) dX11_fault_22 ?_
      refine lv_goto (tgt := 29) hx hb dX11_fault_25 (by decide) ?_
      exact r_iret C hr hP hS h dX11_fault_29
  · replace h := if_t c2 h
    refine lv_aload_n hx hb dX11_fault_9 rfl (lv_at hl 0 rfl) ?_
    refine r_getI C hP (iw hw (fi_11 hk0)) hk0 fl_X11_297 (Or.inl rfl) dX11_fault_10 ?_
    refine lv_goto (tgt := 29) hx hb dX11_fault_13 (by decide) ?_
    exact r_iret C hr hP hS h dX11_fault_29

def f_X11_named (v0 : Nat) (v1 : Int32) (v2 : Int32) (μ : fMem) : Option (Int32 × fMem) :=
  vl (sI μ v0 0 (0 : Int32)) fun μ1 => if v1 = 0 then bd (f_X11_found (v0 + 3) (0 : Int32) (μ1.1 (v0 + 2) 0) v2 μ1) fun r4 μ3 => some (r4, μ3) else if v1 = 1 then bd (f_X11_found (v0 + 6) (0 : Int32) (μ1.1 (v0 + 2) 2) v2 μ1) fun r8 μ7 => some (r8, μ7) else if v1 = 2 then bd (f_X11_found (v0 + 10) (0 : Int32) (μ1.1 (v0 + 2) 3) v2 μ1) fun r12 μ11 => some (r12, μ11) else some ((-1 : Int32), μ1)
def rm_X11_named : Room := { frames := 1, cells := 0, slots := 0, locals := 24 }
set_option maxHeartbeats 4000000 in
set_option maxRecDepth 100000 in
theorem m_X11_named (l : Launch) (w : fW) (hJ : fJ w) (hw : w.2.2.2 = sd 1) (v0 : Nat) (v1 : Int32) (v2 : Int32) (hk0 : kd v0 = (4, 11)) (μ : fMem) {r : Int32} {μr : fMem} (h : f_X11_named v0 v1 v2 μ = some (r, μr)) : Met l yX11_named (.code yX11_named cX11_named 3 (some .int) :: gw) rm_X11_named (fPc w [.ref (w.2.2.1 v0), .int v1, .int v2] μ) (fQi w r μr) 0 0 (fA w) := by
  refine met_of hJ (by decide) ?_ (Nat.le_of_ble_eq_true rfl)
  generalize ([.ref (w.2.2.1 v0), .int v1, .int v2] : List Value).toArray = args
  intro p e s m below meth c ls C hr hP hl hS
  obtain ⟨hx, hb, hml, hown, hts, hK, -, hlk, hT⟩ := id C
  have hl : lv_has ls 3 [(0, .ref (w.2.2.1 v0)), (1, .int v1), (2, .int v2)] := hl
  unfold f_X11_named at h
  refine lv_aload_n hx hb dX11_named_0 rfl (lv_at hl 0 rfl) ?_
  refine lv_iconst (v := (0)) hx hb dX11_named_1 (by decide) ?_
  refine r_putI C hP hS (iw hw (fi_11 hk0)) hk0 fp_X11_148 rfl dX11_named_2 (fun H locs hP hS => ?_)
  obtain ⟨μ1, eμ1, h⟩ := vl_ex h
  have hP : fP w μ1 H := by rw [eμ1]; exact hP
  refine lv_iload_n hx hb dX11_named_5 rfl (lv_at hl 1 rfl) ?_
  by_cases c2 : v1 = 0
  · replace h := if_t c2 h
    refine lv_tableIn (off := 26) (tgt := 32) hx hb dX11_named_6 (by rw [c2]; decide) (by rw [c2]; decide) (by rw [c2]; rfl) (by decide) ?_
    refine lv_aload_n hx hb dX11_named_32 rfl (lv_at hl 0 rfl) ?_
    refine r_getF (off := 3) C hP (iw hw (fi_11 hk0)) hk0 fl_X11_16 rfl rfl (zw hw) dX11_named_33 ?_
    refine lv_iconst (v := (0)) hx hb dX11_named_36 (by decide) ?_
    refine lv_aload_n hx hb dX11_named_37 rfl (lv_at hl 0 rfl) ?_
    refine r_getF (off := 2) C hP (iw hw (fi_11 hk0)) hk0 fl_X11_13 rfl rfl (zw hw) dX11_named_38 ?_
    refine lv_iconst (v := (0)) hx hb dX11_named_41 (by decide) ?_
    refine n_iald (j := 0) C hP (iw hw (ff_11_3 hk0).2) (ff_11_3 hk0).1 (by decide) (by decide) dX11_named_42 ?_
    refine lv_iload_n hx hb dX11_named_43 rfl (lv_at hl 2 rfl) ?_
    obtain ⟨r4, μ3, h5, h⟩ := bd_ok h
    refine go_i (callS_run (As := [.ref (w.2.2.1 (v0 + 3)), .int (0 : Int32), .int (μ1.1 (v0 + 2) 0), .int v2]) (rest := []) C hl hP (hS.wide hJ).2.1 (m_X11_found l w hJ hw (v0 + 3) (0 : Int32) (μ1.1 (v0 + 2) 0) v2 (karr (ff_11_4 hk0).1) (iw hw (ff_11_4 hk0).2) μ1 h5) ms_X11_214 ⟨rfl, rfl, by decide, by decide⟩ rfl rfl (Nat.le_of_ble_eq_true rfl) ⟨Nat.zero_le _, Nat.zero_le _⟩ dX11_named_44) hS (fun H locs hP hS => ?_)
    exact r_iret C hr hP hS h dX11_named_47
  replace h := if_f c2 h
  by_cases c6 : v1 = 1
  · replace h := if_t c6 h
    refine lv_tableIn (off := 42) (tgt := 48) hx hb dX11_named_6 (by rw [c6]; decide) (by rw [c6]; decide) (by rw [c6]; rfl) (by decide) ?_
    refine lv_aload_n hx hb dX11_named_48 rfl (lv_at hl 0 rfl) ?_
    refine r_getF (off := 6) C hP (iw hw (fi_11 hk0)) hk0 fl_X11_25 rfl rfl (zw hw) dX11_named_49 ?_
    refine lv_iconst (v := (0)) hx hb dX11_named_52 (by decide) ?_
    refine lv_aload_n hx hb dX11_named_53 rfl (lv_at hl 0 rfl) ?_
    refine r_getF (off := 2) C hP (iw hw (fi_11 hk0)) hk0 fl_X11_13 rfl rfl (zw hw) dX11_named_54 ?_
    refine lv_iconst (v := (2)) hx hb dX11_named_57 (by decide) ?_
    refine n_iald (j := 2) C hP (iw hw (ff_11_3 hk0).2) (ff_11_3 hk0).1 (by decide) (by decide) dX11_named_58 ?_
    refine lv_iload_n hx hb dX11_named_59 rfl (lv_at hl 2 rfl) ?_
    obtain ⟨r8, μ7, h9, h⟩ := bd_ok h
    refine go_i (callS_run (As := [.ref (w.2.2.1 (v0 + 6)), .int (0 : Int32), .int (μ1.1 (v0 + 2) 2), .int v2]) (rest := []) C hl hP (hS.wide hJ).2.1 (m_X11_found l w hJ hw (v0 + 6) (0 : Int32) (μ1.1 (v0 + 2) 2) v2 (karr (ff_11_7 hk0).1) (iw hw (ff_11_7 hk0).2) μ1 h9) ms_X11_214 ⟨rfl, rfl, by decide, by decide⟩ rfl rfl (Nat.le_of_ble_eq_true rfl) ⟨Nat.zero_le _, Nat.zero_le _⟩ dX11_named_60) hS (fun H locs hP hS => ?_)
    exact r_iret C hr hP hS h dX11_named_63
  replace h := if_f c6 h
  by_cases c10 : v1 = 2
  · replace h := if_t c10 h
    refine lv_tableIn (off := 58) (tgt := 64) hx hb dX11_named_6 (by rw [c10]; decide) (by rw [c10]; decide) (by rw [c10]; rfl) (by decide) ?_
    refine lv_aload_n hx hb dX11_named_64 rfl (lv_at hl 0 rfl) ?_
    refine r_getF (off := 10) C hP (iw hw (fi_11 hk0)) hk0 fl_X11_37 rfl rfl (zw hw) dX11_named_65 ?_
    refine lv_iconst (v := (0)) hx hb dX11_named_68 (by decide) ?_
    refine lv_aload_n hx hb dX11_named_69 rfl (lv_at hl 0 rfl) ?_
    refine r_getF (off := 2) C hP (iw hw (fi_11 hk0)) hk0 fl_X11_13 rfl rfl (zw hw) dX11_named_70 ?_
    refine lv_iconst (v := (3)) hx hb dX11_named_73 (by decide) ?_
    refine n_iald (j := 3) C hP (iw hw (ff_11_3 hk0).2) (ff_11_3 hk0).1 (by decide) (by decide) dX11_named_74 ?_
    refine lv_iload_n hx hb dX11_named_75 rfl (lv_at hl 2 rfl) ?_
    obtain ⟨r12, μ11, h13, h⟩ := bd_ok h
    refine go_i (callS_run (As := [.ref (w.2.2.1 (v0 + 10)), .int (0 : Int32), .int (μ1.1 (v0 + 2) 3), .int v2]) (rest := []) C hl hP (hS.wide hJ).2.1 (m_X11_found l w hJ hw (v0 + 10) (0 : Int32) (μ1.1 (v0 + 2) 3) v2 (karr (ff_11_11 hk0).1) (iw hw (ff_11_11 hk0).2) μ1 h13) ms_X11_214 ⟨rfl, rfl, by decide, by decide⟩ rfl rfl (Nat.le_of_ble_eq_true rfl) ⟨Nat.zero_le _, Nat.zero_le _⟩ dX11_named_76) hS (fun H locs hP hS => ?_)
    exact r_iret C hr hP hS h dX11_named_79
  replace h := if_f c10 h
  have ho : Int32.toInt v1 < 0 ∨ 2 < Int32.toInt v1 := tb_out _ _ _ (fun v h1 h2 => by
    rcases (show v = 0 ∨ v = 1 ∨ v = 2 by omega) with rfl | rfl | rfl
    · exact c2
    · exact c6
    · exact c10)
  refine lv_tableOut (tgt := 80) hx hb dX11_named_6 ho (by decide) ?_
  refine lv_iconst (v := (-1)) hx hb dX11_named_80 (by decide) ?_
  exact r_iret C hr hP hS h dX11_named_81

def f_X11_is (v0 : Int32) (μ : fMem) : Option (Int64 × fMem) :=
  if v0 = 0 then some ((0 : Int64), μ) else some ((1 : Int64), μ)
def rm_X11_is : Room := { frames := 0, cells := 0, slots := 0, locals := 0 }
set_option maxHeartbeats 4000000 in
set_option maxRecDepth 100000 in
theorem m_X11_is (l : Launch) (w : fW) (hJ : fJ w) (hw : w.2.2.2 = sd 1) (v0 : Int32) (μ : fMem) {r : Int64} {μr : fMem} (h : f_X11_is v0 μ = some (r, μr)) : Met l yX11_is (.code yX11_is cX11_is 1 (some .long) :: gw) rm_X11_is (fPc w [.int v0] μ) (fQl w r μr) 0 0 (fA w) := by
  refine met_of hJ (by decide) ?_ (Nat.le_of_ble_eq_true rfl)
  generalize ([.int v0] : List Value).toArray = args
  intro p e s m below meth c ls C hr hP hl hS
  obtain ⟨hx, hb, hml, hown, hts, hK, -, hlk, hT⟩ := id C
  have hl : lv_has ls 1 [(0, .int v0)] := hl
  unfold f_X11_is at h
  refine lv_iload_n hx hb dX11_is_0 rfl (lv_at hl 0 rfl) ?_
  refine lv_if_eq (tgt := 8) hx hb dX11_is_1 (by decide) (fun c1 => ?_) (fun c1 => ?_)
  · replace h := if_t c1 h
    refine lv_lconst (v := 0) hx hb dX11_is_8 (by decide) ?_
    exact r_lret C hr hP hS h dX11_is_9
  · replace h := if_f c1 h
    refine lv_lconst (v := 1) hx hb dX11_is_4 (by decide) ?_
    refine lv_goto (tgt := 9) hx hb dX11_is_5 (by decide) ?_
    exact r_lret C hr hP hS h dX11_is_9

def f_X11_works_j407 (v0 : Nat) (v6 : Int64) (μ : fMem) : Option (Int32 × fMem) :=
  gd (ixo ((μ.1 v0 36) - (1 : Int32)) 64) (vl (sL μ (v0 + 21) (Int32.toNatClampNeg ((μ.1 v0 36) - (1 : Int32))) v6) fun μ37 => if 0 < (lg_cmp v6 (1000000000000 : Int64)) then gd (bl (0 : Int32)) (some ((0 : Int32), μ37)) else if (lg_cmp v6 (-1000000000000 : Int64)) < 0 then gd (bl (0 : Int32)) (some ((0 : Int32), μ37)) else gd (bl (1 : Int32)) (some ((1 : Int32), μ37)))
def f_X11_works_j402 (v0 : Nat) (t0 : Int32) (μ : fMem) : Option (Int32 × fMem) :=
  bd (f_X11_is t0 μ) fun r42 μ41 => f_X11_works_j407 v0 r42 μ41
def f_X11_works_j397 (v0 : Nat) (μ : fMem) : Option (Int32 × fMem) :=
  f_X11_works_j402 v0 (1 : Int32) μ
def f_X11_works_j376 (v0 : Nat) (t0 : Int32) (μ : fMem) : Option (Int32 × fMem) :=
  bd (f_X11_is t0 μ) fun r45 μ44 => f_X11_works_j407 v0 r45 μ44
def f_X11_works_j375 (v0 : Nat) (μ : fMem) : Option (Int32 × fMem) :=
  f_X11_works_j376 v0 (0 : Int32) μ
def f_X11_works_j350 (v0 : Nat) (t0 : Int32) (μ : fMem) : Option (Int32 × fMem) :=
  bd (f_X11_is t0 μ) fun r48 μ47 => f_X11_works_j407 v0 r48 μ47
def f_X11_works_j330 (v0 : Nat) (t0 : Int32) (μ : fMem) : Option (Int32 × fMem) :=
  bd (f_X11_is t0 μ) fun r51 μ50 => f_X11_works_j407 v0 r51 μ50
def f_X11_works_j310 (v0 : Nat) (t0 : Int32) (μ : fMem) : Option (Int32 × fMem) :=
  bd (f_X11_is t0 μ) fun r54 μ53 => f_X11_works_j407 v0 r54 μ53
def f_X11_works_j290 (v0 : Nat) (t0 : Int32) (μ : fMem) : Option (Int32 × fMem) :=
  bd (f_X11_is t0 μ) fun r57 μ56 => f_X11_works_j407 v0 r57 μ56
def f_X11_works_j270 (v0 : Nat) (t0 : Int32) (μ : fMem) : Option (Int32 × fMem) :=
  bd (f_X11_is t0 μ) fun r60 μ59 => f_X11_works_j407 v0 r60 μ59
def f_X11_works_j250 (v0 : Nat) (t0 : Int32) (μ : fMem) : Option (Int32 × fMem) :=
  bd (f_X11_is t0 μ) fun r63 μ62 => f_X11_works_j407 v0 r63 μ62
def f_X11_works_j212 (v0 : Nat) (v2 : Int64) (v4 : Int64) (μ : fMem) : Option (Int32 × fMem) :=
  vl (v4 * v2) fun x65 => f_X11_works_j407 v0 x65 μ
def f_X11_works_j40 (t0 : Nat) (t1 : Int32) (t2 : Int32) (μ : fMem) : Option (Int32 × fMem) :=
  bd (f_X11_is t2 μ) fun r67 μ66 => gd (ixo t1 64) (vl (sL μ66 t0 (Int32.toNatClampNeg t1) r67) fun μ69 => gd (bl (1 : Int32)) (some ((1 : Int32), μ69)))
def f_X11_works (v0 : Nat) (v1 : Int32) (μ : fMem) : Option (Int32 × fMem) :=
  gd (ixo ((μ.1 v0 36) - (1 : Int32)) 64) (vl (μ.2.1 (v0 + 21) (Int32.toNatClampNeg ((μ.1 v0 36) - (1 : Int32)))) fun x2 => if v1 = (260 : Int32) then if (lg_cmp x2 (0 : Int64)) = 0 then f_X11_works_j40 (v0 + 21) ((μ.1 v0 36) - (1 : Int32)) (1 : Int32) μ else f_X11_works_j40 (v0 + 21) ((μ.1 v0 36) - (1 : Int32)) (0 : Int32) μ else gd (ixo ((μ.1 v0 36) - (2 : Int32)) 64) (vl (μ.2.1 (v0 + 21) (Int32.toNatClampNeg ((μ.1 v0 36) - (2 : Int32)))) fun x5 => vl (sI μ v0 36 ((μ.1 v0 36) - (1 : Int32))) fun μ6 => if v1 = 42 then if (lg_cmp x5 (0 : Int64)) = 0 then f_X11_works_j212 v0 x2 x5 μ6 else gd (¬ (lab x5) = 0) (if (lg_cmp (lab x2) ((1000000000000 : Int64) / (lab x5))) ≤ 0 then f_X11_works_j212 v0 x2 x5 μ6 else gd (bl (0 : Int32)) (some ((0 : Int32), μ6))) else if v1 = 43 then vl (x5 + x2) fun x12 => f_X11_works_j407 v0 x12 μ6 else if v1 = 45 then vl (x5 - x2) fun x14 => f_X11_works_j407 v0 x14 μ6 else if v1 = 47 then if (lg_cmp x2 (0 : Int64)) = 0 then gd (bl (0 : Int32)) (some ((0 : Int32), μ6)) else gd (¬ x2 = 0) (vl (x5 / x2) fun x18 => f_X11_works_j407 v0 x18 μ6) else if v1 = 60 then if 0 ≤ (lg_cmp x5 x2) then f_X11_works_j250 v0 (0 : Int32) μ6 else f_X11_works_j250 v0 (1 : Int32) μ6 else if v1 = 61 then if (lg_cmp x5 x2) = 0 then f_X11_works_j290 v0 (1 : Int32) μ6 else f_X11_works_j290 v0 (0 : Int32) μ6 else if v1 = 62 then if (lg_cmp x5 x2) ≤ 0 then f_X11_works_j270 v0 (0 : Int32) μ6 else f_X11_works_j270 v0 (1 : Int32) μ6 else if v1 = 256 then if 0 < (lg_cmp x5 x2) then f_X11_works_j310 v0 (0 : Int32) μ6 else f_X11_works_j310 v0 (1 : Int32) μ6 else if v1 = 257 then if (lg_cmp x5 x2) = 0 then f_X11_works_j350 v0 (0 : Int32) μ6 else f_X11_works_j350 v0 (1 : Int32) μ6 else if v1 = 258 then if (lg_cmp x5 x2) < 0 then f_X11_works_j330 v0 (0 : Int32) μ6 else f_X11_works_j330 v0 (1 : Int32) μ6 else if v1 = 261 then if (lg_cmp x5 (0 : Int64)) = 0 then f_X11_works_j375 v0 μ6 else if (lg_cmp x2 (0 : Int64)) = 0 then f_X11_works_j375 v0 μ6 else f_X11_works_j376 v0 (1 : Int32) μ6 else if (lg_cmp x5 (0 : Int64)) = 0 then if (lg_cmp x2 (0 : Int64)) = 0 then f_X11_works_j402 v0 (0 : Int32) μ6 else f_X11_works_j397 v0 μ6 else f_X11_works_j397 v0 μ6))
def rm_X11_works : Room := { frames := 1, cells := 0, slots := 0, locals := 80 }
set_option maxHeartbeats 4000000 in
set_option maxRecDepth 100000 in
theorem m_X11_works (l : Launch) (w : fW) (hJ : fJ w) (hw : w.2.2.2 = sd 1) (v0 : Nat) (v1 : Int32) (hk0 : kd v0 = (4, 11)) (μ : fMem) {r : Int32} {μr : fMem} (h : f_X11_works v0 v1 μ = some (r, μr)) : Met l yX11_works (.code yX11_works cX11_works 8 (some .boolean) :: gw) rm_X11_works (fPc w [.ref (w.2.2.1 v0), .int v1] μ) (fQi w r μr) 0 0 (fA w) := by
  refine met_of hJ (by decide) ?_ (Nat.le_of_ble_eq_true rfl)
  generalize ([.ref (w.2.2.1 v0), .int v1] : List Value).toArray = args
  intro p e s m below meth c ls C hr hP hl hS
  obtain ⟨hx, hb, hml, hown, hts, hK, -, hlk, hT⟩ := id C
  have hl : lv_has ls 8 [(0, .ref (w.2.2.1 v0)), (1, .int v1)] := hl
  unfold f_X11_works at h
  have J407 : ∀ (v6 : Int64) (μ : fMem), f_X11_works_j407 v0 v6 μ = some (r, μr) → WW p l e rm_X11_works s m args below meth c (MQ below (fQi w r μr) args s 0 0 (fA w)) w μ 8 407 [] [(0, .ref (w.2.2.1 v0)), (6, .long v6)] := by
    intro v6 μ  h H locs ls hP hS hl
    unfold f_X11_works_j407 at h
    refine lv_aload_n hx hb dX11_works_407 rfl (lv_at hl 0 rfl) ?_
    refine r_getF (off := 21) C hP (iw hw (fi_11 hk0)) hk0 fl_X11_75 rfl rfl (zw hw) dX11_works_408 ?_
    refine lv_aload_n hx hb dX11_works_411 rfl (lv_at hl 0 rfl) ?_
    refine r_getI C hP (iw hw (fi_11 hk0)) hk0 fl_X11_314 (Or.inl rfl) dX11_works_412 ?_
    refine lv_iconst (v := (1)) hx hb dX11_works_415 (by decide) ?_
    refine lv_isub hx hb dX11_works_416 ?_
    refine lv_lload hx hb dX11_works_417 (lv_at hl 1 rfl) ?_
    obtain ⟨g38, h⟩ := gd_ok h
    refine r_last C hP hS (iw hw (ff_11_35 hk0).2) (ff_11_35 hk0).1 g38 dX11_works_419 (fun H locs hP hS => ?_)
    obtain ⟨μ37, eμ37, h⟩ := vl_ex h
    have hP : fP w μ37 H := by rw [eμ37]; exact hP
    refine lv_lload hx hb dX11_works_420 (lv_at hl 1 rfl) ?_
    refine lv_ldc2 hx hb hown (hts _ ct_X11_327) dX11_works_422 ?_
    refine W.lcmp hx hb dX11_works_425 ?_
    refine lv_if_gt (tgt := 442) hx hb dX11_works_426 (by decide) (fun c39 => ?_) (fun c39 => ?_)
    · replace h := if_t c39 h
      refine lv_iconst (v := (0)) hx hb dX11_works_442 (by decide) ?_
      exact r_zret C hr hP hS h dX11_works_443
    · replace h := if_f c39 h
      refine lv_lload hx hb dX11_works_429 (lv_at hl 1 rfl) ?_
      refine lv_ldc2 hx hb hown (hts _ ct_X11_329) dX11_works_431 ?_
      refine W.lcmp hx hb dX11_works_434 ?_
      refine lv_if_lt (tgt := 442) hx hb dX11_works_435 (by decide) (fun c40 => ?_) (fun c40 => ?_)
      · replace h := if_t c40 h
        refine lv_iconst (v := (0)) hx hb dX11_works_442 (by decide) ?_
        exact r_zret C hr hP hS h dX11_works_443
      · replace h := if_f c40 h
        refine lv_iconst (v := (1)) hx hb dX11_works_438 (by decide) ?_
        refine lv_goto (tgt := 443) hx hb dX11_works_439 (by decide) ?_
        exact r_zret C hr hP hS h dX11_works_443
  have J402 : ∀ (t0 : Int32) (μ : fMem), f_X11_works_j402 v0 t0 μ = some (r, μr) → WW p l e rm_X11_works s m args below meth c (MQ below (fQi w r μr) args s 0 0 (fA w)) w μ 8 402 [.int t0] [(0, .ref (w.2.2.1 v0))] := by
    intro t0 μ  h H locs ls hP hS hl
    unfold f_X11_works_j402 at h
    obtain ⟨r42, μ41, h43, h⟩ := bd_ok h
    refine go_l (callS_run (As := [.int t0]) (rest := []) C hl hP (hS.wide hJ).2.1 (m_X11_is l w hJ hw t0  μ h43) ms_X11_317 ⟨rfl, rfl, by decide, by decide⟩ rfl rfl (Nat.le_of_ble_eq_true rfl) ⟨Nat.zero_le _, Nat.zero_le _⟩ dX11_works_402) hS (fun H locs hP hS => ?_)
    refine lv_lstore (lv' := [(6, .long r42), (0, .ref (w.2.2.1 v0))]) hx hb dX11_works_405 hl (by decide) rfl (fun ls hl => ?_)
    exact J407 r42 μ41  h _ _ _ hP hS (lv_sub hl [1, 0] rfl)
  have J397 : ∀  (μ : fMem), f_X11_works_j397 v0 μ = some (r, μr) → WW p l e rm_X11_works s m args below meth c (MQ below (fQi w r μr) args s 0 0 (fA w)) w μ 8 397 [] [(0, .ref (w.2.2.1 v0))] := by
    intro  μ  h H locs ls hP hS hl
    unfold f_X11_works_j397 at h
    refine lv_iconst (v := (1)) hx hb dX11_works_397 (by decide) ?_
    refine lv_goto (tgt := 402) hx hb dX11_works_398 (by decide) ?_
    exact J402 (1 : Int32) μ  h _ _ _ hP hS (lv_sub hl [0] rfl)
  have J376 : ∀ (t0 : Int32) (μ : fMem), f_X11_works_j376 v0 t0 μ = some (r, μr) → WW p l e rm_X11_works s m args below meth c (MQ below (fQi w r μr) args s 0 0 (fA w)) w μ 8 376 [.int t0] [(0, .ref (w.2.2.1 v0))] := by
    intro t0 μ  h H locs ls hP hS hl
    unfold f_X11_works_j376 at h
    obtain ⟨r45, μ44, h46, h⟩ := bd_ok h
    refine go_l (callS_run (As := [.int t0]) (rest := []) C hl hP (hS.wide hJ).2.1 (m_X11_is l w hJ hw t0  μ h46) ms_X11_317 ⟨rfl, rfl, by decide, by decide⟩ rfl rfl (Nat.le_of_ble_eq_true rfl) ⟨Nat.zero_le _, Nat.zero_le _⟩ dX11_works_376) hS (fun H locs hP hS => ?_)
    refine lv_lstore (lv' := [(6, .long r45), (0, .ref (w.2.2.1 v0))]) hx hb dX11_works_379 hl (by decide) rfl (fun ls hl => ?_)
    refine lv_goto (tgt := 407) hx hb dX11_works_381 (by decide) ?_
    exact J407 r45 μ44  h _ _ _ hP hS (lv_sub hl [1, 0] rfl)
  have J375 : ∀  (μ : fMem), f_X11_works_j375 v0 μ = some (r, μr) → WW p l e rm_X11_works s m args below meth c (MQ below (fQi w r μr) args s 0 0 (fA w)) w μ 8 375 [] [(0, .ref (w.2.2.1 v0))] := by
    intro  μ  h H locs ls hP hS hl
    unfold f_X11_works_j375 at h
    refine lv_iconst (v := (0)) hx hb dX11_works_375 (by decide) ?_
    exact J376 (0 : Int32) μ  h _ _ _ hP hS (lv_sub hl [0] rfl)
  have J350 : ∀ (t0 : Int32) (μ : fMem), f_X11_works_j350 v0 t0 μ = some (r, μr) → WW p l e rm_X11_works s m args below meth c (MQ below (fQi w r μr) args s 0 0 (fA w)) w μ 8 350 [.int t0] [(0, .ref (w.2.2.1 v0))] := by
    intro t0 μ  h H locs ls hP hS hl
    unfold f_X11_works_j350 at h
    obtain ⟨r48, μ47, h49, h⟩ := bd_ok h
    refine go_l (callS_run (As := [.int t0]) (rest := []) C hl hP (hS.wide hJ).2.1 (m_X11_is l w hJ hw t0  μ h49) ms_X11_317 ⟨rfl, rfl, by decide, by decide⟩ rfl rfl (Nat.le_of_ble_eq_true rfl) ⟨Nat.zero_le _, Nat.zero_le _⟩ dX11_works_350) hS (fun H locs hP hS => ?_)
    refine lv_lstore (lv' := [(6, .long r48), (0, .ref (w.2.2.1 v0))]) hx hb dX11_works_353 hl (by decide) rfl (fun ls hl => ?_)
    refine lv_goto (tgt := 407) hx hb dX11_works_355 (by decide) ?_
    exact J407 r48 μ47  h _ _ _ hP hS (lv_sub hl [1, 0] rfl)
  have J330 : ∀ (t0 : Int32) (μ : fMem), f_X11_works_j330 v0 t0 μ = some (r, μr) → WW p l e rm_X11_works s m args below meth c (MQ below (fQi w r μr) args s 0 0 (fA w)) w μ 8 330 [.int t0] [(0, .ref (w.2.2.1 v0))] := by
    intro t0 μ  h H locs ls hP hS hl
    unfold f_X11_works_j330 at h
    obtain ⟨r51, μ50, h52, h⟩ := bd_ok h
    refine go_l (callS_run (As := [.int t0]) (rest := []) C hl hP (hS.wide hJ).2.1 (m_X11_is l w hJ hw t0  μ h52) ms_X11_317 ⟨rfl, rfl, by decide, by decide⟩ rfl rfl (Nat.le_of_ble_eq_true rfl) ⟨Nat.zero_le _, Nat.zero_le _⟩ dX11_works_330) hS (fun H locs hP hS => ?_)
    refine lv_lstore (lv' := [(6, .long r51), (0, .ref (w.2.2.1 v0))]) hx hb dX11_works_333 hl (by decide) rfl (fun ls hl => ?_)
    refine lv_goto (tgt := 407) hx hb dX11_works_335 (by decide) ?_
    exact J407 r51 μ50  h _ _ _ hP hS (lv_sub hl [1, 0] rfl)
  have J310 : ∀ (t0 : Int32) (μ : fMem), f_X11_works_j310 v0 t0 μ = some (r, μr) → WW p l e rm_X11_works s m args below meth c (MQ below (fQi w r μr) args s 0 0 (fA w)) w μ 8 310 [.int t0] [(0, .ref (w.2.2.1 v0))] := by
    intro t0 μ  h H locs ls hP hS hl
    unfold f_X11_works_j310 at h
    obtain ⟨r54, μ53, h55, h⟩ := bd_ok h
    refine go_l (callS_run (As := [.int t0]) (rest := []) C hl hP (hS.wide hJ).2.1 (m_X11_is l w hJ hw t0  μ h55) ms_X11_317 ⟨rfl, rfl, by decide, by decide⟩ rfl rfl (Nat.le_of_ble_eq_true rfl) ⟨Nat.zero_le _, Nat.zero_le _⟩ dX11_works_310) hS (fun H locs hP hS => ?_)
    refine lv_lstore (lv' := [(6, .long r54), (0, .ref (w.2.2.1 v0))]) hx hb dX11_works_313 hl (by decide) rfl (fun ls hl => ?_)
    refine lv_goto (tgt := 407) hx hb dX11_works_315 (by decide) ?_
    exact J407 r54 μ53  h _ _ _ hP hS (lv_sub hl [1, 0] rfl)
  have J290 : ∀ (t0 : Int32) (μ : fMem), f_X11_works_j290 v0 t0 μ = some (r, μr) → WW p l e rm_X11_works s m args below meth c (MQ below (fQi w r μr) args s 0 0 (fA w)) w μ 8 290 [.int t0] [(0, .ref (w.2.2.1 v0))] := by
    intro t0 μ  h H locs ls hP hS hl
    unfold f_X11_works_j290 at h
    obtain ⟨r57, μ56, h58, h⟩ := bd_ok h
    refine go_l (callS_run (As := [.int t0]) (rest := []) C hl hP (hS.wide hJ).2.1 (m_X11_is l w hJ hw t0  μ h58) ms_X11_317 ⟨rfl, rfl, by decide, by decide⟩ rfl rfl (Nat.le_of_ble_eq_true rfl) ⟨Nat.zero_le _, Nat.zero_le _⟩ dX11_works_290) hS (fun H locs hP hS => ?_)
    refine lv_lstore (lv' := [(6, .long r57), (0, .ref (w.2.2.1 v0))]) hx hb dX11_works_293 hl (by decide) rfl (fun ls hl => ?_)
    refine lv_goto (tgt := 407) hx hb dX11_works_295 (by decide) ?_
    exact J407 r57 μ56  h _ _ _ hP hS (lv_sub hl [1, 0] rfl)
  have J270 : ∀ (t0 : Int32) (μ : fMem), f_X11_works_j270 v0 t0 μ = some (r, μr) → WW p l e rm_X11_works s m args below meth c (MQ below (fQi w r μr) args s 0 0 (fA w)) w μ 8 270 [.int t0] [(0, .ref (w.2.2.1 v0))] := by
    intro t0 μ  h H locs ls hP hS hl
    unfold f_X11_works_j270 at h
    obtain ⟨r60, μ59, h61, h⟩ := bd_ok h
    refine go_l (callS_run (As := [.int t0]) (rest := []) C hl hP (hS.wide hJ).2.1 (m_X11_is l w hJ hw t0  μ h61) ms_X11_317 ⟨rfl, rfl, by decide, by decide⟩ rfl rfl (Nat.le_of_ble_eq_true rfl) ⟨Nat.zero_le _, Nat.zero_le _⟩ dX11_works_270) hS (fun H locs hP hS => ?_)
    refine lv_lstore (lv' := [(6, .long r60), (0, .ref (w.2.2.1 v0))]) hx hb dX11_works_273 hl (by decide) rfl (fun ls hl => ?_)
    refine lv_goto (tgt := 407) hx hb dX11_works_275 (by decide) ?_
    exact J407 r60 μ59  h _ _ _ hP hS (lv_sub hl [1, 0] rfl)
  have J250 : ∀ (t0 : Int32) (μ : fMem), f_X11_works_j250 v0 t0 μ = some (r, μr) → WW p l e rm_X11_works s m args below meth c (MQ below (fQi w r μr) args s 0 0 (fA w)) w μ 8 250 [.int t0] [(0, .ref (w.2.2.1 v0))] := by
    intro t0 μ  h H locs ls hP hS hl
    unfold f_X11_works_j250 at h
    obtain ⟨r63, μ62, h64, h⟩ := bd_ok h
    refine go_l (callS_run (As := [.int t0]) (rest := []) C hl hP (hS.wide hJ).2.1 (m_X11_is l w hJ hw t0  μ h64) ms_X11_317 ⟨rfl, rfl, by decide, by decide⟩ rfl rfl (Nat.le_of_ble_eq_true rfl) ⟨Nat.zero_le _, Nat.zero_le _⟩ dX11_works_250) hS (fun H locs hP hS => ?_)
    refine lv_lstore (lv' := [(6, .long r63), (0, .ref (w.2.2.1 v0))]) hx hb dX11_works_253 hl (by decide) rfl (fun ls hl => ?_)
    refine lv_goto (tgt := 407) hx hb dX11_works_255 (by decide) ?_
    exact J407 r63 μ62  h _ _ _ hP hS (lv_sub hl [1, 0] rfl)
  have J212 : ∀ (v2 : Int64) (v4 : Int64) (μ : fMem), f_X11_works_j212 v0 v2 v4 μ = some (r, μr) → WW p l e rm_X11_works s m args below meth c (MQ below (fQi w r μr) args s 0 0 (fA w)) w μ 8 212 [] [(0, .ref (w.2.2.1 v0)), (2, .long v2), (4, .long v4)] := by
    intro v2 v4 μ  h H locs ls hP hS hl
    unfold f_X11_works_j212 at h
    refine lv_lload hx hb dX11_works_212 (lv_at hl 2 rfl) ?_
    refine lv_lload_n hx hb dX11_works_214 rfl (lv_at hl 1 rfl) ?_
    refine lv_lmul hx hb dX11_works_215 ?_
    refine lv_topl (fun x65 ex65 => ?_)
    replace h := vl_ok ex65 h
    refine lv_lstore (lv' := [(6, .long x65), (0, .ref (w.2.2.1 v0)), (2, .long v2), (4, .long v4)]) hx hb dX11_works_216 hl (by decide) rfl (fun ls hl => ?_)
    refine lv_goto (tgt := 407) hx hb dX11_works_218 (by decide) ?_
    exact J407 x65 μ  h _ _ _ hP hS (lv_sub hl [1, 0] rfl)
  have J40 : ∀ (t0 : Nat) (t1 : Int32) (t2 : Int32) (μ : fMem) (_ : kd t0 = (2, 64)) (_ : inW w.2.2.2 t0), f_X11_works_j40 t0 t1 t2 μ = some (r, μr) → WW p l e rm_X11_works s m args below meth c (MQ below (fQi w r μr) args s 0 0 (fA w)) w μ 8 40 [.int t2, .int t1, .ref (w.2.2.1 t0)] [] := by
    intro t0 t1 t2 μ kt0 it0 h H locs ls hP hS hl
    unfold f_X11_works_j40 at h
    obtain ⟨r67, μ66, h68, h⟩ := bd_ok h
    refine go_l (callS_run (As := [.int t2]) (rest := [.int t1, .ref (w.2.2.1 t0)]) C hl hP (hS.wide hJ).2.1 (m_X11_is l w hJ hw t2  μ h68) ms_X11_317 ⟨rfl, rfl, by decide, by decide⟩ rfl rfl (Nat.le_of_ble_eq_true rfl) ⟨Nat.zero_le _, Nat.zero_le _⟩ dX11_works_40) hS (fun H locs hP hS => ?_)
    obtain ⟨g70, h⟩ := gd_ok h
    refine r_last C hP hS it0 kt0 g70 dX11_works_43 (fun H locs hP hS => ?_)
    obtain ⟨μ69, eμ69, h⟩ := vl_ex h
    have hP : fP w μ69 H := by rw [eμ69]; exact hP
    refine lv_iconst (v := (1)) hx hb dX11_works_44 (by decide) ?_
    exact r_zret C hr hP hS h dX11_works_45
  refine lv_aload_n hx hb dX11_works_0 rfl (lv_at hl 0 rfl) ?_
  refine r_getF (off := 21) C hP (iw hw (fi_11 hk0)) hk0 fl_X11_75 rfl rfl (zw hw) dX11_works_1 ?_
  refine lv_aload_n hx hb dX11_works_4 rfl (lv_at hl 0 rfl) ?_
  refine r_getI C hP (iw hw (fi_11 hk0)) hk0 fl_X11_314 (Or.inl rfl) dX11_works_5 ?_
  refine lv_iconst (v := (1)) hx hb dX11_works_8 (by decide) ?_
  refine lv_isub hx hb dX11_works_9 ?_
  obtain ⟨g1, h⟩ := gd_ok h
  refine r_lald C hP (iw hw (ff_11_35 hk0).2) (ff_11_35 hk0).1 g1 dX11_works_10 ?_
  refine lv_topl (fun x2 ex2 => ?_)
  replace h := vl_ok ex2 h
  refine lv_lstore_n (lv' := [(2, .long x2), (0, .ref (w.2.2.1 v0)), (1, .int v1)]) hx hb dX11_works_11 rfl hl (by decide) rfl (fun ls hl => ?_)
  refine lv_iload_n hx hb dX11_works_12 rfl (lv_at hl 2 rfl) ?_
  refine lv_sipush (v := (260)) hx hb dX11_works_13 (by decide) ?_
  refine lv_icmp_ne (tgt := 46) hx hb dX11_works_16 (by decide) (fun c3 => ?_) (fun c3 => ?_)
  · replace h := if_f c3 h
    refine lv_aload_n hx hb dX11_works_46 rfl (lv_at hl 1 rfl) ?_
    refine r_getF (off := 21) C hP (iw hw (fi_11 hk0)) hk0 fl_X11_75 rfl rfl (zw hw) dX11_works_47 ?_
    refine lv_aload_n hx hb dX11_works_50 rfl (lv_at hl 1 rfl) ?_
    refine r_getI C hP (iw hw (fi_11 hk0)) hk0 fl_X11_314 (Or.inl rfl) dX11_works_51 ?_
    refine lv_iconst (v := (2)) hx hb dX11_works_54 (by decide) ?_
    refine lv_isub hx hb dX11_works_55 ?_
    obtain ⟨g4, h⟩ := gd_ok h
    refine r_lald C hP (iw hw (ff_11_35 hk0).2) (ff_11_35 hk0).1 g4 dX11_works_56 ?_
    refine lv_topl (fun x5 ex5 => ?_)
    replace h := vl_ok ex5 h
    refine lv_lstore (lv' := [(4, .long x5), (2, .long x2), (0, .ref (w.2.2.1 v0)), (1, .int v1)]) hx hb dX11_works_57 hl (by decide) rfl (fun ls hl => ?_)
    refine lv_aload_n hx hb dX11_works_59 rfl (lv_at hl 2 rfl) ?_
    refine lv_dup hx hb dX11_works_60 rfl ?_
    refine r_getI C hP (iw hw (fi_11 hk0)) hk0 fl_X11_314 (Or.inl rfl) dX11_works_61 ?_
    refine lv_iconst (v := (1)) hx hb dX11_works_64 (by decide) ?_
    refine lv_isub hx hb dX11_works_65 ?_
    refine r_putI C hP hS (iw hw (fi_11 hk0)) hk0 fp_X11_314 rfl dX11_works_66 (fun H locs hP hS => ?_)
    obtain ⟨μ6, eμ6, h⟩ := vl_ex h
    have hP : fP w μ6 H := by rw [eμ6]; exact hP
    refine lv_iload_n hx hb dX11_works_69 rfl (lv_at hl 3 rfl) ?_
    by_cases c7 : v1 = 42
    · replace h := if_t c7 h
      refine lv_lookup (off := 116) (tgt := 186) hx hb dX11_works_70 (by decide) (by rw [c7]; rfl) (by decide) ?_
      refine lv_lload hx hb dX11_works_186 (lv_at hl 0 rfl) ?_
      refine lv_lconst (v := 0) hx hb dX11_works_188 (by decide) ?_
      refine W.lcmp hx hb dX11_works_189 ?_
      refine lv_if_eq (tgt := 212) hx hb dX11_works_190 (by decide) (fun c8 => ?_) (fun c8 => ?_)
      · replace h := if_t c8 h
        exact J212 x2 x5 μ6  h _ _ _ hP hS (lv_sub hl [2, 1, 0] rfl)
      · replace h := if_f c8 h
        refine lv_lload_n hx hb dX11_works_193 rfl (lv_at hl 1 rfl) ?_
        refine b_labs (rest := []) C hl mm_X11_321 (by decide) (Nat.le_of_ble_eq_true rfl) dX11_works_194 ?_
        refine lv_ldc2 hx hb hown (hts _ ct_X11_327) dX11_works_197 ?_
        refine lv_lload hx hb dX11_works_200 (lv_at hl 0 rfl) ?_
        refine b_labs (rest := [.long (1000000000000 : Int64), .long (lab x2)]) C hl mm_X11_321 (by decide) (Nat.le_of_ble_eq_true rfl) dX11_works_202 ?_
        obtain ⟨g9, h⟩ := gd_ok h
        refine lv_ldiv hx hb dX11_works_205 g9 ?_
        refine W.lcmp hx hb dX11_works_206 ?_
        refine lv_if_le (tgt := 212) hx hb dX11_works_207 (by decide) (fun c10 => ?_) (fun c10 => ?_)
        · replace h := if_t c10 h
          exact J212 x2 x5 μ6  h _ _ _ hP hS (lv_sub hl [2, 1, 0] rfl)
        · replace h := if_f c10 h
          refine lv_iconst (v := (0)) hx hb dX11_works_210 (by decide) ?_
          exact r_zret C hr hP hS h dX11_works_211
    replace h := if_f c7 h
    by_cases c11 : v1 = 43
    · replace h := if_t c11 h
      refine lv_lookup (off := 98) (tgt := 168) hx hb dX11_works_70 (by decide) (by rw [c11]; rfl) (by decide) ?_
      refine lv_lload hx hb dX11_works_168 (lv_at hl 0 rfl) ?_
      refine lv_lload_n hx hb dX11_works_170 rfl (lv_at hl 1 rfl) ?_
      refine lv_ladd hx hb dX11_works_171 ?_
      refine lv_topl (fun x12 ex12 => ?_)
      replace h := vl_ok ex12 h
      refine lv_lstore (lv' := [(6, .long x12), (4, .long x5), (2, .long x2), (0, .ref (w.2.2.1 v0)), (1, .int v1)]) hx hb dX11_works_172 hl (by decide) rfl (fun ls hl => ?_)
      refine lv_goto (tgt := 407) hx hb dX11_works_174 (by decide) ?_
      exact J407 x12 μ6  h _ _ _ hP hS (lv_sub hl [3, 0] rfl)
    replace h := if_f c11 h
    by_cases c13 : v1 = 45
    · replace h := if_t c13 h
      refine lv_lookup (off := 107) (tgt := 177) hx hb dX11_works_70 (by decide) (by rw [c13]; rfl) (by decide) ?_
      refine lv_lload hx hb dX11_works_177 (lv_at hl 0 rfl) ?_
      refine lv_lload_n hx hb dX11_works_179 rfl (lv_at hl 1 rfl) ?_
      refine lv_lsub hx hb dX11_works_180 ?_
      refine lv_topl (fun x14 ex14 => ?_)
      replace h := vl_ok ex14 h
      refine lv_lstore (lv' := [(6, .long x14), (4, .long x5), (2, .long x2), (0, .ref (w.2.2.1 v0)), (1, .int v1)]) hx hb dX11_works_181 hl (by decide) rfl (fun ls hl => ?_)
      refine lv_goto (tgt := 407) hx hb dX11_works_183 (by decide) ?_
      exact J407 x14 μ6  h _ _ _ hP hS (lv_sub hl [3, 0] rfl)
    replace h := if_f c13 h
    by_cases c15 : v1 = 47
    · replace h := if_t c15 h
      refine lv_lookup (off := 151) (tgt := 221) hx hb dX11_works_70 (by decide) (by rw [c15]; rfl) (by decide) ?_
      refine lv_lload_n hx hb dX11_works_221 rfl (lv_at hl 1 rfl) ?_
      refine lv_lconst (v := 0) hx hb dX11_works_222 (by decide) ?_
      refine W.lcmp hx hb dX11_works_223 ?_
      refine lv_if_ne (tgt := 229) hx hb dX11_works_224 (by decide) (fun c16 => ?_) (fun c16 => ?_)
      · replace h := if_f c16 h
        refine lv_lload hx hb dX11_works_229 (lv_at hl 0 rfl) ?_
        refine lv_lload_n hx hb dX11_works_231 rfl (lv_at hl 1 rfl) ?_
        obtain ⟨g17, h⟩ := gd_ok h
        refine lv_ldiv hx hb dX11_works_232 g17 ?_
        refine lv_topl (fun x18 ex18 => ?_)
        replace h := vl_ok ex18 h
        refine lv_lstore (lv' := [(6, .long x18), (4, .long x5), (2, .long x2), (0, .ref (w.2.2.1 v0)), (1, .int v1)]) hx hb dX11_works_233 hl (by decide) rfl (fun ls hl => ?_)
        refine lv_goto (tgt := 407) hx hb dX11_works_235 (by decide) ?_
        exact J407 x18 μ6  h _ _ _ hP hS (lv_sub hl [3, 0] rfl)
      · replace h := if_t c16 h
        refine lv_iconst (v := (0)) hx hb dX11_works_227 (by decide) ?_
        exact r_zret C hr hP hS h dX11_works_228
    replace h := if_f c15 h
    by_cases c19 : v1 = 60
    · replace h := if_t c19 h
      refine lv_lookup (off := 168) (tgt := 238) hx hb dX11_works_70 (by decide) (by rw [c19]; rfl) (by decide) ?_
      refine lv_lload hx hb dX11_works_238 (lv_at hl 0 rfl) ?_
      refine lv_lload_n hx hb dX11_works_240 rfl (lv_at hl 1 rfl) ?_
      refine W.lcmp hx hb dX11_works_241 ?_
      refine lv_if_ge (tgt := 249) hx hb dX11_works_242 (by decide) (fun c20 => ?_) (fun c20 => ?_)
      · replace h := if_t c20 h
        refine lv_iconst (v := (0)) hx hb dX11_works_249 (by decide) ?_
        exact J250 (0 : Int32) μ6  h _ _ _ hP hS (lv_sub hl [2] rfl)
      · replace h := if_f c20 h
        refine lv_iconst (v := (1)) hx hb dX11_works_245 (by decide) ?_
        refine lv_goto (tgt := 250) hx hb dX11_works_246 (by decide) ?_
        exact J250 (1 : Int32) μ6  h _ _ _ hP hS (lv_sub hl [2] rfl)
    replace h := if_f c19 h
    by_cases c21 : v1 = 61
    · replace h := if_t c21 h
      refine lv_lookup (off := 208) (tgt := 278) hx hb dX11_works_70 (by decide) (by rw [c21]; rfl) (by decide) ?_
      refine lv_lload hx hb dX11_works_278 (lv_at hl 0 rfl) ?_
      refine lv_lload_n hx hb dX11_works_280 rfl (lv_at hl 1 rfl) ?_
      refine W.lcmp hx hb dX11_works_281 ?_
      refine lv_if_ne (tgt := 289) hx hb dX11_works_282 (by decide) (fun c22 => ?_) (fun c22 => ?_)
      · replace h := if_f c22 h
        refine lv_iconst (v := (0)) hx hb dX11_works_289 (by decide) ?_
        exact J290 (0 : Int32) μ6  h _ _ _ hP hS (lv_sub hl [2] rfl)
      · replace h := if_t c22 h
        refine lv_iconst (v := (1)) hx hb dX11_works_285 (by decide) ?_
        refine lv_goto (tgt := 290) hx hb dX11_works_286 (by decide) ?_
        exact J290 (1 : Int32) μ6  h _ _ _ hP hS (lv_sub hl [2] rfl)
    replace h := if_f c21 h
    by_cases c23 : v1 = 62
    · replace h := if_t c23 h
      refine lv_lookup (off := 188) (tgt := 258) hx hb dX11_works_70 (by decide) (by rw [c23]; rfl) (by decide) ?_
      refine lv_lload hx hb dX11_works_258 (lv_at hl 0 rfl) ?_
      refine lv_lload_n hx hb dX11_works_260 rfl (lv_at hl 1 rfl) ?_
      refine W.lcmp hx hb dX11_works_261 ?_
      refine lv_if_le (tgt := 269) hx hb dX11_works_262 (by decide) (fun c24 => ?_) (fun c24 => ?_)
      · replace h := if_t c24 h
        refine lv_iconst (v := (0)) hx hb dX11_works_269 (by decide) ?_
        exact J270 (0 : Int32) μ6  h _ _ _ hP hS (lv_sub hl [2] rfl)
      · replace h := if_f c24 h
        refine lv_iconst (v := (1)) hx hb dX11_works_265 (by decide) ?_
        refine lv_goto (tgt := 270) hx hb dX11_works_266 (by decide) ?_
        exact J270 (1 : Int32) μ6  h _ _ _ hP hS (lv_sub hl [2] rfl)
    replace h := if_f c23 h
    by_cases c25 : v1 = 256
    · replace h := if_t c25 h
      refine lv_lookup (off := 228) (tgt := 298) hx hb dX11_works_70 (by decide) (by rw [c25]; rfl) (by decide) ?_
      refine lv_lload hx hb dX11_works_298 (lv_at hl 0 rfl) ?_
      refine lv_lload_n hx hb dX11_works_300 rfl (lv_at hl 1 rfl) ?_
      refine W.lcmp hx hb dX11_works_301 ?_
      refine lv_if_gt (tgt := 309) hx hb dX11_works_302 (by decide) (fun c26 => ?_) (fun c26 => ?_)
      · replace h := if_t c26 h
        refine lv_iconst (v := (0)) hx hb dX11_works_309 (by decide) ?_
        exact J310 (0 : Int32) μ6  h _ _ _ hP hS (lv_sub hl [2] rfl)
      · replace h := if_f c26 h
        refine lv_iconst (v := (1)) hx hb dX11_works_305 (by decide) ?_
        refine lv_goto (tgt := 310) hx hb dX11_works_306 (by decide) ?_
        exact J310 (1 : Int32) μ6  h _ _ _ hP hS (lv_sub hl [2] rfl)
    replace h := if_f c25 h
    by_cases c27 : v1 = 257
    · replace h := if_t c27 h
      refine lv_lookup (off := 268) (tgt := 338) hx hb dX11_works_70 (by decide) (by rw [c27]; rfl) (by decide) ?_
      refine lv_lload hx hb dX11_works_338 (lv_at hl 0 rfl) ?_
      refine lv_lload_n hx hb dX11_works_340 rfl (lv_at hl 1 rfl) ?_
      refine W.lcmp hx hb dX11_works_341 ?_
      refine lv_if_eq (tgt := 349) hx hb dX11_works_342 (by decide) (fun c28 => ?_) (fun c28 => ?_)
      · replace h := if_t c28 h
        refine lv_iconst (v := (0)) hx hb dX11_works_349 (by decide) ?_
        exact J350 (0 : Int32) μ6  h _ _ _ hP hS (lv_sub hl [2] rfl)
      · replace h := if_f c28 h
        refine lv_iconst (v := (1)) hx hb dX11_works_345 (by decide) ?_
        refine lv_goto (tgt := 350) hx hb dX11_works_346 (by decide) ?_
        exact J350 (1 : Int32) μ6  h _ _ _ hP hS (lv_sub hl [2] rfl)
    replace h := if_f c27 h
    by_cases c29 : v1 = 258
    · replace h := if_t c29 h
      refine lv_lookup (off := 248) (tgt := 318) hx hb dX11_works_70 (by decide) (by rw [c29]; rfl) (by decide) ?_
      refine lv_lload hx hb dX11_works_318 (lv_at hl 0 rfl) ?_
      refine lv_lload_n hx hb dX11_works_320 rfl (lv_at hl 1 rfl) ?_
      refine W.lcmp hx hb dX11_works_321 ?_
      refine lv_if_lt (tgt := 329) hx hb dX11_works_322 (by decide) (fun c30 => ?_) (fun c30 => ?_)
      · replace h := if_t c30 h
        refine lv_iconst (v := (0)) hx hb dX11_works_329 (by decide) ?_
        exact J330 (0 : Int32) μ6  h _ _ _ hP hS (lv_sub hl [2] rfl)
      · replace h := if_f c30 h
        refine lv_iconst (v := (1)) hx hb dX11_works_325 (by decide) ?_
        refine lv_goto (tgt := 330) hx hb dX11_works_326 (by decide) ?_
        exact J330 (1 : Int32) μ6  h _ _ _ hP hS (lv_sub hl [2] rfl)
    replace h := if_f c29 h
    by_cases c31 : v1 = 261
    · replace h := if_t c31 h
      refine lv_lookup (off := 288) (tgt := 358) hx hb dX11_works_70 (by decide) (by rw [c31]; rfl) (by decide) ?_
      refine lv_lload hx hb dX11_works_358 (lv_at hl 0 rfl) ?_
      refine lv_lconst (v := 0) hx hb dX11_works_360 (by decide) ?_
      refine W.lcmp hx hb dX11_works_361 ?_
      refine lv_if_eq (tgt := 375) hx hb dX11_works_362 (by decide) (fun c32 => ?_) (fun c32 => ?_)
      · replace h := if_t c32 h
        exact J375  μ6  h _ _ _ hP hS (lv_sub hl [2] rfl)
      · replace h := if_f c32 h
        refine lv_lload_n hx hb dX11_works_365 rfl (lv_at hl 1 rfl) ?_
        refine lv_lconst (v := 0) hx hb dX11_works_366 (by decide) ?_
        refine W.lcmp hx hb dX11_works_367 ?_
        refine lv_if_eq (tgt := 375) hx hb dX11_works_368 (by decide) (fun c33 => ?_) (fun c33 => ?_)
        · replace h := if_t c33 h
          exact J375  μ6  h _ _ _ hP hS (lv_sub hl [2] rfl)
        · replace h := if_f c33 h
          refine lv_iconst (v := (1)) hx hb dX11_works_371 (by decide) ?_
          refine lv_goto (tgt := 376) hx hb dX11_works_372 (by decide) ?_
          exact J376 (1 : Int32) μ6  h _ _ _ hP hS (lv_sub hl [2] rfl)
    replace h := if_f c31 h
    have ho : Op.lookupswitch.offset [(42, 116), (43, 98), (45, 107), (47, 151), (60, 168), (61, 208), (62, 188), (256, 228), (257, 268), (258, 248), (261, 288)] 314 (Int32.toInt v1) = 314 := by
      rw [lv_osw (a := 42) c7 (by decide), lv_osw (a := 43) c11 (by decide), lv_osw (a := 45) c13 (by decide), lv_osw (a := 47) c15 (by decide), lv_osw (a := 60) c19 (by decide), lv_osw (a := 61) c21 (by decide), lv_osw (a := 62) c23 (by decide), lv_osw (a := 256) c25 (by decide), lv_osw (a := 257) c27 (by decide), lv_osw (a := 258) c29 (by decide), lv_osw (a := 261) c31 (by decide)]; rfl
    refine lv_lookup (off := 314) (tgt := 384) hx hb dX11_works_70 (by decide) ho (by decide) ?_
    refine lv_lload hx hb dX11_works_384 (lv_at hl 0 rfl) ?_
    refine lv_lconst (v := 0) hx hb dX11_works_386 (by decide) ?_
    refine W.lcmp hx hb dX11_works_387 ?_
    refine lv_if_ne (tgt := 397) hx hb dX11_works_388 (by decide) (fun c34 => ?_) (fun c34 => ?_)
    · replace h := if_f c34 h
      exact J397  μ6  h _ _ _ hP hS (lv_sub hl [2] rfl)
    · replace h := if_t c34 h
      refine lv_lload_n hx hb dX11_works_391 rfl (lv_at hl 1 rfl) ?_
      refine lv_lconst (v := 0) hx hb dX11_works_392 (by decide) ?_
      refine W.lcmp hx hb dX11_works_393 ?_
      refine lv_if_eq (tgt := 401) hx hb dX11_works_394 (by decide) (fun c35 => ?_) (fun c35 => ?_)
      · replace h := if_t c35 h
        refine lv_iconst (v := (0)) hx hb dX11_works_401 (by decide) ?_
        exact J402 (0 : Int32) μ6  h _ _ _ hP hS (lv_sub hl [2] rfl)
      · replace h := if_f c35 h
        exact J397  μ6  h _ _ _ hP hS (lv_sub hl [2] rfl)
  · replace h := if_t c3 h
    refine lv_aload_n hx hb dX11_works_19 rfl (lv_at hl 1 rfl) ?_
    refine r_getF (off := 21) C hP (iw hw (fi_11 hk0)) hk0 fl_X11_75 rfl rfl (zw hw) dX11_works_20 ?_
    refine lv_aload_n hx hb dX11_works_23 rfl (lv_at hl 1 rfl) ?_
    refine r_getI C hP (iw hw (fi_11 hk0)) hk0 fl_X11_314 (Or.inl rfl) dX11_works_24 ?_
    refine lv_iconst (v := (1)) hx hb dX11_works_27 (by decide) ?_
    refine lv_isub hx hb dX11_works_28 ?_
    refine lv_lload_n hx hb dX11_works_29 rfl (lv_at hl 0 rfl) ?_
    refine lv_lconst (v := 0) hx hb dX11_works_30 (by decide) ?_
    refine W.lcmp hx hb dX11_works_31 ?_
    refine lv_if_ne (tgt := 39) hx hb dX11_works_32 (by decide) (fun c36 => ?_) (fun c36 => ?_)
    · replace h := if_f c36 h
      refine lv_iconst (v := (0)) hx hb dX11_works_39 (by decide) ?_
      exact J40 (v0 + 21) ((μ.1 v0 36) - (1 : Int32)) (0 : Int32) μ (ff_11_35 hk0).1 (iw hw (ff_11_35 hk0).2) h _ _ _ hP hS (lv_sub hl [] rfl)
    · replace h := if_t c36 h
      refine lv_iconst (v := (1)) hx hb dX11_works_35 (by decide) ?_
      refine lv_goto (tgt := 40) hx hb dX11_works_36 (by decide) ?_
      exact J40 (v0 + 21) ((μ.1 v0 36) - (1 : Int32)) (1 : Int32) μ (ff_11_35 hk0).1 (iw hw (ff_11_35 hk0).2) h _ _ _ hP hS (lv_sub hl [] rfl)

