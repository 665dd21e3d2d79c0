def f_X11_fresher (v0 : Nat) (v1 : Int32) (μ : fMem) : Option (Int32 × fMem) :=
  gd (ixo ((7 : Int32) + v1) 14) (some ((μ.1 (v0 + 2) (Int32.toNatClampNeg ((7 : Int32) + v1))), μ))
def rm_X11_fresher : Room := { frames := 0, cells := 0, slots := 0, locals := 0 }
set_option maxHeartbeats 4000000 in
set_option maxRecDepth 100000 in
theorem m_X11_fresher (l : Launch) (w : fW) (hJ : fJ w) (hw : w.2.2.2 = sd 1) (v0 : Nat) (v1 : Int32) (hk0 : kd v0 = (4, 11)) (μ : fMem) {r : Int32} {μr : fMem} (h : f_X11_fresher v0 v1 μ = some (r, μr)) : Met l yX11_fresher (.code yX11_fresher cX11_fresher 2 (some .int) :: gw) rm_X11_fresher (fPc w [.ref (w.2.2.1 v0), .int v1] μ) (fQi w r μr) 0 0 (fA w) := by
  refine met_of hJ (by decide) ?_ (Nat.le_of_ble_eq_true rfl)
  generalize ([.ref (w.2.2.1 v0), .int v1] : List Value).toArray = args
  intro p e s m below meth c ls C hr hP hl hS
  obtain ⟨hx, hb, hml, hown, hts, hK, -, hlk, hT⟩ := id C
  have hl : lv_has ls 2 [(0, .ref (w.2.2.1 v0)), (1, .int v1)] := hl
  unfold f_X11_fresher at h
  refine lv_aload_n hx hb dX11_fresher_0 rfl (lv_at hl 0 rfl) ?_
  refine r_getF (off := 2) C hP (iw hw (fi_11 hk0)) hk0 fl_X11_13 rfl rfl (zw hw) dX11_fresher_1 ?_
  refine lv_bipush (v := (7)) hx hb dX11_fresher_4 (by decide) ?_
  refine lv_iload_n hx hb dX11_fresher_6 rfl (lv_at hl 1 rfl) ?_
  refine lv_iadd hx hb dX11_fresher_7 ?_
  obtain ⟨g1, h⟩ := gd_ok h
  refine r_iald C hP (iw hw (ff_11_3 hk0).2) (ff_11_3 hk0).1 g1 dX11_fresher_8 ?_
  exact r_iret C hr hP hS h dX11_fresher_9

def f_X11_reads (v0 : Nat) (v1 : Int32) (v2 : Int32) (μ : fMem) : Option (Unit × fMem) :=
  gd (ixo ((7 : Int32) + v1) 14) (vl (sI μ (v0 + 2) (Int32.toNatClampNeg ((7 : Int32) + v1)) v2) fun μ1 => some ((), μ1))
def rm_X11_reads : Room := { frames := 0, cells := 0, slots := 0, locals := 0 }
set_option maxHeartbeats 4000000 in
set_option maxRecDepth 100000 in
theorem m_X11_reads (l : Launch) (w : fW) (hJ : fJ w) (hw : w.2.2.2 = sd 1) (v0 : Nat) (v1 : Int32) (v2 : Int32) (hk0 : kd v0 = (4, 11)) (μ : fMem) {r : Unit} {μr : fMem} (h : f_X11_reads v0 v1 v2 μ = some (r, μr)) : Met l yX11_reads (.code yX11_reads cX11_reads 3 none :: gw) rm_X11_reads (fPc w [.ref (w.2.2.1 v0), .int v1, .int v2] μ) (fQv w μr) 0 0 (fA w) := by
  refine met_of hJ (by decide) ?_ (Nat.le_of_ble_eq_true rfl)
  generalize ([.ref (w.2.2.1 v0), .int v1, .int v2] : List Value).toArray = args
  intro p e s m below meth c ls C hr hP hl hS
  obtain ⟨hx, hb, hml, hown, hts, hK, -, hlk, hT⟩ := id C
  have hl : lv_has ls 3 [(0, .ref (w.2.2.1 v0)), (1, .int v1), (2, .int v2)] := hl
  unfold f_X11_reads at h
  refine lv_aload_n hx hb dX11_reads_0 rfl (lv_at hl 0 rfl) ?_
  refine r_getF (off := 2) C hP (iw hw (fi_11 hk0)) hk0 fl_X11_13 rfl rfl (zw hw) dX11_reads_1 ?_
  refine lv_bipush (v := (7)) hx hb dX11_reads_4 (by decide) ?_
  refine lv_iload_n hx hb dX11_reads_6 rfl (lv_at hl 1 rfl) ?_
  refine lv_iadd hx hb dX11_reads_7 ?_
  refine lv_iload_n hx hb dX11_reads_8 rfl (lv_at hl 2 rfl) ?_
  obtain ⟨g2, h⟩ := gd_ok h
  refine r_iast C hP hS (iw hw (ff_11_3 hk0).2) (ff_11_3 hk0).1 g2 dX11_reads_9 (fun H locs hP hS => ?_)
  obtain ⟨μ1, eμ1, h⟩ := vl_ex h
  have hP : fP w μ1 H := by rw [eμ1]; exact hP
  exact r_vret C hr hP hS h dX11_reads_10

def f_X11_roomAtHand_j52 (v0 : Nat) (μ : fMem) : Option (Int32 × fMem) :=
  if (μ.1 v0 28) = 0 then bd (f_X11_fresher v0 (0 : Int32) μ) fun r18 μ17 => bd (f_X11_found (v0 + 3) (6 : Int32) r18 (μ17.1 v0 27) μ17) fun r21 μ20 => some (r21, μ20) else some ((0 : Int32), μ)
def f_X11_roomAtHand (v0 : Nat) (μ : fMem) : Option (Int32 × fMem) :=
  if (μ.1 v0 28) = 0 then if (μ.1 v0 26) = (1 : Int32) then bd (f_X11_fresher v0 (0 : Int32) μ) fun r4 μ3 => bd (f_X11_found (v0 + 3) (6 : Int32) r4 (μ3.1 v0 27) μ3) fun r7 μ6 => if r7 = (-1 : Int32) then bd (f_X11_wrong v0 (4 : Int32) μ6) fun r11 μ10 => f_X11_roomAtHand_j52 v0 μ10 else f_X11_roomAtHand_j52 v0 μ6 else bd (f_X11_wrong v0 (1 : Int32) μ) fun r14 μ13 => f_X11_roomAtHand_j52 v0 μ13 else some ((0 : Int32), μ)
def rm_X11_roomAtHand : Room := { frames := 1, cells := 0, slots := 0, locals := 24 }
set_option maxHeartbeats 4000000 in
set_option maxRecDepth 100000 in
theorem m_X11_roomAtHand (l : Launch) (w : fW) (hJ : fJ w) (hw : w.2.2.2 = sd 1) (v0 : Nat) (hk0 : kd v0 = (4, 11)) (μ : fMem) {r : Int32} {μr : fMem} (h : f_X11_roomAtHand v0 μ = some (r, μr)) : Met l yX11_roomAtHand (.code yX11_roomAtHand cX11_roomAtHand 1 (some .int) :: gw) rm_X11_roomAtHand (fPc w [.ref (w.2.2.1 v0)] μ) (fQi w r μr) 0 0 (fA w) := by
  refine met_of hJ (by decide) ?_ (Nat.le_of_ble_eq_true rfl)
  generalize ([.ref (w.2.2.1 v0)] : List Value).toArray = args
  intro p e s m below meth c ls C hr hP hl hS
  obtain ⟨hx, hb, hml, hown, hts, hK, -, hlk, hT⟩ := id C
  have hl : lv_has ls 1 [(0, .ref (w.2.2.1 v0))] := hl
  unfold f_X11_roomAtHand at h
  have J52 : ∀  (μ : fMem), f_X11_roomAtHand_j52 v0 μ = some (r, μr) → WW p l e rm_X11_roomAtHand s m args below meth c (MQ below (fQi w r μr) args s 0 0 (fA w)) w μ 1 52 [] [(0, .ref (w.2.2.1 v0))] := by
    intro  μ  h H locs ls hP hS hl
    unfold f_X11_roomAtHand_j52 at h
    refine lv_aload_n hx hb dX11_roomAtHand_52 rfl (lv_at hl 0 rfl) ?_
    refine r_getI C hP (iw hw (fi_11 hk0)) hk0 fl_X11_202 (Or.inl rfl) dX11_roomAtHand_53 ?_
    refine lv_if_eq (tgt := 63) hx hb dX11_roomAtHand_56 (by decide) (fun c16 => ?_) (fun c16 => ?_)
    · replace h := if_t c16 h
      refine lv_aload_n hx hb dX11_roomAtHand_63 rfl (lv_at hl 0 rfl) ?_
      refine r_getF (off := 3) C hP (iw hw (fi_11 hk0)) hk0 fl_X11_16 rfl rfl (zw hw) dX11_roomAtHand_64 ?_
      refine lv_bipush (v := (6)) hx hb dX11_roomAtHand_67 (by decide) ?_
      refine lv_aload_n hx hb dX11_roomAtHand_69 rfl (lv_at hl 0 rfl) ?_
      refine lv_iconst (v := (0)) hx hb dX11_roomAtHand_70 (by decide) ?_
      obtain ⟨r18, μ17, h19, h⟩ := bd_ok h
      refine go_i (callV_run (As := [.int (0 : Int32)]) (rest := [.int (6 : Int32), .ref (w.2.2.1 (v0 + 3))]) C hl hP (hS.wide hJ).2.1 (iw hw (fi_11 hk0)) hk0 (m_X11_fresher l w hJ hw v0 (0 : Int32) hk0 μ h19) mv_X11_218 ⟨rfl, rfl, by decide, by decide⟩ rfl rfl (Nat.le_of_ble_eq_true rfl) ⟨Nat.zero_le _, Nat.zero_le _⟩ dX11_roomAtHand_71) hS (fun H locs hP hS => ?_)
      refine lv_aload_n hx hb dX11_roomAtHand_74 rfl (lv_at hl 0 rfl) ?_
      refine r_getI C hP (iw hw (fi_11 hk0)) hk0 fl_X11_177 (Or.inl rfl) dX11_roomAtHand_75 ?_
      obtain ⟨r21, μ20, h22, h⟩ := bd_ok h
      refine go_i (callS_run (As := [.ref (w.2.2.1 (v0 + 3)), .int (6 : Int32), .int r18, .int (μ17.1 v0 27)]) (rest := []) C hl hP (hS.wide hJ).2.1 (m_X11_found l w hJ hw (v0 + 3) (6 : Int32) r18 (μ17.1 v0 27) (karr (ff_11_4 hk0).1) (iw hw (ff_11_4 hk0).2) μ17 h22) ms_X11_214 ⟨rfl, rfl, by decide, by decide⟩ rfl rfl (Nat.le_of_ble_eq_true rfl) ⟨Nat.zero_le _, Nat.zero_le _⟩ dX11_roomAtHand_78) hS (fun H locs hP hS => ?_)
      exact r_iret C hr hP hS h dX11_roomAtHand_81
    · replace h := if_f c16 h
      refine lv_iconst (v := (0)) hx hb dX11_roomAtHand_59 (by decide) ?_
      refine lv_goto (tgt := 81) hx hb dX11_roomAtHand_60 (by decide) ?_
      exact r_iret C hr hP hS h dX11_roomAtHand_81
  refine lv_aload_n hx hb dX11_roomAtHand_0 rfl (lv_at hl 0 rfl) ?_
  refine r_getI C hP (iw hw (fi_11 hk0)) hk0 fl_X11_202 (Or.inl rfl) dX11_roomAtHand_1 ?_
  refine lv_if_eq (tgt := 9) hx hb dX11_roomAtHand_4 (by decide) (fun c1 => ?_) (fun c1 => ?_)
  · replace h := if_t c1 h
    refine lv_aload_n hx hb dX11_roomAtHand_9 rfl (lv_at hl 0 rfl) ?_
    refine r_getI C hP (iw hw (fi_11 hk0)) hk0 fl_X11_167 (Or.inl rfl) dX11_roomAtHand_10 ?_
    refine lv_iconst (v := (1)) hx hb dX11_roomAtHand_13 (by decide) ?_
    refine lv_icmp_eq (tgt := 25) hx hb dX11_roomAtHand_14 (by decide) (fun c2 => ?_) (fun c2 => ?_)
    · replace h := if_t c2 h
      refine lv_aload_n hx hb dX11_roomAtHand_25 rfl (lv_at hl 0 rfl) ?_
      refine r_getF (off := 3) C hP (iw hw (fi_11 hk0)) hk0 fl_X11_16 rfl rfl (zw hw) dX11_roomAtHand_26 ?_
      refine lv_bipush (v := (6)) hx hb dX11_roomAtHand_29 (by decide) ?_
      refine lv_aload_n hx hb dX11_roomAtHand_31 rfl (lv_at hl 0 rfl) ?_
      refine lv_iconst (v := (0)) hx hb dX11_roomAtHand_32 (by decide) ?_
      obtain ⟨r4, μ3, h5, h⟩ := bd_ok h
      refine go_i (callV_run (As := [.int (0 : Int32)]) (rest := [.int (6 : Int32), .ref (w.2.2.1 (v0 + 3))]) C hl hP (hS.wide hJ).2.1 (iw hw (fi_11 hk0)) hk0 (m_X11_fresher l w hJ hw v0 (0 : Int32) hk0 μ h5) mv_X11_218 ⟨rfl, rfl, by decide, by decide⟩ rfl rfl (Nat.le_of_ble_eq_true rfl) ⟨Nat.zero_le _, Nat.zero_le _⟩ dX11_roomAtHand_33) hS (fun H locs hP hS => ?_)
      refine lv_aload_n hx hb dX11_roomAtHand_36 rfl (lv_at hl 0 rfl) ?_
      refine r_getI C hP (iw hw (fi_11 hk0)) hk0 fl_X11_177 (Or.inl rfl) dX11_roomAtHand_37 ?_
      obtain ⟨r7, μ6, h8, h⟩ := bd_ok h
      refine go_i (callS_run (As := [.ref (w.2.2.1 (v0 + 3)), .int (6 : Int32), .int r4, .int (μ3.1 v0 27)]) (rest := []) C hl hP (hS.wide hJ).2.1 (m_X11_found l w hJ hw (v0 + 3) (6 : Int32) r4 (μ3.1 v0 27) (karr (ff_11_4 hk0).1) (iw hw (ff_11_4 hk0).2) μ3 h8) ms_X11_214 ⟨rfl, rfl, by decide, by decide⟩ rfl rfl (Nat.le_of_ble_eq_true rfl) ⟨Nat.zero_le _, Nat.zero_le _⟩ dX11_roomAtHand_40) hS (fun H locs hP hS => ?_)
      refine lv_iconst (v := (-1)) hx hb dX11_roomAtHand_43 (by decide) ?_
      refine lv_icmp_ne (tgt := 52) hx hb dX11_roomAtHand_44 (by decide) (fun c9 => ?_) (fun c9 => ?_)
      · replace h := if_f c9 h
        exact J52  μ6  h _ _ _ hP hS (lv_sub hl [0] rfl)
      · replace h := if_t c9 h
        refine lv_aload_n hx hb dX11_roomAtHand_47 rfl (lv_at hl 0 rfl) ?_
        refine lv_iconst (v := (4)) hx hb dX11_roomAtHand_48 (by decide) ?_
        obtain ⟨r11, μ10, h12, h⟩ := bd_ok h
        refine go_v (callV_run (As := [.int (4 : Int32)]) (rest := []) C hl hP (hS.wide hJ).2.1 (iw hw (fi_11 hk0)) hk0 (m_X11_wrong l w hJ hw v0 (4 : Int32) hk0 μ6 h12) mv_X11_211 ⟨rfl, rfl, by decide, by decide⟩ rfl rfl (Nat.le_of_ble_eq_true rfl) ⟨Nat.zero_le _, Nat.zero_le _⟩ dX11_roomAtHand_49) hS (fun H locs hP hS => ?_)
        exact J52  μ10  h _ _ _ hP hS (lv_sub hl [0] rfl)
    · replace h := if_f c2 h
      refine lv_aload_n hx hb dX11_roomAtHand_17 rfl (lv_at hl 0 rfl) ?_
      refine lv_iconst (v := (1)) hx hb dX11_roomAtHand_18 (by decide) ?_
      obtain ⟨r14, μ13, h15, h⟩ := bd_ok h
      refine go_v (callV_run (As := [.int (1 : Int32)]) (rest := []) C hl hP (hS.wide hJ).2.1 (iw hw (fi_11 hk0)) hk0 (m_X11_wrong l w hJ hw v0 (1 : Int32) hk0 μ h15) mv_X11_211 ⟨rfl, rfl, by decide, by decide⟩ rfl rfl (Nat.le_of_ble_eq_true rfl) ⟨Nat.zero_le _, Nat.zero_le _⟩ dX11_roomAtHand_19) hS (fun H locs hP hS => ?_)
      refine lv_goto (tgt := 52) hx hb dX11_roomAtHand_22 (by decide) ?_
      exact J52  μ13  h _ _ _ hP hS (lv_sub hl [0] rfl)
  · replace h := if_f c1 h
    refine lv_iconst (v := (0)) hx hb dX11_roomAtHand_7 (by decide) ?_
    exact r_iret C hr hP hS h dX11_roomAtHand_8

def f_X11_roomAhead (v0 : Nat) (μ : fMem) : Option (Int32 × fMem) :=
  bd (f_X11_roomAtHand v0 μ) fun r2 μ1 => bd (f_X11_goOn v0 μ1) fun r5 μ4 => some (r2, μ4)
def rm_X11_roomAhead : Room := { frames := 7, cells := 0, slots := 0, locals := 184 }
set_option maxHeartbeats 4000000 in
set_option maxRecDepth 100000 in
theorem m_X11_roomAhead (l : Launch) (w : fW) (hJ : fJ w) (hw : w.2.2.2 = sd 1) (v0 : Nat) (hk0 : kd v0 = (4, 11)) (μ : fMem) {r : Int32} {μr : fMem} (h : f_X11_roomAhead v0 μ = some (r, μr)) : Met l yX11_roomAhead (.code yX11_roomAhead cX11_roomAhead 2 (some .int) :: gw) rm_X11_roomAhead (fPc w [.ref (w.2.2.1 v0)] μ) (fQi w r μr) 0 0 (fA w) := by
  refine met_of hJ (by decide) ?_ (Nat.le_of_ble_eq_true rfl)
  generalize ([.ref (w.2.2.1 v0)] : List Value).toArray = args
  intro p e s m below meth c ls C hr hP hl hS
  obtain ⟨hx, hb, hml, hown, hts, hK, -, hlk, hT⟩ := id C
  have hl : lv_has ls 2 [(0, .ref (w.2.2.1 v0))] := hl
  unfold f_X11_roomAhead at h
  refine lv_aload_n hx hb dX11_roomAhead_0 rfl (lv_at hl 0 rfl) ?_
  obtain ⟨r2, μ1, h3, h⟩ := bd_ok h
  refine go_i (callV_run (As := []) (rest := []) C hl hP (hS.wide hJ).2.1 (iw hw (fi_11 hk0)) hk0 (m_X11_roomAtHand l w hJ hw v0 hk0 μ h3) mv_X11_222 ⟨rfl, rfl, by decide, by decide⟩ rfl rfl (Nat.le_of_ble_eq_true rfl) ⟨Nat.zero_le _, Nat.zero_le _⟩ dX11_roomAhead_1) hS (fun H locs hP hS => ?_)
  refine lv_istore_n (lv' := [(1, .int r2), (0, .ref (w.2.2.1 v0))]) hx hb dX11_roomAhead_4 rfl hl (by decide) rfl (fun ls hl => ?_)
  refine lv_aload_n hx hb dX11_roomAhead_5 rfl (lv_at hl 1 rfl) ?_
  obtain ⟨r5, μ4, h6, h⟩ := bd_ok h
  refine go_v (callV_run (As := []) (rest := []) C hl hP (hS.wide hJ).2.1 (iw hw (fi_11 hk0)) hk0 (m_X11_goOn l w hJ hw v0 hk0 μ1 h6) mv_X11_225 ⟨rfl, rfl, by decide, by decide⟩ rfl rfl (Nat.le_of_ble_eq_true rfl) ⟨Nat.zero_le _, Nat.zero_le _⟩ dX11_roomAhead_6) hS (fun H locs hP hS => ?_)
  refine lv_iload_n hx hb dX11_roomAhead_9 rfl (lv_at hl 0 rfl) ?_
  exact r_iret C hr hP hS h dX11_roomAhead_10

def f_X11_isFull_j59 (v0 : Nat) (v1 : Int32) (μ : fMem) : Option (Int32 × fMem) :=
  if v1 = (4 : Int32) then bd (f_X11_fresher v0 (4 : Int32) μ) fun r23 μ22 => if r23 = (9 : Int32) then gd (bl (1 : Int32)) (some ((1 : Int32), μ22)) else gd (bl (0 : Int32)) (some ((0 : Int32), μ22)) else gd (bl (0 : Int32)) (some ((0 : Int32), μ))
def f_X11_isFull_j44 (v0 : Nat) (v1 : Int32) (μ : fMem) : Option (Int32 × fMem) :=
  if v1 = (3 : Int32) then bd (f_X11_fresher v0 (3 : Int32) μ) fun r18 μ17 => if r18 = (6 : Int32) then gd (bl (1 : Int32)) (some ((1 : Int32), μ17)) else f_X11_isFull_j59 v0 v1 μ17 else f_X11_isFull_j59 v0 v1 μ
def f_X11_isFull_j29 (v0 : Nat) (v1 : Int32) (μ : fMem) : Option (Int32 × fMem) :=
  if v1 = (2 : Int32) then bd (f_X11_fresher v0 (2 : Int32) μ) fun r13 μ12 => if r13 = (8 : Int32) then gd (bl (1 : Int32)) (some ((1 : Int32), μ12)) else f_X11_isFull_j44 v0 v1 μ12 else f_X11_isFull_j44 v0 v1 μ
def f_X11_isFull_j14 (v0 : Nat) (v1 : Int32) (μ : fMem) : Option (Int32 × fMem) :=
  if v1 = (1 : Int32) then bd (f_X11_fresher v0 (1 : Int32) μ) fun r8 μ7 => if r8 = (9 : Int32) then gd (bl (1 : Int32)) (some ((1 : Int32), μ7)) else f_X11_isFull_j29 v0 v1 μ7 else f_X11_isFull_j29 v0 v1 μ
def f_X11_isFull (v0 : Nat) (v1 : Int32) (μ : fMem) : Option (Int32 × fMem) :=
  if v1 = 0 then bd (f_X11_fresher v0 (0 : Int32) μ) fun r3 μ2 => if r3 = (6 : Int32) then gd (bl (1 : Int32)) (some ((1 : Int32), μ2)) else f_X11_isFull_j14 v0 v1 μ2 else f_X11_isFull_j14 v0 v1 μ
def rm_X11_isFull : Room := { frames := 1, cells := 0, slots := 0, locals := 21 }
set_option maxHeartbeats 4000000 in
set_option maxRecDepth 100000 in
theorem m_X11_isFull (l : Launch) (w : fW) (hJ : fJ w) (hw : w.2.2.2 = sd 1) (v0 : Nat) (v1 : Int32) (hk0 : kd v0 = (4, 11)) (μ : fMem) {r : Int32} {μr : fMem} (h : f_X11_isFull v0 v1 μ = some (r, μr)) : Met l yX11_isFull (.code yX11_isFull cX11_isFull 2 (some .boolean) :: gw) rm_X11_isFull (fPc w [.ref (w.2.2.1 v0), .int v1] μ) (fQi w r μr) 0 0 (fA w) := by
  refine met_of hJ (by decide) ?_ (Nat.le_of_ble_eq_true rfl)
  generalize ([.ref (w.2.2.1 v0), .int v1] : List Value).toArray = args
  intro p e s m below meth c ls C hr hP hl hS
  obtain ⟨hx, hb, hml, hown, hts, hK, -, hlk, hT⟩ := id C
  have hl : lv_has ls 2 [(0, .ref (w.2.2.1 v0)), (1, .int v1)] := hl
  unfold f_X11_isFull at h
  have J59 : ∀  (μ : fMem), f_X11_isFull_j59 v0 v1 μ = some (r, μr) → WW p l e rm_X11_isFull s m args below meth c (MQ below (fQi w r μr) args s 0 0 (fA w)) w μ 2 59 [] [(0, .ref (w.2.2.1 v0)), (1, .int v1)] := by
    intro  μ  h H locs ls hP hS hl
    unfold f_X11_isFull_j59 at h
    refine lv_iload_n hx hb dX11_isFull_59 rfl (lv_at hl 1 rfl) ?_
    refine lv_iconst (v := (4)) hx hb dX11_isFull_60 (by decide) ?_
    refine lv_icmp_ne (tgt := 78) hx hb dX11_isFull_61 (by decide) (fun c21 => ?_) (fun c21 => ?_)
    · replace h := if_f c21 h
      refine lv_iconst (v := (0)) hx hb dX11_isFull_78 (by decide) ?_
      exact r_zret C hr hP hS h dX11_isFull_79
    · replace h := if_t c21 h
      refine lv_aload_n hx hb dX11_isFull_64 rfl (lv_at hl 0 rfl) ?_
      refine lv_iconst (v := (4)) hx hb dX11_isFull_65 (by decide) ?_
      obtain ⟨r23, μ22, h24, h⟩ := bd_ok h
      refine go_i (callV_run (As := [.int (4 : Int32)]) (rest := []) C hl hP (hS.wide hJ).2.1 (iw hw (fi_11 hk0)) hk0 (m_X11_fresher l w hJ hw v0 (4 : Int32) hk0 μ h24) mv_X11_218 ⟨rfl, rfl, by decide, by decide⟩ rfl rfl (Nat.le_of_ble_eq_true rfl) ⟨Nat.zero_le _, Nat.zero_le _⟩ dX11_isFull_66) hS (fun H locs hP hS => ?_)
      refine lv_bipush (v := (9)) hx hb dX11_isFull_69 (by decide) ?_
      refine lv_icmp_ne (tgt := 78) hx hb dX11_isFull_71 (by decide) (fun c25 => ?_) (fun c25 => ?_)
      · replace h := if_f c25 h
        refine lv_iconst (v := (0)) hx hb dX11_isFull_78 (by decide) ?_
        exact r_zret C hr hP hS h dX11_isFull_79
      · replace h := if_t c25 h
        refine lv_iconst (v := (1)) hx hb dX11_isFull_74 (by decide) ?_
        refine lv_goto (tgt := 79) hx hb dX11_isFull_75 (by decide) ?_
        exact r_zret C hr hP hS h dX11_isFull_79
  have J44 : ∀  (μ : fMem), f_X11_isFull_j44 v0 v1 μ = some (r, μr) → WW p l e rm_X11_isFull s m args below meth c (MQ below (fQi w r μr) args s 0 0 (fA w)) w μ 2 44 [] [(0, .ref (w.2.2.1 v0)), (1, .int v1)] := by
    intro  μ  h H locs ls hP hS hl
    unfold f_X11_isFull_j44 at h
    refine lv_iload_n hx hb dX11_isFull_44 rfl (lv_at hl 1 rfl) ?_
    refine lv_iconst (v := (3)) hx hb dX11_isFull_45 (by decide) ?_
    refine lv_icmp_ne (tgt := 59) hx hb dX11_isFull_46 (by decide) (fun c16 => ?_) (fun c16 => ?_)
    · replace h := if_f c16 h
      exact J59  μ  h _ _ _ hP hS (lv_sub hl [0, 1] rfl)
    · replace h := if_t c16 h
      refine lv_aload_n hx hb dX11_isFull_49 rfl (lv_at hl 0 rfl) ?_
      refine lv_iconst (v := (3)) hx hb dX11_isFull_50 (by decide) ?_
      obtain ⟨r18, μ17, h19, h⟩ := bd_ok h
      refine go_i (callV_run (As := [.int (3 : Int32)]) (rest := []) C hl hP (hS.wide hJ).2.1 (iw hw (fi_11 hk0)) hk0 (m_X11_fresher l w hJ hw v0 (3 : Int32) hk0 μ h19) mv_X11_218 ⟨rfl, rfl, by decide, by decide⟩ rfl rfl (Nat.le_of_ble_eq_true rfl) ⟨Nat.zero_le _, Nat.zero_le _⟩ dX11_isFull_51) hS (fun H locs hP hS => ?_)
      refine lv_bipush (v := (6)) hx hb dX11_isFull_54 (by decide) ?_
      refine lv_icmp_eq (tgt := 74) hx hb dX11_isFull_56 (by decide) (fun c20 => ?_) (fun c20 => ?_)
      · replace h := if_t c20 h
        refine lv_iconst (v := (1)) hx hb dX11_isFull_74 (by decide) ?_
        refine lv_goto (tgt := 79) hx hb dX11_isFull_75 (by decide) ?_
        exact r_zret C hr hP hS h dX11_isFull_79
      · replace h := if_f c20 h
        exact J59  μ17  h _ _ _ hP hS (lv_sub hl [0, 1] rfl)
  have J29 : ∀  (μ : fMem), f_X11_isFull_j29 v0 v1 μ = some (r, μr) → WW p l e rm_X11_isFull s m args below meth c (MQ below (fQi w r μr) args s 0 0 (fA w)) w μ 2 29 [] [(0, .ref (w.2.2.1 v0)), (1, .int v1)] := by
    intro  μ  h H locs ls hP hS hl
    unfold f_X11_isFull_j29 at h
    refine lv_iload_n hx hb dX11_isFull_29 rfl (lv_at hl 1 rfl) ?_
    refine lv_iconst (v := (2)) hx hb dX11_isFull_30 (by decide) ?_
    refine lv_icmp_ne (tgt := 44) hx hb dX11_isFull_31 (by decide) (fun c11 => ?_) (fun c11 => ?_)
    · replace h := if_f c11 h
      exact J44  μ  h _ _ _ hP hS (lv_sub hl [0, 1] rfl)
    · replace h := if_t c11 h
      refine lv_aload_n hx hb dX11_isFull_34 rfl (lv_at hl 0 rfl) ?_
      refine lv_iconst (v := (2)) hx hb dX11_isFull_35 (by decide) ?_
      obtain ⟨r13, μ12, h14, h⟩ := bd_ok h
      refine go_i (callV_run (As := [.int (2 : Int32)]) (rest := []) C hl hP (hS.wide hJ).2.1 (iw hw (fi_11 hk0)) hk0 (m_X11_fresher l w hJ hw v0 (2 : Int32) hk0 μ h14) mv_X11_218 ⟨rfl, rfl, by decide, by decide⟩ rfl rfl (Nat.le_of_ble_eq_true rfl) ⟨Nat.zero_le _, Nat.zero_le _⟩ dX11_isFull_36) hS (fun H locs hP hS => ?_)
      refine lv_bipush (v := (8)) hx hb dX11_isFull_39 (by decide) ?_
      refine lv_icmp_eq (tgt := 74) hx hb dX11_isFull_41 (by decide) (fun c15 => ?_) (fun c15 => ?_)
      · replace h := if_t c15 h
        refine lv_iconst (v := (1)) hx hb dX11_isFull_74 (by decide) ?_
        refine lv_goto (tgt := 79) hx hb dX11_isFull_75 (by decide) ?_
        exact r_zret C hr hP hS h dX11_isFull_79
      · replace h := if_f c15 h
        exact J44  μ12  h _ _ _ hP hS (lv_sub hl [0, 1] rfl)
  have J14 : ∀  (μ : fMem), f_X11_isFull_j14 v0 v1 μ = some (r, μr) → WW p l e rm_X11_isFull s m args below meth c (MQ below (fQi w r μr) args s 0 0 (fA w)) w μ 2 14 [] [(0, .ref (w.2.2.1 v0)), (1, .int v1)] := by
    intro  μ  h H locs ls hP hS hl
    unfold f_X11_isFull_j14 at h
    refine lv_iload_n hx hb dX11_isFull_14 rfl (lv_at hl 1 rfl) ?_
    refine lv_iconst (v := (1)) hx hb dX11_isFull_15 (by decide) ?_
    refine lv_icmp_ne (tgt := 29) hx hb dX11_isFull_16 (by decide) (fun c6 => ?_) (fun c6 => ?_)
    · replace h := if_f c6 h
      exact J29  μ  h _ _ _ hP hS (lv_sub hl [0, 1] rfl)
    · replace h := if_t c6 h
      refine lv_aload_n hx hb dX11_isFull_19 rfl (lv_at hl 0 rfl) ?_
      refine lv_iconst (v := (1)) hx hb dX11_isFull_20 (by decide) ?_
      obtain ⟨r8, μ7, h9, h⟩ := bd_ok h
      refine go_i (callV_run (As := [.int (1 : Int32)]) (rest := []) C hl hP (hS.wide hJ).2.1 (iw hw (fi_11 hk0)) hk0 (m_X11_fresher l w hJ hw v0 (1 : Int32) hk0 μ h9) mv_X11_218 ⟨rfl, rfl, by decide, by decide⟩ rfl rfl (Nat.le_of_ble_eq_true rfl) ⟨Nat.zero_le _, Nat.zero_le _⟩ dX11_isFull_21) hS (fun H locs hP hS => ?_)
      refine lv_bipush (v := (9)) hx hb dX11_isFull_24 (by decide) ?_
      refine lv_icmp_eq (tgt := 74) hx hb dX11_isFull_26 (by decide) (fun c10 => ?_) (fun c10 => ?_)
      · replace h := if_t c10 h
        refine lv_iconst (v := (1)) hx hb dX11_isFull_74 (by decide) ?_
        refine lv_goto (tgt := 79) hx hb dX11_isFull_75 (by decide) ?_
        exact r_zret C hr hP hS h dX11_isFull_79
      · replace h := if_f c10 h
        exact J29  μ7  h _ _ _ hP hS (lv_sub hl [0, 1] rfl)
  refine lv_iload_n hx hb dX11_isFull_0 rfl (lv_at hl 1 rfl) ?_
  refine lv_if_ne (tgt := 14) hx hb dX11_isFull_1 (by decide) (fun c1 => ?_) (fun c1 => ?_)
  · replace h := if_f c1 h
    exact J14  μ  h _ _ _ hP hS (lv_sub hl [0, 1] rfl)
  · replace h := if_t c1 h
    refine lv_aload_n hx hb dX11_isFull_4 rfl (lv_at hl 0 rfl) ?_
    refine lv_iconst (v := (0)) hx hb dX11_isFull_5 (by decide) ?_
    obtain ⟨r3, μ2, h4, h⟩ := bd_ok h
    refine go_i (callV_run (As := [.int (0 : Int32)]) (rest := []) C hl hP (hS.wide hJ).2.1 (iw hw (fi_11 hk0)) hk0 (m_X11_fresher l w hJ hw v0 (0 : Int32) hk0 μ h4) mv_X11_218 ⟨rfl, rfl, by decide, by decide⟩ rfl rfl (Nat.le_of_ble_eq_true rfl) ⟨Nat.zero_le _, Nat.zero_le _⟩ dX11_isFull_6) hS (fun H locs hP hS => ?_)
    refine lv_bipush (v := (6)) hx hb dX11_isFull_9 (by decide) ?_
    refine lv_icmp_eq (tgt := 74) hx hb dX11_isFull_11 (by decide) (fun c5 => ?_) (fun c5 => ?_)
    · replace h := if_t c5 h
      refine lv_iconst (v := (1)) hx hb dX11_isFull_74 (by decide) ?_
      refine lv_goto (tgt := 79) hx hb dX11_isFull_75 (by decide) ?_
      exact r_zret C hr hP hS h dX11_isFull_79
    · replace h := if_f c5 h
      exact J14  μ2  h _ _ _ hP hS (lv_sub hl [0, 1] rfl)

def f_X11_doorLine_j71 (v0 : Nat) (v1 : Int32) (r2 : Int32) (r5 : Int32) (v4 : Int32) (μ : fMem) : Option (Nat × (Int32 × fMem)) :=
  bd (f_X11_wrong v0 (3 : Int32) μ) fun r14 μ13 => vl (v4 + (1 : Int32)) fun x16 => some (0, (x16, μ13))
def f_X11_doorLine_j49 (v0 : Nat) (v1 : Int32) (r2 : Int32) (r5 : Int32) (v4 : Int32) (μ : fMem) : Option (Nat × (Int32 × fMem)) :=
  gd (ixo v4 18) (if (μ.1 (v0 + 4) (Int32.toNatClampNeg v4)) = r5 then gd (ixo v4 18) (if (μ.1 (v0 + 5) (Int32.toNatClampNeg v4)) = r2 then f_X11_doorLine_j71 v0 v1 r2 r5 v4 μ else vl (v4 + (1 : Int32)) fun x22 => some (0, (x22, μ))) else vl (v4 + (1 : Int32)) fun x19 => some (0, (x19, μ)))
def f_X11_doorLine_L14 (v0 : Nat) (v1 : Int32) (r2 : Int32) (r5 : Int32) (v4 : Int32) (μ : fMem) : Option (Nat × (Int32 × fMem)) :=
  if v1 ≤ v4 then some (1, (v4, μ)) else if (μ.1 v0 28) = 0 then gd (ixo v4 18) (if (μ.1 (v0 + 4) (Int32.toNatClampNeg v4)) = r2 then gd (ixo v4 18) (if (μ.1 (v0 + 5) (Int32.toNatClampNeg v4)) = r5 then f_X11_doorLine_j71 v0 v1 r2 r5 v4 μ else f_X11_doorLine_j49 v0 v1 r2 r5 v4 μ) else f_X11_doorLine_j49 v0 v1 r2 r5 v4 μ) else some (1, (v4, μ))
def f_X11_doorLine_j99 (v0 : Nat) (v1 : Int32) (v2 : Int32) (v3 : Int32) (μ : fMem) : Option (Unit × fMem) :=
  bd (f_X11_goOn v0 μ) fun r34 μ33 => if (μ33.1 v0 28) = 0 then gd (ixo v1 18) (vl (sI μ33 (v0 + 4) (Int32.toNatClampNeg v1) v2) fun μ37 => gd (ixo v1 18) (vl (sI μ37 (v0 + 5) (Int32.toNatClampNeg v1) v3) fun μ39 => bd (f_X11_fresher v0 (1 : Int32) μ39) fun r42 μ41 => bd (f_X11_reads v0 (1 : Int32) (r42 + (1 : Int32)) μ41) fun r45 μ44 => some ((), μ44))) else some ((), μ33)
def f_X11_doorLine (v0 : Nat) (v1 : Int32) (μ : fMem) : Option (Unit × fMem) :=
  bd (f_X11_roomAhead v0 μ) fun r2 μ1 => bd (f_X11_roomAtHand v0 μ1) fun r5 μ4 => bd (lpn (fun (q : Int32 × fMem) => f_X11_doorLine_L14 v0 v1 r2 r5 q.1 q.2) fuel ((9 : Int32), μ4)) fun t23 q24 => (fun (x25 : Int32) (μ26 : fMem) => if (μ26.1 v0 28) = 0 then if r2 = r5 then bd (f_X11_wrong v0 (5 : Int32) μ26) fun r30 μ29 => f_X11_doorLine_j99 v0 v1 r2 r5 μ29 else f_X11_doorLine_j99 v0 v1 r2 r5 μ26 else f_X11_doorLine_j99 v0 v1 r2 r5 μ26) q24.1 q24.2
def rm_X11_doorLine : Room := { frames := 8, cells := 0, slots := 0, locals := 205 }
set_option maxHeartbeats 4000000 in
set_option maxRecDepth 100000 in
theorem m_X11_doorLine (l : Launch) (w : fW) (hJ : fJ w) (hw : w.2.2.2 = sd 1) (v0 : Nat) (v1 : Int32) (hk0 : kd v0 = (4, 11)) (μ : fMem) {r : Unit} {μr : fMem} (h : f_X11_doorLine v0 v1 μ = some (r, μr)) : Met l yX11_doorLine (.code yX11_doorLine cX11_doorLine 5 none :: gw) rm_X11_doorLine (fPc w [.ref (w.2.2.1 v0), .int v1] μ) (fQv w μr) 0 0 (fA w) := by
  refine met_of hJ (by decide) ?_ (Nat.le_of_ble_eq_true rfl)
  generalize ([.ref (w.2.2.1 v0), .int v1] : List Value).toArray = args
  intro p e s m below meth c ls C hr hP hl hS
  obtain ⟨hx, hb, hml, hown, hts, hK, -, hlk, hT⟩ := id C
  have hl : lv_has ls 5 [(0, .ref (w.2.2.1 v0)), (1, .int v1)] := hl
  unfold f_X11_doorLine at h
  have J99 : ∀ (v2 : Int32) (v3 : Int32) (μ : fMem), f_X11_doorLine_j99 v0 v1 v2 v3 μ = some (r, μr) → WW p l e rm_X11_doorLine s m args below meth c (MQ below (fQv w μr) args s 0 0 (fA w)) w μ 5 99 [] [(0, .ref (w.2.2.1 v0)), (1, .int v1), (2, .int v2), (3, .int v3)] := by
    intro v2 v3 μ  h H locs ls hP hS hl
    unfold f_X11_doorLine_j99 at h
    refine lv_aload_n hx hb dX11_doorLine_99 rfl (lv_at hl 0 rfl) ?_
    obtain ⟨r34, μ33, h35, h⟩ := bd_ok h
    refine go_v (callV_run (As := []) (rest := []) C hl hP (hS.wide hJ).2.1 (iw hw (fi_11 hk0)) hk0 (m_X11_goOn l w hJ hw v0 hk0 μ h35) mv_X11_225 ⟨rfl, rfl, by decide, by decide⟩ rfl rfl (Nat.le_of_ble_eq_true rfl) ⟨Nat.zero_le _, Nat.zero_le _⟩ dX11_doorLine_100) hS (fun H locs hP hS => ?_)
    refine lv_aload_n hx hb dX11_doorLine_103 rfl (lv_at hl 0 rfl) ?_
    refine r_getI C hP (iw hw (fi_11 hk0)) hk0 fl_X11_202 (Or.inl rfl) dX11_doorLine_104 ?_
    refine lv_if_eq (tgt := 111) hx hb dX11_doorLine_107 (by decide) (fun c36 => ?_) (fun c36 => ?_)
    · replace h := if_t c36 h
      refine lv_aload_n hx hb dX11_doorLine_111 rfl (lv_at hl 0 rfl) ?_
      refine r_getF (off := 4) C hP (iw hw (fi_11 hk0)) hk0 fl_X11_19 rfl rfl (zw hw) dX11_doorLine_112 ?_
      refine lv_iload_n hx hb dX11_doorLine_115 rfl (lv_at hl 1 rfl) ?_
      refine lv_iload_n hx hb dX11_doorLine_116 rfl (lv_at hl 2 rfl) ?_
      obtain ⟨g38, h⟩ := gd_ok h
      refine r_iast C hP hS (iw hw (ff_11_5 hk0).2) (ff_11_5 hk0).1 g38 dX11_doorLine_117 (fun H locs hP hS => ?_)
      obtain ⟨μ37, eμ37, h⟩ := vl_ex h
      have hP : fP w μ37 H := by rw [eμ37]; exact hP
      refine lv_aload_n hx hb dX11_doorLine_118 rfl (lv_at hl 0 rfl) ?_
      refine r_getF (off := 5) C hP (iw hw (fi_11 hk0)) hk0 fl_X11_22 rfl rfl (zw hw) dX11_doorLine_119 ?_
      refine lv_iload_n hx hb dX11_doorLine_122 rfl (lv_at hl 1 rfl) ?_
      refine lv_iload_n hx hb dX11_doorLine_123 rfl (lv_at hl 3 rfl) ?_
      obtain ⟨g40, h⟩ := gd_ok h
      refine r_iast C hP hS (iw hw (ff_11_6 hk0).2) (ff_11_6 hk0).1 g40 dX11_doorLine_124 (fun H locs hP hS => ?_)
      obtain ⟨μ39, eμ39, h⟩ := vl_ex h
      have hP : fP w μ39 H := by rw [eμ39]; exact hP
      refine lv_aload_n hx hb dX11_doorLine_125 rfl (lv_at hl 0 rfl) ?_
      refine lv_iconst (v := (1)) hx hb dX11_doorLine_126 (by decide) ?_
      refine lv_aload_n hx hb dX11_doorLine_127 rfl (lv_at hl 0 rfl) ?_
      refine lv_iconst (v := (1)) hx hb dX11_doorLine_128 (by decide) ?_
      obtain ⟨r42, μ41, h43, h⟩ := bd_ok h
      refine go_i (callV_run (As := [.int (1 : Int32)]) (rest := [.int (1 : Int32), .ref (w.2.2.1 v0)]) C hl hP (hS.wide hJ).2.1 (iw hw (fi_11 hk0)) hk0 (m_X11_fresher l w hJ hw v0 (1 : Int32) hk0 μ39 h43) mv_X11_218 ⟨rfl, rfl, by decide, by decide⟩ rfl rfl (Nat.le_of_ble_eq_true rfl) ⟨Nat.zero_le _, Nat.zero_le _⟩ dX11_doorLine_129) hS (fun H locs hP hS => ?_)
      refine lv_iconst (v := (1)) hx hb dX11_doorLine_132 (by decide) ?_
      refine lv_iadd hx hb dX11_doorLine_133 ?_
      obtain ⟨r45, μ44, h46, h⟩ := bd_ok h
      refine go_v (callV_run (As := [.int (1 : Int32), .int (r42 + (1 : Int32))]) (rest := []) C hl hP (hS.wide hJ).2.1 (iw hw (fi_11 hk0)) hk0 (m_X11_reads l w hJ hw v0 (1 : Int32) (r42 + (1 : Int32)) hk0 μ41 h46) mv_X11_238 ⟨rfl, rfl, by decide, by decide⟩ rfl rfl (Nat.le_of_ble_eq_true rfl) ⟨Nat.zero_le _, Nat.zero_le _⟩ dX11_doorLine_134) hS (fun H locs hP hS => ?_)
      exact r_vret C hr hP hS h dX11_doorLine_137
    · replace h := if_f c36 h
      exact r_vret C hr hP hS h dX11_doorLine_110
  refine lv_aload_n hx hb dX11_doorLine_0 rfl (lv_at hl 0 rfl) ?_
  obtain ⟨r2, μ1, h3, h⟩ := bd_ok h
  refine go_i (callV_run (As := []) (rest := []) C hl hP (hS.wide hJ).2.1 (iw hw (fi_11 hk0)) hk0 (m_X11_roomAhead l w hJ hw v0 hk0 μ h3) mv_X11_245 ⟨rfl, rfl, by decide, by decide⟩ rfl rfl (Nat.le_of_ble_eq_true rfl) ⟨Nat.zero_le _, Nat.zero_le _⟩ dX11_doorLine_1) hS (fun H locs hP hS => ?_)
  refine lv_istore_n (lv' := [(2, .int r2), (0, .ref (w.2.2.1 v0)), (1, .int v1)]) hx hb dX11_doorLine_4 rfl hl (by decide) rfl (fun ls hl => ?_)
  refine lv_aload_n hx hb dX11_doorLine_5 rfl (lv_at hl 1 rfl) ?_
  obtain ⟨r5, μ4, h6, h⟩ := bd_ok h
  refine go_i (callV_run (As := []) (rest := []) C hl hP (hS.wide hJ).2.1 (iw hw (fi_11 hk0)) hk0 (m_X11_roomAtHand l w hJ hw v0 hk0 μ1 h6) mv_X11_222 ⟨rfl, rfl, by decide, by decide⟩ rfl rfl (Nat.le_of_ble_eq_true rfl) ⟨Nat.zero_le _, Nat.zero_le _⟩ dX11_doorLine_6) hS (fun H locs hP hS => ?_)
  refine lv_istore_n (lv' := [(3, .int r5), (2, .int r2), (0, .ref (w.2.2.1 v0)), (1, .int v1)]) hx hb dX11_doorLine_9 rfl hl (by decide) rfl (fun ls hl => ?_)
  refine lv_bipush (v := (9)) hx hb dX11_doorLine_10 (by decide) ?_
  refine lv_istore (lv' := [(4, .int (9 : Int32)), (3, .int r5), (2, .int r2), (0, .ref (w.2.2.1 v0)), (1, .int v1)]) hx hb dX11_doorLine_12 hl (by decide) rfl (fun ls hl => ?_)
  obtain ⟨t23, q24, h32, h⟩ := bd_ok h
  refine lpn_ind (b := (fun (q : Int32 × fMem) => f_X11_doorLine_L14 v0 v1 r2 r5 q.1 q.2)) (P := fun (q : Int32 × fMem) => WW p l e rm_X11_doorLine s m args below meth c (MQ below (fQv w μr) args s 0 0 (fA w)) w q.2 5 14 [] [(0, .ref (w.2.2.1 v0)), (1, .int v1), (2, .int r2), (3, .int r5), (4, .int q.1)]) (K := fun _ (q : Int32 × fMem) => WW p l e rm_X11_doorLine s m args below meth c (MQ below (fQv w μr) args s 0 0 (fA w)) w q.2 5 82 [] [(0, .ref (w.2.2.1 v0)), (1, .int v1), (2, .int r2), (3, .int r5)]) ?_ fuel ((9 : Int32), μ4) t23 q24 h32 ?_ _ _ _ hP hS (lv_sub hl [3, 4, 2, 1, 0] rfl)
  · intro q tz14 sz14 h hP0_14 hK0_14 H locs ls hP hS hl
    obtain ⟨v4, μ⟩ := q
    have hP : fP w μ H := hP
    have hl : lv_has ls 5 [(0, .ref (w.2.2.1 v0)), (1, .int v1), (2, .int r2), (3, .int r5), (4, .int v4)] := hl
    have h : f_X11_doorLine_L14 v0 v1 r2 r5 v4 μ = some (tz14, sz14) := h
    unfold f_X11_doorLine_L14 at h
    have J71 : ∀ (v4 : Int32) (μ : fMem), f_X11_doorLine_j71 v0 v1 r2 r5 v4 μ = some (tz14, sz14) → WW p l e rm_X11_doorLine s m args below meth c (MQ below (fQv w μr) args s 0 0 (fA w)) w μ 5 71 [] [(0, .ref (w.2.2.1 v0)), (1, .int v1), (2, .int r2), (3, .int r5), (4, .int v4)] := by
      intro v4 μ  h H locs ls hP hS hl
      unfold f_X11_doorLine_j71 at h
      refine lv_aload_n hx hb dX11_doorLine_71 rfl (lv_at hl 0 rfl) ?_
      refine lv_iconst (v := (3)) hx hb dX11_doorLine_72 (by decide) ?_
      obtain ⟨r14, μ13, h15, h⟩ := bd_ok h
      refine go_v (callV_run (As := [.int (3 : Int32)]) (rest := []) C hl hP (hS.wide hJ).2.1 (iw hw (fi_11 hk0)) hk0 (m_X11_wrong l w hJ hw v0 (3 : Int32) hk0 μ h15) mv_X11_211 ⟨rfl, rfl, by decide, by decide⟩ rfl rfl (Nat.le_of_ble_eq_true rfl) ⟨Nat.zero_le _, Nat.zero_le _⟩ dX11_doorLine_73) hS (fun H locs hP hS => ?_)
      obtain ⟨x16, ex16⟩ : ∃ y : Int32, y = (v4 + (1 : Int32)) := ⟨_, rfl⟩
      replace h := vl_ok ex16 h
      refine lv_iinc (v := x16) (lv' := [(4, .int x16), (0, .ref (w.2.2.1 v0)), (1, .int v1), (2, .int r2), (3, .int r5)]) hx hb dX11_doorLine_76 hl (k := 4) rfl (by rw [ex16]; rfl) (by decide) rfl (fun ls hl => ?_)
      refine lv_goto (tgt := 14) hx hb dX11_doorLine_79 (by decide) ?_
      obtain ⟨rfl, rfl⟩ := leaf h
      exact hP0_14 rfl _ _ _ hP hS (lv_sub hl [1, 2, 3, 4, 0] rfl)
    have J49 : ∀ (v4 : Int32) (μ : fMem), f_X11_doorLine_j49 v0 v1 r2 r5 v4 μ = some (tz14, sz14) → WW p l e rm_X11_doorLine s m args below meth c (MQ below (fQv w μr) args s 0 0 (fA w)) w μ 5 49 [] [(0, .ref (w.2.2.1 v0)), (1, .int v1), (2, .int r2), (3, .int r5), (4, .int v4)] := by
      intro v4 μ  h H locs ls hP hS hl
      unfold f_X11_doorLine_j49 at h
      refine lv_aload_n hx hb dX11_doorLine_49 rfl (lv_at hl 0 rfl) ?_
      refine r_getF (off := 4) C hP (iw hw (fi_11 hk0)) hk0 fl_X11_19 rfl rfl (zw hw) dX11_doorLine_50 ?_
      refine lv_iload hx hb dX11_doorLine_53 (lv_at hl 4 rfl) ?_
      obtain ⟨g17, h⟩ := gd_ok h
      refine r_iald C hP (iw hw (ff_11_5 hk0).2) (ff_11_5 hk0).1 g17 dX11_doorLine_55 ?_
      refine lv_iload_n hx hb dX11_doorLine_56 rfl (lv_at hl 3 rfl) ?_
      refine lv_icmp_ne (tgt := 76) hx hb dX11_doorLine_57 (by decide) (fun c18 => ?_) (fun c18 => ?_)
      · replace h := if_f c18 h
        obtain ⟨x19, ex19⟩ : ∃ y : Int32, y = (v4 + (1 : Int32)) := ⟨_, rfl⟩
        replace h := vl_ok ex19 h
        refine lv_iinc (v := x19) (lv' := [(4, .int x19), (0, .ref (w.2.2.1 v0)), (1, .int v1), (2, .int r2), (3, .int r5)]) hx hb dX11_doorLine_76 hl (k := 4) rfl (by rw [ex19]; rfl) (by decide) rfl (fun ls hl => ?_)
        refine lv_goto (tgt := 14) hx hb dX11_doorLine_79 (by decide) ?_
        obtain ⟨rfl, rfl⟩ := leaf h
        exact hP0_14 rfl _ _ _ hP hS (lv_sub hl [1, 2, 3, 4, 0] rfl)
      · replace h := if_t c18 h
        refine lv_aload_n hx hb dX11_doorLine_60 rfl (lv_at hl 0 rfl) ?_
        refine r_getF (off := 5) C hP (iw hw (fi_11 hk0)) hk0 fl_X11_22 rfl rfl (zw hw) dX11_doorLine_61 ?_
        refine lv_iload hx hb dX11_doorLine_64 (lv_at hl 4 rfl) ?_
        obtain ⟨g20, h⟩ := gd_ok h
        refine r_iald C hP (iw hw (ff_11_6 hk0).2) (ff_11_6 hk0).1 g20 dX11_doorLine_66 ?_
        refine lv_iload_n hx hb dX11_doorLine_67 rfl (lv_at hl 2 rfl) ?_
        refine lv_icmp_ne (tgt := 76) hx hb dX11_doorLine_68 (by decide) (fun c21 => ?_) (fun c21 => ?_)
        · replace h := if_f c21 h
          obtain ⟨x22, ex22⟩ : ∃ y : Int32, y = (v4 + (1 : Int32)) := ⟨_, rfl⟩
          replace h := vl_ok ex22 h
          refine lv_iinc (v := x22) (lv' := [(4, .int x22), (0, .ref (w.2.2.1 v0)), (1, .int v1), (2, .int r2), (3, .int r5)]) hx hb dX11_doorLine_76 hl (k := 4) rfl (by rw [ex22]; rfl) (by decide) rfl (fun ls hl => ?_)
          refine lv_goto (tgt := 14) hx hb dX11_doorLine_79 (by decide) ?_
          obtain ⟨rfl, rfl⟩ := leaf h
          exact hP0_14 rfl _ _ _ hP hS (lv_sub hl [1, 2, 3, 4, 0] rfl)
        · replace h := if_t c21 h
          exact J71 v4 μ  h _ _ _ hP hS (lv_sub hl [0, 1, 2, 3, 4] rfl)
    refine lv_iload hx hb dX11_doorLine_14 (lv_at hl 4 rfl) ?_
    refine lv_iload_n hx hb dX11_doorLine_16 rfl (lv_at hl 1 rfl) ?_
    refine lv_icmp_ge (tgt := 82) hx hb dX11_doorLine_17 (by decide) (fun c7 => ?_) (fun c7 => ?_)
    · replace h := if_t c7 h
      obtain ⟨rfl, rfl⟩ := leaf h
      exact (hK0_14 0 rfl) _ _ _ hP hS (lv_sub hl [0, 1, 2, 3] rfl)
    · replace h := if_f c7 h
      refine lv_aload_n hx hb dX11_doorLine_20 rfl (lv_at hl 0 rfl) ?_
      refine r_getI C hP (iw hw (fi_11 hk0)) hk0 fl_X11_202 (Or.inl rfl) dX11_doorLine_21 ?_
      refine lv_if_ne (tgt := 82) hx hb dX11_doorLine_24 (by decide) (fun c8 => ?_) (fun c8 => ?_)
      · replace h := if_f c8 h
        obtain ⟨rfl, rfl⟩ := leaf h
        exact (hK0_14 0 rfl) _ _ _ hP hS (lv_sub hl [0, 1, 2, 3] rfl)
      · replace h := if_t c8 h
        refine lv_aload_n hx hb dX11_doorLine_27 rfl (lv_at hl 0 rfl) ?_
        refine r_getF (off := 4) C hP (iw hw (fi_11 hk0)) hk0 fl_X11_19 rfl rfl (zw hw) dX11_doorLine_28 ?_
        refine lv_iload hx hb dX11_doorLine_31 (lv_at hl 4 rfl) ?_
        obtain ⟨g9, h⟩ := gd_ok h
        refine r_iald C hP (iw hw (ff_11_5 hk0).2) (ff_11_5 hk0).1 g9 dX11_doorLine_33 ?_
        refine lv_iload_n hx hb dX11_doorLine_34 rfl (lv_at hl 2 rfl) ?_
        refine lv_icmp_ne (tgt := 49) hx hb dX11_doorLine_35 (by decide) (fun c10 => ?_) (fun c10 => ?_)
        · replace h := if_f c10 h
          exact J49 v4 μ  h _ _ _ hP hS (lv_sub hl [0, 1, 2, 3, 4] rfl)
        · replace h := if_t c10 h
          refine lv_aload_n hx hb dX11_doorLine_38 rfl (lv_at hl 0 rfl) ?_
          refine r_getF (off := 5) C hP (iw hw (fi_11 hk0)) hk0 fl_X11_22 rfl rfl (zw hw) dX11_doorLine_39 ?_
          refine lv_iload hx hb dX11_doorLine_42 (lv_at hl 4 rfl) ?_
          obtain ⟨g11, h⟩ := gd_ok h
          refine r_iald C hP (iw hw (ff_11_6 hk0).2) (ff_11_6 hk0).1 g11 dX11_doorLine_44 ?_
          refine lv_iload_n hx hb dX11_doorLine_45 rfl (lv_at hl 3 rfl) ?_
          refine lv_icmp_eq (tgt := 71) hx hb dX11_doorLine_46 (by decide) (fun c12 => ?_) (fun c12 => ?_)
          · replace h := if_t c12 h
            exact J71 v4 μ  h _ _ _ hP hS (lv_sub hl [0, 1, 2, 3, 4] rfl)
          · replace h := if_f c12 h
            exact J49 v4 μ  h _ _ _ hP hS (lv_sub hl [0, 1, 2, 3, 4] rfl)
  · obtain ⟨x25, μ26⟩ := q24
    intro H locs ls hP hS hl
    have hP : fP w μ26 H := hP
    have hl : lv_has ls 5 [(0, .ref (w.2.2.1 v0)), (1, .int v1), (2, .int r2), (3, .int r5)] := hl
    try dsimp only at h
    refine lv_aload_n hx hb dX11_doorLine_82 rfl (lv_at hl 0 rfl) ?_
    refine r_getI C hP (iw hw (fi_11 hk0)) hk0 fl_X11_202 (Or.inl rfl) dX11_doorLine_83 ?_
    refine lv_if_ne (tgt := 99) hx hb dX11_doorLine_86 (by decide) (fun c27 => ?_) (fun c27 => ?_)
    · replace h := if_f c27 h
      exact J99 r2 r5 μ26  h _ _ _ hP hS (lv_sub hl [0, 1, 2, 3] rfl)
    · replace h := if_t c27 h
      refine lv_iload_n hx hb dX11_doorLine_89 rfl (lv_at hl 2 rfl) ?_
      refine lv_iload_n hx hb dX11_doorLine_90 rfl (lv_at hl 3 rfl) ?_
      refine lv_icmp_ne (tgt := 99) hx hb dX11_doorLine_91 (by decide) (fun c28 => ?_) (fun c28 => ?_)
      · replace h := if_f c28 h
        exact J99 r2 r5 μ26  h _ _ _ hP hS (lv_sub hl [0, 1, 2, 3] rfl)
      · replace h := if_t c28 h
        refine lv_aload_n hx hb dX11_doorLine_94 rfl (lv_at hl 0 rfl) ?_
        refine lv_iconst (v := (5)) hx hb dX11_doorLine_95 (by decide) ?_
        obtain ⟨r30, μ29, h31, h⟩ := bd_ok h
        refine go_v (callV_run (As := [.int (5 : Int32)]) (rest := []) C hl hP (hS.wide hJ).2.1 (iw hw (fi_11 hk0)) hk0 (m_X11_wrong l w hJ hw v0 (5 : Int32) hk0 μ26 h31) mv_X11_211 ⟨rfl, rfl, by decide, by decide⟩ rfl rfl (Nat.le_of_ble_eq_true rfl) ⟨Nat.zero_le _, Nat.zero_le _⟩ dX11_doorLine_96) hS (fun H locs hP hS => ?_)
        exact J99 r2 r5 μ29  h _ _ _ hP hS (lv_sub hl [0, 1, 2, 3] rfl)

def f_X11_knot (v0 : Nat) (μ : fMem) : Option (Unit × fMem) :=
  if (μ.1 v0 28) = 0 then if (μ.1 v0 33) = (64 : Int32) then bd (f_X11_wrong v0 (2 : Int32) μ) fun r5 μ4 => some ((), μ4) else vl (sI μ v0 33 ((μ.1 v0 33) + (1 : Int32))) fun μ3 => some ((), μ3) else some ((), μ)
def rm_X11_knot : Room := { frames := 1, cells := 0, slots := 0, locals := 21 }
set_option maxHeartbeats 4000000 in
set_option maxRecDepth 100000 in
theorem m_X11_knot (l : Launch) (w : fW) (hJ : fJ w) (hw : w.2.2.2 = sd 1) (v0 : Nat) (hk0 : kd v0 = (4, 11)) (μ : fMem) {r : Unit} {μr : fMem} (h : f_X11_knot v0 μ = some (r, μr)) : Met l yX11_knot (.code yX11_knot cX11_knot 1 none :: gw) rm_X11_knot (fPc w [.ref (w.2.2.1 v0)] μ) (fQv w μr) 0 0 (fA w) := by
  refine met_of hJ (by decide) ?_ (Nat.le_of_ble_eq_true rfl)
  generalize ([.ref (w.2.2.1 v0)] : List Value).toArray = args
  intro p e s m below meth c ls C hr hP hl hS
  obtain ⟨hx, hb, hml, hown, hts, hK, -, hlk, hT⟩ := id C
  have hl : lv_has ls 1 [(0, .ref (w.2.2.1 v0))] := hl
  unfold f_X11_knot at h
  refine lv_aload_n hx hb dX11_knot_0 rfl (lv_at hl 0 rfl) ?_
  refine r_getI C hP (iw hw (fi_11 hk0)) hk0 fl_X11_202 (Or.inl rfl) dX11_knot_1 ?_
  refine lv_if_eq (tgt := 8) hx hb dX11_knot_4 (by decide) (fun c1 => ?_) (fun c1 => ?_)
  · replace h := if_t c1 h
    refine lv_aload_n hx hb dX11_knot_8 rfl (lv_at hl 0 rfl) ?_
    refine r_getI C hP (iw hw (fi_11 hk0)) hk0 fl_X11_264 (Or.inl rfl) dX11_knot_9 ?_
    refine lv_bipush (v := (64)) hx hb dX11_knot_12 (by decide) ?_
    refine lv_icmp_ne (tgt := 25) hx hb dX11_knot_14 (by decide) (fun c2 => ?_) (fun c2 => ?_)
    · replace h := if_f c2 h
      refine lv_aload_n hx hb dX11_knot_25 rfl (lv_at hl 0 rfl) ?_
      refine lv_dup hx hb dX11_knot_26 rfl ?_
      refine r_getI C hP (iw hw (fi_11 hk0)) hk0 fl_X11_264 (Or.inl rfl) dX11_knot_27 ?_
      refine lv_iconst (v := (1)) hx hb dX11_knot_30 (by decide) ?_
      refine lv_iadd hx hb dX11_knot_31 ?_
      refine r_putI C hP hS (iw hw (fi_11 hk0)) hk0 fp_X11_264 rfl dX11_knot_32 (fun H locs hP hS => ?_)
      obtain ⟨μ3, eμ3, h⟩ := vl_ex h
      have hP : fP w μ3 H := by rw [eμ3]; exact hP
      exact r_vret C hr hP hS h dX11_knot_35
    · replace h := if_t c2 h
      refine lv_aload_n hx hb dX11_knot_17 rfl (lv_at hl 0 rfl) ?_
      refine lv_iconst (v := (2)) hx hb dX11_knot_18 (by decide) ?_
      obtain ⟨r5, μ4, h6, h⟩ := bd_ok h
      refine go_v (callV_run (As := [.int (2 : Int32)]) (rest := []) C hl hP (hS.wide hJ).2.1 (iw hw (fi_11 hk0)) hk0 (m_X11_wrong l w hJ hw v0 (2 : Int32) hk0 μ h6) mv_X11_211 ⟨rfl, rfl, by decide, by decide⟩ rfl rfl (Nat.le_of_ble_eq_true rfl) ⟨Nat.zero_le _, Nat.zero_le _⟩ dX11_knot_19) hS (fun H locs hP hS => ?_)
      refine lv_goto (tgt := 35) hx hb dX11_knot_22 (by decide) ?_
      exact r_vret C hr hP hS h dX11_knot_35
  · replace h := if_f c1 h
    exact r_vret C hr hP hS h dX11_knot_7

def f_X11_puts (v0 : Nat) (v1 : Int32) (v2 : Int32) (μ : fMem) : Option (Unit × fMem) :=
  if (μ.1 v0 28) = 0 then bd (f_X11_fresher v0 (6 : Int32) μ) fun r3 μ2 => gd (ixo ((64 : Int32) + r3) 128) (vl (sI μ2 (v0 + 18) (Int32.toNatClampNeg ((64 : Int32) + r3)) v1) fun μ5 => bd (f_X11_fresher v0 (6 : Int32) μ5) fun r8 μ7 => gd (ixo ((64 : Int32) + r8) 128) (vl (sI μ7 (v0 + 19) (Int32.toNatClampNeg ((64 : Int32) + r8)) v2) fun μ10 => bd (f_X11_fresher v0 (6 : Int32) μ10) fun r13 μ12 => bd (f_X11_reads v0 (6 : Int32) (r13 + (1 : Int32)) μ12) fun r16 μ15 => some ((), μ15))) else some ((), μ)
def rm_X11_puts : Room := { frames := 1, cells := 0, slots := 0, locals := 22 }
set_option maxHeartbeats 4000000 in
set_option maxRecDepth 100000 in
theorem m_X11_puts (l : Launch) (w : fW) (hJ : fJ w) (hw : w.2.2.2 = sd 1) (v0 : Nat) (v1 : Int32) (v2 : Int32) (hk0 : kd v0 = (4, 11)) (μ : fMem) {r : Unit} {μr : fMem} (h : f_X11_puts v0 v1 v2 μ = some (r, μr)) : Met l yX11_puts (.code yX11_puts cX11_puts 3 none :: gw) rm_X11_puts (fPc w [.ref (w.2.2.1 v0), .int v1, .int v2] μ) (fQv w μr) 0 0 (fA w) := by
  refine met_of hJ (by decide) ?_ (Nat.le_of_ble_eq_true rfl)
  generalize ([.ref (w.2.2.1 v0), .int v1, .int v2] : List Value).toArray = args
  intro p e s m below meth c ls C hr hP hl hS
  obtain ⟨hx, hb, hml, hown, hts, hK, -, hlk, hT⟩ := id C
  have hl : lv_has ls 3 [(0, .ref (w.2.2.1 v0)), (1, .int v1), (2, .int v2)] := hl
  unfold f_X11_puts at h
  refine lv_aload_n hx hb dX11_puts_0 rfl (lv_at hl 0 rfl) ?_
  refine r_getI C hP (iw hw (fi_11 hk0)) hk0 fl_X11_202 (Or.inl rfl) dX11_puts_1 ?_
  refine lv_if_eq (tgt := 8) hx hb dX11_puts_4 (by decide) (fun c1 => ?_) (fun c1 => ?_)
  · replace h := if_t c1 h
    refine lv_aload_n hx hb dX11_puts_8 rfl (lv_at hl 0 rfl) ?_
    refine r_getF (off := 18) C hP (iw hw (fi_11 hk0)) hk0 fl_X11_61 rfl rfl (zw hw) dX11_puts_9 ?_
    refine lv_bipush (v := (64)) hx hb dX11_puts_12 (by decide) ?_
    refine lv_aload_n hx hb dX11_puts_14 rfl (lv_at hl 0 rfl) ?_
    refine lv_bipush (v := (6)) hx hb dX11_puts_15 (by decide) ?_
    obtain ⟨r3, μ2, h4, h⟩ := bd_ok h
    refine go_i (callV_run (As := [.int (6 : Int32)]) (rest := [.int (64 : Int32), .ref (w.2.2.1 (v0 + 18))]) C hl hP (hS.wide hJ).2.1 (iw hw (fi_11 hk0)) hk0 (m_X11_fresher l w hJ hw v0 (6 : Int32) hk0 μ h4) mv_X11_218 ⟨rfl, rfl, by decide, by decide⟩ rfl rfl (Nat.le_of_ble_eq_true rfl) ⟨Nat.zero_le _, Nat.zero_le _⟩ dX11_puts_17) hS (fun H locs hP hS => ?_)
    refine lv_iadd hx hb dX11_puts_20 ?_
    refine lv_iload_n hx hb dX11_puts_21 rfl (lv_at hl 1 rfl) ?_
    obtain ⟨g6, h⟩ := gd_ok h
    refine r_iast C hP hS (iw hw (ff_11_19 hk0).2) (ff_11_19 hk0).1 g6 dX11_puts_22 (fun H locs hP hS => ?_)
    obtain ⟨μ5, eμ5, h⟩ := vl_ex h
    have hP : fP w μ5 H := by rw [eμ5]; exact hP
    refine lv_aload_n hx hb dX11_puts_23 rfl (lv_at hl 0 rfl) ?_
    refine r_getF (off := 19) C hP (iw hw (fi_11 hk0)) hk0 fl_X11_64 rfl rfl (zw hw) dX11_puts_24 ?_
    refine lv_bipush (v := (64)) hx hb dX11_puts_27 (by decide) ?_
    refine lv_aload_n hx hb dX11_puts_29 rfl (lv_at hl 0 rfl) ?_
    refine lv_bipush (v := (6)) hx hb dX11_puts_30 (by decide) ?_
    obtain ⟨r8, μ7, h9, h⟩ := bd_ok h
    refine go_i (callV_run (As := [.int (6 : Int32)]) (rest := [.int (64 : Int32), .ref (w.2.2.1 (v0 + 19))]) C hl hP (hS.wide hJ).2.1 (iw hw (fi_11 hk0)) hk0 (m_X11_fresher l w hJ hw v0 (6 : Int32) hk0 μ5 h9) mv_X11_218 ⟨rfl, rfl, by decide, by decide⟩ rfl rfl (Nat.le_of_ble_eq_true rfl) ⟨Nat.zero_le _, Nat.zero_le _⟩ dX11_puts_32) hS (fun H locs hP hS => ?_)
    refine lv_iadd hx hb dX11_puts_35 ?_
    refine lv_iload_n hx hb dX11_puts_36 rfl (lv_at hl 2 rfl) ?_
    obtain ⟨g11, h⟩ := gd_ok h
    refine r_iast C hP hS (iw hw (ff_11_20 hk0).2) (ff_11_20 hk0).1 g11 dX11_puts_37 (fun H locs hP hS => ?_)
    obtain ⟨μ10, eμ10, h⟩ := vl_ex h
    have hP : fP w μ10 H := by rw [eμ10]; exact hP
    refine lv_aload_n hx hb dX11_puts_38 rfl (lv_at hl 0 rfl) ?_
    refine lv_bipush (v := (6)) hx hb dX11_puts_39 (by decide) ?_
    refine lv_aload_n hx hb dX11_puts_41 rfl (lv_at hl 0 rfl) ?_
    refine lv_bipush (v := (6)) hx hb dX11_puts_42 (by decide) ?_
    obtain ⟨r13, μ12, h14, h⟩ := bd_ok h
    refine go_i (callV_run (As := [.int (6 : Int32)]) (rest := [.int (6 : Int32), .ref (w.2.2.1 v0)]) C hl hP (hS.wide hJ).2.1 (iw hw (fi_11 hk0)) hk0 (m_X11_fresher l w hJ hw v0 (6 : Int32) hk0 μ10 h14) mv_X11_218 ⟨rfl, rfl, by decide, by decide⟩ rfl rfl (Nat.le_of_ble_eq_true rfl) ⟨Nat.zero_le _, Nat.zero_le _⟩ dX11_puts_44) hS (fun H locs hP hS => ?_)
    refine lv_iconst (v := (1)) hx hb dX11_puts_47 (by decide) ?_
    refine lv_iadd hx hb dX11_puts_48 ?_
    obtain ⟨r16, μ15, h17, h⟩ := bd_ok h
    refine go_v (callV_run (As := [.int (6 : Int32), .int (r13 + (1 : Int32))]) (rest := []) C hl hP (hS.wide hJ).2.1 (iw hw (fi_11 hk0)) hk0 (m_X11_reads l w hJ hw v0 (6 : Int32) (r13 + (1 : Int32)) hk0 μ12 h17) mv_X11_238 ⟨rfl, rfl, by decide, by decide⟩ rfl rfl (Nat.le_of_ble_eq_true rfl) ⟨Nat.zero_le _, Nat.zero_le _⟩ dX11_puts_49) hS (fun H locs hP hS => ?_)
    exact r_vret C hr hP hS h dX11_puts_52
  · replace h := if_f c1 h
    exact r_vret C hr hP hS h dX11_puts_7

def f_X11_primary_j194 (F_X11_expression : Nat → fMem → Option (Unit × fMem)) (v0 : Nat) (t0 : Nat) (t1 : Int32) (t2 : Int32) (μ : fMem) : Option (Unit × fMem) :=
  bd (f_X11_puts t0 t1 t2 μ) fun r22 μ21 => bd (f_X11_goOn v0 μ21) fun r25 μ24 => some ((), μ24)
def f_X11_primary_j176 (F_X11_expression : Nat → fMem → Option (Unit × fMem)) (v0 : Nat) (v1 : Int32) (t0 : Nat) (t1 : Int32) (μ : fMem) : Option (Unit × fMem) :=
  if v1 = 0 then f_X11_primary_j194 F_X11_expression v0 t0 t1 ((μ.1 v0 27) - (13 : Int32)) μ else f_X11_primary_j194 F_X11_expression v0 t0 t1 (μ.1 v0 27) μ
def f_X11_primary_j162 (F_X11_expression : Nat → fMem → Option (Unit × fMem)) (v0 : Nat) (v1 : Int32) (μ : fMem) : Option (Unit × fMem) :=
  bd (f_X11_knot v0 μ) fun r17 μ16 => if v1 = 0 then f_X11_primary_j176 F_X11_expression v0 v1 v0 (1 : Int32) μ16 else f_X11_primary_j176 F_X11_expression v0 v1 v0 (0 : Int32) μ16
def f_X11_primary_j157 (F_X11_expression : Nat → fMem → Option (Unit × fMem)) (v0 : Nat) (v1 : Int32) (μ : fMem) : Option (Unit × fMem) :=
  bd (f_X11_wrong v0 (1 : Int32) μ) fun r31 μ30 => f_X11_primary_j162 F_X11_expression v0 v1 μ30
def f_X11_primary_j137 (F_X11_expression : Nat → fMem → Option (Unit × fMem)) (v0 : Nat) (v1 : Int32) (μ : fMem) : Option (Unit × fMem) :=
  if v1 = 0 then if (μ.1 v0 26) = 0 then if (13 : Int32) ≤ (μ.1 v0 27) then f_X11_primary_j162 F_X11_expression v0 v1 μ else f_X11_primary_j157 F_X11_expression v0 v1 μ else f_X11_primary_j157 F_X11_expression v0 v1 μ else f_X11_primary_j162 F_X11_expression v0 v1 μ
def f_X11_primary_j114 (F_X11_expression : Nat → fMem → Option (Unit × fMem)) (v0 : Nat) (t0 : Int32) (μ : fMem) : Option (Unit × fMem) :=
  if t0 = 0 then f_X11_primary_j137 F_X11_expression v0 t0 μ else if (μ.1 v0 27) ≤ (9999 : Int32) then f_X11_primary_j137 F_X11_expression v0 t0 μ else bd (f_X11_wrong v0 (2 : Int32) μ) fun r14 μ13 => f_X11_primary_j162 F_X11_expression v0 t0 μ13
def f_X11_primary_j78 (F_X11_expression : Nat → fMem → Option (Unit × fMem)) (v0 : Nat) (μ : fMem) : Option (Unit × fMem) :=
  if (μ.1 v0 28) = 0 then vl (sI μ v0 32 ((μ.1 v0 32) - (1 : Int32))) fun μ50 => bd (f_X11_token v0 μ50) fun r52 μ51 => some ((), μ51) else some ((), μ)
def f_X11_primary_j31 (F_X11_expression : Nat → fMem → Option (Unit × fMem)) (v0 : Nat) (μ : fMem) : Option (Unit × fMem) :=
  if (μ.1 v0 28) = 0 then vl (sI μ v0 32 ((μ.1 v0 32) + (1 : Int32))) fun μ34 => bd (f_X11_token v0 μ34) fun r36 μ35 => bd (F_X11_expression v0 μ35) fun r39 μ38 => if (μ38.1 v0 28) = 0 then bd (f_X11_isSign v0 (41 : Int32) μ38) fun r43 μ42 => if r43 = 0 then bd (f_X11_wrong v0 (1 : Int32) μ42) fun r47 μ46 => f_X11_primary_j78 F_X11_expression v0 μ46 else f_X11_primary_j78 F_X11_expression v0 μ42 else f_X11_primary_j78 F_X11_expression v0 μ38 else some ((), μ)
def f_X11_primary_b (F_X11_expression : Nat → fMem → Option (Unit × fMem)) (v0 : Nat) (μ : fMem) : Option (Unit × fMem) :=
  if (μ.1 v0 28) = 0 then bd (f_X11_isSign v0 (40 : Int32) μ) fun r3 μ2 => if r3 = 0 then if (μ2.1 v0 26) = (2 : Int32) then f_X11_primary_j114 F_X11_expression v0 (1 : Int32) μ2 else f_X11_primary_j114 F_X11_expression v0 (0 : Int32) μ2 else if (μ2.1 v0 32) = (8 : Int32) then bd (f_X11_wrong v0 (2 : Int32) μ2) fun r9 μ8 => f_X11_primary_j31 F_X11_expression v0 μ8 else f_X11_primary_j31 F_X11_expression v0 μ2 else some ((), μ)
set_option maxHeartbeats 4000000 in
set_option maxRecDepth 100000 in
theorem mb_X11_primary (l : Launch) (w : fW) (hJ : fJ w) (hw : w.2.2.2 = sd 1) (R : Room) (hR : 7 ≤ R.frames ∧ 184 ≤ R.locals) {F_X11_expression : Nat → fMem → Option (Unit × fMem)} {R_X11_expression : Room} (hF_X11_expression : ∀ (v0 : Nat) (_ : kd v0 = (4, 11)) (μ : fMem) (r : Unit) (μr : fMem), F_X11_expression v0 μ = some (r, μr) → Met l yX11_expression (.code yX11_expression cX11_expression 1 none :: gw) R_X11_expression (fPc w [.ref (w.2.2.1 v0)] μ) (fQv w μr) 0 0 (fA w)) (hR_X11_expression : rmo R R_X11_expression 1) (v0 : Nat) (hk0 : kd v0 = (4, 11)) (μ : fMem) {r : Unit} {μr : fMem} (h : f_X11_primary_b F_X11_expression v0 μ = some (r, μr)) : Met l yX11_primary (.code yX11_primary cX11_primary 2 none :: gw) R (fPc w [.ref (w.2.2.1 v0)] μ) (fQv w μr) 0 0 (fA w) := by
  refine met_of hJ (by decide) ?_ (Nat.le_of_ble_eq_true rfl)
  generalize ([.ref (w.2.2.1 v0)] : List Value).toArray = args
  intro p e s m below meth c ls C hr hP hl hS
  obtain ⟨hx, hb, hml, hown, hts, hK, -, hlk, hT⟩ := id C
  have hl : lv_has ls 2 [(0, .ref (w.2.2.1 v0))] := hl
  unfold f_X11_primary_b at h
  have J194 : ∀ (t0 : Nat) (t1 : Int32) (t2 : Int32) (μ : fMem) (_ : kd t0 = (4, 11)) (_ : inW w.2.2.2 t0), f_X11_primary_j194 F_X11_expression v0 t0 t1 t2 μ = some (r, μr) → WW p l e R s m args below meth c (MQ below (fQv w μr) args s 0 0 (fA w)) w μ 2 194 [.int t2, .int t1, .ref (w.2.2.1 t0)] [(0, .ref (w.2.2.1 v0))] := by
    intro t0 t1 t2 μ kt0 it0 h H locs ls hP hS hl
    unfold f_X11_primary_j194 at h
    obtain ⟨r22, μ21, h23, h⟩ := bd_ok h
    refine go_v (callV_run (As := [.int t1, .int t2]) (rest := []) C hl hP (hS.wide hJ).2.1 it0 kt0 (m_X11_puts l w hJ hw t0 t1 t2 kt0 μ h23) mv_X11_276 ⟨rfl, rfl, Nat.le_trans (by decide) hR.1, Nat.le_trans (by decide) hR.2⟩ rfl rfl (Nat.le_of_ble_eq_true rfl) ⟨Nat.zero_le _, Nat.zero_le _⟩ dX11_primary_194) hS (fun H locs hP hS => ?_)
    refine lv_aload_n hx hb dX11_primary_197 rfl (lv_at hl 0 rfl) ?_
    obtain ⟨r25, μ24, h26, h⟩ := bd_ok h
    refine go_v (callV_run (As := []) (rest := []) C hl hP (hS.wide hJ).2.1 (iw hw (fi_11 hk0)) hk0 (m_X11_goOn l w hJ hw v0 hk0 μ21 h26) mv_X11_225 ⟨rfl, rfl, Nat.le_trans (by decide) hR.1, Nat.le_trans (by decide) hR.2⟩ rfl rfl (Nat.le_of_ble_eq_true rfl) ⟨Nat.zero_le _, Nat.zero_le _⟩ dX11_primary_198) hS (fun H locs hP hS => ?_)
    exact r_vret C hr hP hS h dX11_primary_201
  have J176 : ∀ (v1 : Int32) (t0 : Nat) (t1 : Int32) (μ : fMem) (_ : kd t0 = (4, 11)) (_ : inW w.2.2.2 t0), f_X11_primary_j176 F_X11_expression v0 v1 t0 t1 μ = some (r, μr) → WW p l e R s m args below meth c (MQ below (fQv w μr) args s 0 0 (fA w)) w μ 2 176 [.int t1, .ref (w.2.2.1 t0)] [(0, .ref (w.2.2.1 v0)), (1, .int v1)] := by
    intro v1 t0 t1 μ kt0 it0 h H locs ls hP hS hl
    unfold f_X11_primary_j176 at h
    refine lv_iload_n hx hb dX11_primary_176 rfl (lv_at hl 1 rfl) ?_
    refine lv_if_eq (tgt := 187) hx hb dX11_primary_177 (by decide) (fun c20 => ?_) (fun c20 => ?_)
    · replace h := if_t c20 h
      refine lv_aload_n hx hb dX11_primary_187 rfl (lv_at hl 0 rfl) ?_
      refine r_getI C hP (iw hw (fi_11 hk0)) hk0 fl_X11_177 (Or.inl rfl) dX11_primary_188 ?_
      refine lv_bipush (v := (13)) hx hb dX11_primary_191 (by decide) ?_
      refine lv_isub hx hb dX11_primary_193 ?_
      exact J194 t0 t1 ((μ.1 v0 27) - (13 : Int32)) μ kt0 it0 h _ _ _ hP hS (lv_sub hl [0] rfl)
    · replace h := if_f c20 h
      refine lv_aload_n hx hb dX11_primary_180 rfl (lv_at hl 0 rfl) ?_
      refine r_getI C hP (iw hw (fi_11 hk0)) hk0 fl_X11_177 (Or.inl rfl) dX11_primary_181 ?_
      refine lv_goto (tgt := 194) hx hb dX11_primary_184 (by decide) ?_
      exact J194 t0 t1 (μ.1 v0 27) μ kt0 it0 h _ _ _ hP hS (lv_sub hl [0] rfl)
  have J162 : ∀ (v1 : Int32) (μ : fMem), f_X11_primary_j162 F_X11_expression v0 v1 μ = some (r, μr) → WW p l e R s m args below meth c (MQ below (fQv w μr) args s 0 0 (fA w)) w μ 2 162 [] [(0, .ref (w.2.2.1 v0)), (1, .int v1)] := by
    intro v1 μ  h H locs ls hP hS hl
    unfold f_X11_primary_j162 at h
    refine lv_aload_n hx hb dX11_primary_162 rfl (lv_at hl 0 rfl) ?_
    obtain ⟨r17, μ16, h18, h⟩ := bd_ok h
    refine go_v (callV_run (As := []) (rest := []) C hl hP (hS.wide hJ).2.1 (iw hw (fi_11 hk0)) hk0 (m_X11_knot l w hJ hw v0 hk0 μ h18) mv_X11_273 ⟨rfl, rfl, Nat.le_trans (by decide) hR.1, Nat.le_trans (by decide) hR.2⟩ rfl rfl (Nat.le_of_ble_eq_true rfl) ⟨Nat.zero_le _, Nat.zero_le _⟩ dX11_primary_163) hS (fun H locs hP hS => ?_)
    refine lv_aload_n hx hb dX11_primary_166 rfl (lv_at hl 0 rfl) ?_
    refine lv_iload_n hx hb dX11_primary_167 rfl (lv_at hl 1 rfl) ?_
    refine lv_if_eq (tgt := 175) hx hb dX11_primary_168 (by decide) (fun c19 => ?_) (fun c19 => ?_)
    · replace h := if_t c19 h
      refine lv_iconst (v := (1)) hx hb dX11_primary_175 (by decide) ?_
      exact J176 v1 v0 (1 : Int32) μ16 hk0 (iw hw (fi_11 hk0)) h _ _ _ hP hS (lv_sub hl [0, 1] rfl)
    · replace h := if_f c19 h
      refine lv_iconst (v := (0)) hx hb dX11_primary_171 (by decide) ?_
      refine lv_goto (tgt := 176) hx hb dX11_primary_172 (by decide) ?_
      exact J176 v1 v0 (0 : Int32) μ16 hk0 (iw hw (fi_11 hk0)) h _ _ _ hP hS (lv_sub hl [0, 1] rfl)
  have J157 : ∀ (v1 : Int32) (μ : fMem), f_X11_primary_j157 F_X11_expression v0 v1 μ = some (r, μr) → WW p l e R s m args below meth c (MQ below (fQv w μr) args s 0 0 (fA w)) w μ 2 157 [] [(0, .ref (w.2.2.1 v0)), (1, .int v1)] := by
    intro v1 μ  h H locs ls hP hS hl
    unfold f_X11_primary_j157 at h
    refine lv_aload_n hx hb dX11_primary_157 rfl (lv_at hl 0 rfl) ?_
    refine lv_iconst (v := (1)) hx hb dX11_primary_158 (by decide) ?_
    obtain ⟨r31, μ30, h32, h⟩ := bd_ok h
    refine go_v (callV_run (As := [.int (1 : Int32)]) (rest := []) C hl hP (hS.wide hJ).2.1 (iw hw (fi_11 hk0)) hk0 (m_X11_wrong l w hJ hw v0 (1 : Int32) hk0 μ h32) mv_X11_211 ⟨rfl, rfl, Nat.le_trans (by decide) hR.1, Nat.le_trans (by decide) hR.2⟩ rfl rfl (Nat.le_of_ble_eq_true rfl) ⟨Nat.zero_le _, Nat.zero_le _⟩ dX11_primary_159) hS (fun H locs hP hS => ?_)
    exact J162 v1 μ30  h _ _ _ hP hS (lv_sub hl [0, 1] rfl)
  have J137 : ∀ (v1 : Int32) (μ : fMem), f_X11_primary_j137 F_X11_expression v0 v1 μ = some (r, μr) → WW p l e R s m args below meth c (MQ below (fQv w μr) args s 0 0 (fA w)) w μ 2 137 [] [(0, .ref (w.2.2.1 v0)), (1, .int v1)] := by
    intro v1 μ  h H locs ls hP hS hl
    unfold f_X11_primary_j137 at h
    refine lv_iload_n hx hb dX11_primary_137 rfl (lv_at hl 1 rfl) ?_
    refine lv_if_ne (tgt := 162) hx hb dX11_primary_138 (by decide) (fun c27 => ?_) (fun c27 => ?_)
    · replace h := if_f c27 h
      exact J162 v1 μ  h _ _ _ hP hS (lv_sub hl [0, 1] rfl)
    · replace h := if_t c27 h
      refine lv_aload_n hx hb dX11_primary_141 rfl (lv_at hl 0 rfl) ?_
      refine r_getI C hP (iw hw (fi_11 hk0)) hk0 fl_X11_167 (Or.inl rfl) dX11_primary_142 ?_
      refine lv_if_ne (tgt := 157) hx hb dX11_primary_145 (by decide) (fun c28 => ?_) (fun c28 => ?_)
      · replace h := if_f c28 h
        exact J157 v1 μ  h _ _ _ hP hS (lv_sub hl [0, 1] rfl)
      · replace h := if_t c28 h
        refine lv_aload_n hx hb dX11_primary_148 rfl (lv_at hl 0 rfl) ?_
        refine r_getI C hP (iw hw (fi_11 hk0)) hk0 fl_X11_177 (Or.inl rfl) dX11_primary_149 ?_
        refine lv_bipush (v := (13)) hx hb dX11_primary_152 (by decide) ?_
        refine lv_icmp_ge (tgt := 162) hx hb dX11_primary_154 (by decide) (fun c29 => ?_) (fun c29 => ?_)
        · replace h := if_t c29 h
          exact J162 v1 μ  h _ _ _ hP hS (lv_sub hl [0, 1] rfl)
        · replace h := if_f c29 h
          exact J157 v1 μ  h _ _ _ hP hS (lv_sub hl [0, 1] rfl)
  have J114 : ∀ (t0 : Int32) (μ : fMem), f_X11_primary_j114 F_X11_expression v0 t0 μ = some (r, μr) → WW p l e R s m args below meth c (MQ below (fQv w μr) args s 0 0 (fA w)) w μ 2 114 [.int t0] [(0, .ref (w.2.2.1 v0))] := by
    intro t0 μ  h H locs ls hP hS hl
    unfold f_X11_primary_j114 at h
    refine lv_istore_n (lv' := [(1, .int t0), (0, .ref (w.2.2.1 v0))]) hx hb dX11_primary_114 rfl hl (by decide) rfl (fun ls hl => ?_)
    refine lv_iload_n hx hb dX11_primary_115 rfl (lv_at hl 0 rfl) ?_
    refine lv_if_eq (tgt := 137) hx hb dX11_primary_116 (by decide) (fun c11 => ?_) (fun c11 => ?_)
    · replace h := if_t c11 h
      exact J137 t0 μ  h _ _ _ hP hS (lv_sub hl [1, 0] rfl)
    · replace h := if_f c11 h
      refine lv_aload_n hx hb dX11_primary_119 rfl (lv_at hl 1 rfl) ?_
      refine r_getI C hP (iw hw (fi_11 hk0)) hk0 fl_X11_177 (Or.inl rfl) dX11_primary_120 ?_
      refine lv_sipush (v := (9999)) hx hb dX11_primary_123 (by decide) ?_
      refine lv_icmp_le (tgt := 137) hx hb dX11_primary_126 (by decide) (fun c12 => ?_) (fun c12 => ?_)
      · replace h := if_t c12 h
        exact J137 t0 μ  h _ _ _ hP hS (lv_sub hl [1, 0] rfl)
      · replace h := if_f c12 h
        refine lv_aload_n hx hb dX11_primary_129 rfl (lv_at hl 1 rfl) ?_
        refine lv_iconst (v := (2)) hx hb dX11_primary_130 (by decide) ?_
        obtain ⟨r14, μ13, h15, h⟩ := bd_ok h
        refine go_v (callV_run (As := [.int (2 : Int32)]) (rest := []) C hl hP (hS.wide hJ).2.1 (iw hw (fi_11 hk0)) hk0 (m_X11_wrong l w hJ hw v0 (2 : Int32) hk0 μ h15) mv_X11_211 ⟨rfl, rfl, Nat.le_trans (by decide) hR.1, Nat.le_trans (by decide) hR.2⟩ rfl rfl (Nat.le_of_ble_eq_true rfl) ⟨Nat.zero_le _, Nat.zero_le _⟩ dX11_primary_131) hS (fun H locs hP hS => ?_)
        refine lv_goto (tgt := 162) hx hb dX11_primary_134 (by decide) ?_
        exact J162 t0 μ13  h _ _ _ hP hS (lv_sub hl [1, 0] rfl)
  have J78 : ∀  (μ : fMem), f_X11_primary_j78 F_X11_expression v0 μ = some (r, μr) → WW p l e R s m args below meth c (MQ below (fQv w μr) args s 0 0 (fA w)) w μ 2 78 [] [(0, .ref (w.2.2.1 v0))] := by
    intro  μ  h H locs ls hP hS hl
    unfold f_X11_primary_j78 at h
    refine lv_aload_n hx hb dX11_primary_78 rfl (lv_at hl 0 rfl) ?_
    refine r_getI C hP (iw hw (fi_11 hk0)) hk0 fl_X11_202 (Or.inl rfl) dX11_primary_79 ?_
    refine lv_if_eq (tgt := 86) hx hb dX11_primary_82 (by decide) (fun c49 => ?_) (fun c49 => ?_)
    · replace h := if_t c49 h
      refine lv_aload_n hx hb dX11_primary_86 rfl (lv_at hl 0 rfl) ?_
      refine lv_dup hx hb dX11_primary_87 rfl ?_
      refine r_getI C hP (iw hw (fi_11 hk0)) hk0 fl_X11_291 (Or.inl rfl) dX11_primary_88 ?_
      refine lv_iconst (v := (1)) hx hb dX11_primary_91 (by decide) ?_
      refine lv_isub hx hb dX11_primary_92 ?_
      refine r_putI C hP hS (iw hw (fi_11 hk0)) hk0 fp_X11_291 rfl dX11_primary_93 (fun H locs hP hS => ?_)
      obtain ⟨μ50, eμ50, h⟩ := vl_ex h
      have hP : fP w μ50 H := by rw [eμ50]; exact hP
      refine lv_aload_n hx hb dX11_primary_96 rfl (lv_at hl 0 rfl) ?_
      obtain ⟨r52, μ51, h53, h⟩ := bd_ok h
      refine go_v (callV_run (As := []) (rest := []) C hl hP (hS.wide hJ).2.1 (iw hw (fi_11 hk0)) hk0 (m_X11_token l w hJ hw v0 hk0 μ50 h53) mv_X11_208 ⟨rfl, rfl, Nat.le_trans (by decide) hR.1, Nat.le_trans (by decide) hR.2⟩ rfl rfl (Nat.le_of_ble_eq_true rfl) ⟨Nat.zero_le _, Nat.zero_le _⟩ dX11_primary_97) hS (fun H locs hP hS => ?_)
      exact r_vret C hr hP hS h dX11_primary_100
    · replace h := if_f c49 h
      exact r_vret C hr hP hS h dX11_primary_85
  have J31 : ∀  (μ : fMem), f_X11_primary_j31 F_X11_expression v0 μ = some (r, μr) → WW p l e R s m args below meth c (MQ below (fQv w μr) args s 0 0 (fA w)) w μ 2 31 [] [(0, .ref (w.2.2.1 v0))] := by
    intro  μ  h H locs ls hP hS hl
    unfold f_X11_primary_j31 at h
    refine lv_aload_n hx hb dX11_primary_31 rfl (lv_at hl 0 rfl) ?_
    refine r_getI C hP (iw hw (fi_11 hk0)) hk0 fl_X11_202 (Or.inl rfl) dX11_primary_32 ?_
    refine lv_if_eq (tgt := 39) hx hb dX11_primary_35 (by decide) (fun c33 => ?_) (fun c33 => ?_)
    · replace h := if_t c33 h
      refine lv_aload_n hx hb dX11_primary_39 rfl (lv_at hl 0 rfl) ?_
      refine lv_dup hx hb dX11_primary_40 rfl ?_
      refine r_getI C hP (iw hw (fi_11 hk0)) hk0 fl_X11_291 (Or.inl rfl) dX11_primary_41 ?_
      refine lv_iconst (v := (1)) hx hb dX11_primary_44 (by decide) ?_
      refine lv_iadd hx hb dX11_primary_45 ?_
      refine r_putI C hP hS (iw hw (fi_11 hk0)) hk0 fp_X11_291 rfl dX11_primary_46 (fun H locs hP hS => ?_)
      obtain ⟨μ34, eμ34, h⟩ := vl_ex h
      have hP : fP w μ34 H := by rw [eμ34]; exact hP
      refine lv_aload_n hx hb dX11_primary_49 rfl (lv_at hl 0 rfl) ?_
      obtain ⟨r36, μ35, h37, h⟩ := bd_ok h
      refine go_v (callV_run (As := []) (rest := []) C hl hP (hS.wide hJ).2.1 (iw hw (fi_11 hk0)) hk0 (m_X11_token l w hJ hw v0 hk0 μ34 h37) mv_X11_208 ⟨rfl, rfl, Nat.le_trans (by decide) hR.1, Nat.le_trans (by decide) hR.2⟩ rfl rfl (Nat.le_of_ble_eq_true rfl) ⟨Nat.zero_le _, Nat.zero_le _⟩ dX11_primary_50) hS (fun H locs hP hS => ?_)
      refine lv_aload_n hx hb dX11_primary_53 rfl (lv_at hl 0 rfl) ?_
      obtain ⟨r39, μ38, h40, h⟩ := bd_ok h
      refine go_v (callV_run (As := []) (rest := []) C hl hP (hS.wide hJ).2.1 (iw hw (fi_11 hk0)) hk0 (hF_X11_expression v0 hk0 μ35 _ _ h40) mv_X11_261 hR_X11_expression rfl rfl (Nat.le_of_ble_eq_true rfl) ⟨Nat.zero_le _, Nat.zero_le _⟩ dX11_primary_54) hS (fun H locs hP hS => ?_)
      refine lv_aload_n hx hb dX11_primary_57 rfl (lv_at hl 0 rfl) ?_
      refine r_getI C hP (iw hw (fi_11 hk0)) hk0 fl_X11_202 (Or.inl rfl) dX11_primary_58 ?_
      refine lv_if_ne (tgt := 78) hx hb dX11_primary_61 (by decide) (fun c41 => ?_) (fun c41 => ?_)
      · replace h := if_f c41 h
        exact J78  μ38  h _ _ _ hP hS (lv_sub hl [0] rfl)
      · replace h := if_t c41 h
        refine lv_aload_n hx hb dX11_primary_64 rfl (lv_at hl 0 rfl) ?_
        refine lv_bipush (v := (41)) hx hb dX11_primary_65 (by decide) ?_
        obtain ⟨r43, μ42, h44, h⟩ := bd_ok h
        refine go_i (callV_run (As := [.int (41 : Int32)]) (rest := []) C hl hP (hS.wide hJ).2.1 (iw hw (fi_11 hk0)) hk0 (m_X11_isSign l w hJ hw v0 (41 : Int32) hk0 μ38 h44) mv_X11_255 ⟨rfl, rfl, Nat.le_trans (by decide) hR.1, Nat.le_trans (by decide) hR.2⟩ rfl rfl (Nat.le_of_ble_eq_true rfl) ⟨Nat.zero_le _, Nat.zero_le _⟩ dX11_primary_67) hS (fun H locs hP hS => ?_)
        refine lv_if_ne (tgt := 78) hx hb dX11_primary_70 (by decide) (fun c45 => ?_) (fun c45 => ?_)
        · replace h := if_f c45 h
          exact J78  μ42  h _ _ _ hP hS (lv_sub hl [0] rfl)
        · replace h := if_t c45 h
          refine lv_aload_n hx hb dX11_primary_73 rfl (lv_at hl 0 rfl) ?_
          refine lv_iconst (v := (1)) hx hb dX11_primary_74 (by decide) ?_
          obtain ⟨r47, μ46, h48, h⟩ := bd_ok h
          refine go_v (callV_run (As := [.int (1 : Int32)]) (rest := []) C hl hP (hS.wide hJ).2.1 (iw hw (fi_11 hk0)) hk0 (m_X11_wrong l w hJ hw v0 (1 : Int32) hk0 μ42 h48) mv_X11_211 ⟨rfl, rfl, Nat.le_trans (by decide) hR.1, Nat.le_trans (by decide) hR.2⟩ rfl rfl (Nat.le_of_ble_eq_true rfl) ⟨Nat.zero_le _, Nat.zero_le _⟩ dX11_primary_75) hS (fun H locs hP hS => ?_)
          exact J78  μ46  h _ _ _ hP hS (lv_sub hl [0] rfl)
    · replace h := if_f c33 h
      exact r_vret C hr hP hS h dX11_primary_38
  refine lv_aload_n hx hb dX11_primary_0 rfl (lv_at hl 0 rfl) ?_
  refine r_getI C hP (iw hw (fi_11 hk0)) hk0 fl_X11_202 (Or.inl rfl) dX11_primary_1 ?_
  refine lv_if_eq (tgt := 8) hx hb dX11_primary_4 (by decide) (fun c1 => ?_) (fun c1 => ?_)
  · replace h := if_t c1 h
    refine lv_aload_n hx hb dX11_primary_8 rfl (lv_at hl 0 rfl) ?_
    refine lv_bipush (v := (40)) hx hb dX11_primary_9 (by decide) ?_
    obtain ⟨r3, μ2, h4, h⟩ := bd_ok h
    refine go_i (callV_run (As := [.int (40 : Int32)]) (rest := []) C hl hP (hS.wide hJ).2.1 (iw hw (fi_11 hk0)) hk0 (m_X11_isSign l w hJ hw v0 (40 : Int32) hk0 μ h4) mv_X11_255 ⟨rfl, rfl, Nat.le_trans (by decide) hR.1, Nat.le_trans (by decide) hR.2⟩ rfl rfl (Nat.le_of_ble_eq_true rfl) ⟨Nat.zero_le _, Nat.zero_le _⟩ dX11_primary_11) hS (fun H locs hP hS => ?_)
    refine lv_if_eq (tgt := 101) hx hb dX11_primary_14 (by decide) (fun c5 => ?_) (fun c5 => ?_)
    · replace h := if_t c5 h
      refine lv_aload_n hx hb dX11_primary_101 rfl (lv_at hl 0 rfl) ?_
      refine r_getI C hP (iw hw (fi_11 hk0)) hk0 fl_X11_167 (Or.inl rfl) dX11_primary_102 ?_
      refine lv_iconst (v := (2)) hx hb dX11_primary_105 (by decide) ?_
      refine lv_icmp_ne (tgt := 113) hx hb dX11_primary_106 (by decide) (fun c6 => ?_) (fun c6 => ?_)
      · replace h := if_f c6 h
        refine lv_iconst (v := (0)) hx hb dX11_primary_113 (by decide) ?_
        exact J114 (0 : Int32) μ2  h _ _ _ hP hS (lv_sub hl [0] rfl)
      · replace h := if_t c6 h
        refine lv_iconst (v := (1)) hx hb dX11_primary_109 (by decide) ?_
        refine lv_goto (tgt := 114) hx hb dX11_primary_110 (by decide) ?_
        exact J114 (1 : Int32) μ2  h _ _ _ hP hS (lv_sub hl [0] rfl)
    · replace h := if_f c5 h
      refine lv_aload_n hx hb dX11_primary_17 rfl (lv_at hl 0 rfl) ?_
      refine r_getI C hP (iw hw (fi_11 hk0)) hk0 fl_X11_291 (Or.inl rfl) dX11_primary_18 ?_
      refine lv_bipush (v := (8)) hx hb dX11_primary_21 (by decide) ?_
      refine lv_icmp_ne (tgt := 31) hx hb dX11_primary_23 (by decide) (fun c7 => ?_) (fun c7 => ?_)
      · replace h := if_f c7 h
        exact J31  μ2  h _ _ _ hP hS (lv_sub hl [0] rfl)
      · replace h := if_t c7 h
        refine lv_aload_n hx hb dX11_primary_26 rfl (lv_at hl 0 rfl) ?_
        refine lv_iconst (v := (2)) hx hb dX11_primary_27 (by decide) ?_
        obtain ⟨r9, μ8, h10, h⟩ := bd_ok h
        refine go_v (callV_run (As := [.int (2 : Int32)]) (rest := []) C hl hP (hS.wide hJ).2.1 (iw hw (fi_11 hk0)) hk0 (m_X11_wrong l w hJ hw v0 (2 : Int32) hk0 μ2 h10) mv_X11_211 ⟨rfl, rfl, Nat.le_trans (by decide) hR.1, Nat.le_trans (by decide) hR.2⟩ rfl rfl (Nat.le_of_ble_eq_true rfl) ⟨Nat.zero_le _, Nat.zero_le _⟩ dX11_primary_28) hS (fun H locs hP hS => ?_)
        exact J31  μ8  h _ _ _ hP hS (lv_sub hl [0] rfl)
  · replace h := if_f c1 h
    exact r_vret C hr hP hS h dX11_primary_7
def f_X11_product_j22 (F_X11_primary : Nat → fMem → Option (Unit × fMem)) (v0 : Nat) (μ : fMem) : Option (Nat × (fMem)) :=
  vl (μ.1 v0 27) fun x12 => bd (f_X11_knot v0 μ) fun r14 μ13 => bd (f_X11_goOn v0 μ13) fun r17 μ16 => bd (F_X11_primary v0 μ16) fun r20 μ19 => bd (f_X11_puts v0 (2 : Int32) x12 μ19) fun r23 μ22 => some (0, (μ22))
def f_X11_product_L4 (F_X11_primary : Nat → fMem → Option (Unit × fMem)) (v0 : Nat)  (μ : fMem) : Option (Nat × (fMem)) :=
  bd (f_X11_isSign v0 (42 : Int32) μ) fun r5 μ4 => if r5 = 0 then bd (f_X11_isSign v0 (47 : Int32) μ4) fun r9 μ8 => if r9 = 0 then some (1, (μ8)) else f_X11_product_j22 F_X11_primary v0 μ8 else f_X11_product_j22 F_X11_primary v0 μ4
def f_X11_product_b (F_X11_primary : Nat → fMem → Option (Unit × fMem)) (v0 : Nat) (μ : fMem) : Option (Unit × fMem) :=
  bd (F_X11_primary v0 μ) fun r2 μ1 => bd (lpn (fun (q : fMem) => f_X11_product_L4 F_X11_primary v0 q) fuel (μ1)) fun t25 q26 => (fun  (q26 : fMem) => some ((), q26)) q26
set_option maxHeartbeats 4000000 in
set_option maxRecDepth 100000 in
theorem mb_X11_product (l : Launch) (w : fW) (hJ : fJ w) (hw : w.2.2.2 = sd 1) (R : Room) (hR : 7 ≤ R.frames ∧ 184 ≤ R.locals) {F_X11_primary : Nat → fMem → Option (Unit × fMem)} {R_X11_primary : Room} (hF_X11_primary : ∀ (v0 : Nat) (_ : kd v0 = (4, 11)) (μ : fMem) (r : Unit) (μr : fMem), F_X11_primary v0 μ = some (r, μr) → Met l yX11_primary (.code yX11_primary cX11_primary 2 none :: gw) R_X11_primary (fPc w [.ref (w.2.2.1 v0)] μ) (fQv w μr) 0 0 (fA w)) (hR_X11_primary : rmo R R_X11_primary 2) (v0 : Nat) (hk0 : kd v0 = (4, 11)) (μ : fMem) {r : Unit} {μr : fMem} (h : f_X11_product_b F_X11_primary v0 μ = some (r, μr)) : Met l yX11_product (.code yX11_product cX11_product 2 none :: gw) R (fPc w [.ref (w.2.2.1 v0)] μ) (fQv w μr) 0 0 (fA w) := by
  refine met_of hJ (by decide) ?_ (Nat.le_of_ble_eq_true rfl)
  generalize ([.ref (w.2.2.1 v0)] : List Value).toArray = args
  intro p e s m below meth c ls C hr hP hl hS
  obtain ⟨hx, hb, hml, hown, hts, hK, -, hlk, hT⟩ := id C
  have hl : lv_has ls 2 [(0, .ref (w.2.2.1 v0))] := hl
  unfold f_X11_product_b at h
  refine lv_aload_n hx hb dX11_product_0 rfl (lv_at hl 0 rfl) ?_
  obtain ⟨r2, μ1, h3, h⟩ := bd_ok h
  refine go_v (callV_run (As := []) (rest := []) C hl hP (hS.wide hJ).2.1 (iw hw (fi_11 hk0)) hk0 (hF_X11_primary v0 hk0 μ _ _ h3) mv_X11_288 hR_X11_primary rfl rfl (Nat.le_of_ble_eq_true rfl) ⟨Nat.zero_le _, Nat.zero_le _⟩ dX11_product_1) hS (fun H locs hP hS => ?_)
  obtain ⟨t25, q26, h28, h⟩ := bd_ok h
  refine lpn_ind (b := (fun (q : fMem) => f_X11_product_L4 F_X11_primary v0 q)) (P := fun (q : fMem) => WW p l e R s m args below meth c (MQ below (fQv w μr) args s 0 0 (fA w)) w q 2 4 [] [(0, .ref (w.2.2.1 v0))]) (K := fun _ (q : fMem) => WW p l e R s m args below meth c (MQ below (fQv w μr) args s 0 0 (fA w)) w q 2 48 [] []) ?_ fuel (μ1) t25 q26 h28 ?_ _ _ _ hP hS (lv_sub hl [0] rfl)
  · intro μ tz4 sz4 h hP0_4 hK0_4 H locs ls hP hS hl
    have hP : fP w μ H := hP
    have hl : lv_has ls 2 [(0, .ref (w.2.2.1 v0))] := hl
    have h : f_X11_product_L4 F_X11_primary v0  μ = some (tz4, sz4) := h
    unfold f_X11_product_L4 at h
    have J22 : ∀  (μ : fMem), f_X11_product_j22 F_X11_primary v0 μ = some (tz4, sz4) → WW p l e R s m args below meth c (MQ below (fQv w μr) args s 0 0 (fA w)) w μ 2 22 [] [(0, .ref (w.2.2.1 v0))] := by
      intro  μ  h H locs ls hP hS hl
      unfold f_X11_product_j22 at h
      refine lv_aload_n hx hb dX11_product_22 rfl (lv_at hl 0 rfl) ?_
      refine r_getI C hP (iw hw (fi_11 hk0)) hk0 fl_X11_177 (Or.inl rfl) dX11_product_23 ?_
      refine lv_topi (fun x12 ex12 => ?_)
      replace h := vl_ok ex12 h
      refine lv_istore_n (lv' := [(1, .int x12), (0, .ref (w.2.2.1 v0))]) hx hb dX11_product_26 rfl hl (by decide) rfl (fun ls hl => ?_)
      refine lv_aload_n hx hb dX11_product_27 rfl (lv_at hl 1 rfl) ?_
      obtain ⟨r14, μ13, h15, h⟩ := bd_ok h
      refine go_v (callV_run (As := []) (rest := []) C hl hP (hS.wide hJ).2.1 (iw hw (fi_11 hk0)) hk0 (m_X11_knot l w hJ hw v0 hk0 μ h15) mv_X11_273 ⟨rfl, rfl, Nat.le_trans (by decide) hR.1, Nat.le_trans (by decide) hR.2⟩ rfl rfl (Nat.le_of_ble_eq_true rfl) ⟨Nat.zero_le _, Nat.zero_le _⟩ dX11_product_28) hS (fun H locs hP hS => ?_)
      refine lv_aload_n hx hb dX11_product_31 rfl (lv_at hl 1 rfl) ?_
      obtain ⟨r17, μ16, h18, h⟩ := bd_ok h
      refine go_v (callV_run (As := []) (rest := []) C hl hP (hS.wide hJ).2.1 (iw hw (fi_11 hk0)) hk0 (m_X11_goOn l w hJ hw v0 hk0 μ13 h18) mv_X11_225 ⟨rfl, rfl, Nat.le_trans (by decide) hR.1, Nat.le_trans (by decide) hR.2⟩ rfl rfl (Nat.le_of_ble_eq_true rfl) ⟨Nat.zero_le _, Nat.zero_le _⟩ dX11_product_32) hS (fun H locs hP hS => ?_)
      refine lv_aload_n hx hb dX11_product_35 rfl (lv_at hl 1 rfl) ?_
      obtain ⟨r20, μ19, h21, h⟩ := bd_ok h
      refine go_v (callV_run (As := []) (rest := []) C hl hP (hS.wide hJ).2.1 (iw hw (fi_11 hk0)) hk0 (hF_X11_primary v0 hk0 μ16 _ _ h21) mv_X11_288 hR_X11_primary rfl rfl (Nat.le_of_ble_eq_true rfl) ⟨Nat.zero_le _, Nat.zero_le _⟩ dX11_product_36) hS (fun H locs hP hS => ?_)
      refine lv_aload_n hx hb dX11_product_39 rfl (lv_at hl 1 rfl) ?_
      refine lv_iconst (v := (2)) hx hb dX11_product_40 (by decide) ?_
      refine lv_iload_n hx hb dX11_product_41 rfl (lv_at hl 0 rfl) ?_
      obtain ⟨r23, μ22, h24, h⟩ := bd_ok h
      refine go_v (callV_run (As := [.int (2 : Int32), .int x12]) (rest := []) C hl hP (hS.wide hJ).2.1 (iw hw (fi_11 hk0)) hk0 (m_X11_puts l w hJ hw v0 (2 : Int32) x12 hk0 μ19 h24) mv_X11_276 ⟨rfl, rfl, Nat.le_trans (by decide) hR.1, Nat.le_trans (by decide) hR.2⟩ rfl rfl (Nat.le_of_ble_eq_true rfl) ⟨Nat.zero_le _, Nat.zero_le _⟩ dX11_product_42) hS (fun H locs hP hS => ?_)
      refine lv_goto (tgt := 4) hx hb dX11_product_45 (by decide) ?_
      obtain ⟨rfl, rfl⟩ := leaf h
      exact hP0_4 rfl _ _ _ hP hS (lv_sub hl [1] rfl)
    refine lv_aload_n hx hb dX11_product_4 rfl (lv_at hl 0 rfl) ?_
    refine lv_bipush (v := (42)) hx hb dX11_product_5 (by decide) ?_
    obtain ⟨r5, μ4, h6, h⟩ := bd_ok h
    refine go_i (callV_run (As := [.int (42 : Int32)]) (rest := []) C hl hP (hS.wide hJ).2.1 (iw hw (fi_11 hk0)) hk0 (m_X11_isSign l w hJ hw v0 (42 : Int32) hk0 μ h6) mv_X11_255 ⟨rfl, rfl, Nat.le_trans (by decide) hR.1, Nat.le_trans (by decide) hR.2⟩ rfl rfl (Nat.le_of_ble_eq_true rfl) ⟨Nat.zero_le _, Nat.zero_le _⟩ dX11_product_7) hS (fun H locs hP hS => ?_)
    refine lv_if_ne (tgt := 22) hx hb dX11_product_10 (by decide) (fun c7 => ?_) (fun c7 => ?_)
    · replace h := if_f c7 h
      exact J22  μ4  h _ _ _ hP hS (lv_sub hl [0] rfl)
    · replace h := if_t c7 h
      refine lv_aload_n hx hb dX11_product_13 rfl (lv_at hl 0 rfl) ?_
      refine lv_bipush (v := (47)) hx hb dX11_product_14 (by decide) ?_
      obtain ⟨r9, μ8, h10, h⟩ := bd_ok h
      refine go_i (callV_run (As := [.int (47 : Int32)]) (rest := []) C hl hP (hS.wide hJ).2.1 (iw hw (fi_11 hk0)) hk0 (m_X11_isSign l w hJ hw v0 (47 : Int32) hk0 μ4 h10) mv_X11_255 ⟨rfl, rfl, Nat.le_trans (by decide) hR.1, Nat.le_trans (by decide) hR.2⟩ rfl rfl (Nat.le_of_ble_eq_true rfl) ⟨Nat.zero_le _, Nat.zero_le _⟩ dX11_product_16) hS (fun H locs hP hS => ?_)
      refine lv_if_eq (tgt := 48) hx hb dX11_product_19 (by decide) (fun c11 => ?_) (fun c11 => ?_)
      · replace h := if_t c11 h
        obtain ⟨rfl, rfl⟩ := leaf h
        exact (hK0_4 0 rfl) _ _ _ hP hS (lv_sub hl [] rfl)
      · replace h := if_f c11 h
        exact J22  μ8  h _ _ _ hP hS (lv_sub hl [0] rfl)
  · skip
    intro H locs ls hP hS hl
    have hP : fP w q26 H := hP
    have hl : lv_has ls 2 [] := hl
    try dsimp only at h
    exact r_vret C hr hP hS h dX11_product_48
def f_X11_sum_j22 (F_X11_product : Nat → fMem → Option (Unit × fMem)) (v0 : Nat) (μ : fMem) : Option (Nat × (fMem)) :=
  vl (μ.1 v0 27) fun x12 => bd (f_X11_knot v0 μ) fun r14 μ13 => bd (f_X11_goOn v0 μ13) fun r17 μ16 => bd (F_X11_product v0 μ16) fun r20 μ19 => bd (f_X11_puts v0 (2 : Int32) x12 μ19) fun r23 μ22 => some (0, (μ22))
def f_X11_sum_L4 (F_X11_product : Nat → fMem → Option (Unit × fMem)) (v0 : Nat)  (μ : fMem) : Option (Nat × (fMem)) :=
  bd (f_X11_isSign v0 (43 : Int32) μ) fun r5 μ4 => if r5 = 0 then bd (f_X11_isSign v0 (45 : Int32) μ4) fun r9 μ8 => if r9 = 0 then some (1, (μ8)) else f_X11_sum_j22 F_X11_product v0 μ8 else f_X11_sum_j22 F_X11_product v0 μ4
def f_X11_sum_b (F_X11_product : Nat → fMem → Option (Unit × fMem)) (v0 : Nat) (μ : fMem) : Option (Unit × fMem) :=
  bd (F_X11_product v0 μ) fun r2 μ1 => bd (lpn (fun (q : fMem) => f_X11_sum_L4 F_X11_product v0 q) fuel (μ1)) fun t25 q26 => (fun  (q26 : fMem) => some ((), q26)) q26
set_option maxHeartbeats 4000000 in
set_option maxRecDepth 100000 in
theorem mb_X11_sum (l : Launch) (w : fW) (hJ : fJ w) (hw : w.2.2.2 = sd 1) (R : Room) (hR : 7 ≤ R.frames ∧ 184 ≤ R.locals) {F_X11_product : Nat → fMem → Option (Unit × fMem)} {R_X11_product : Room} (hF_X11_product : ∀ (v0 : Nat) (_ : kd v0 = (4, 11)) (μ : fMem) (r : Unit) (μr : fMem), F_X11_product v0 μ = some (r, μr) → Met l yX11_product (.code yX11_product cX11_product 2 none :: gw) R_X11_product (fPc w [.ref (w.2.2.1 v0)] μ) (fQv w μr) 0 0 (fA w)) (hR_X11_product : rmo R R_X11_product 2) (v0 : Nat) (hk0 : kd v0 = (4, 11)) (μ : fMem) {r : Unit} {μr : fMem} (h : f_X11_sum_b F_X11_product v0 μ = some (r, μr)) : Met l yX11_sum (.code yX11_sum cX11_sum 2 none :: gw) R (fPc w [.ref (w.2.2.1 v0)] μ) (fQv w μr) 0 0 (fA w) := by
  refine met_of hJ (by decide) ?_ (Nat.le_of_ble_eq_true rfl)
  generalize ([.ref (w.2.2.1 v0)] : List Value).toArray = args
  intro p e s m below meth c ls C hr hP hl hS
  obtain ⟨hx, hb, hml, hown, hts, hK, -, hlk, hT⟩ := id C
  have hl : lv_has ls 2 [(0, .ref (w.2.2.1 v0))] := hl
  unfold f_X11_sum_b at h
  refine lv_aload_n hx hb dX11_sum_0 rfl (lv_at hl 0 rfl) ?_
  obtain ⟨r2, μ1, h3, h⟩ := bd_ok h
  refine go_v (callV_run (As := []) (rest := []) C hl hP (hS.wide hJ).2.1 (iw hw (fi_11 hk0)) hk0 (hF_X11_product v0 hk0 μ _ _ h3) mv_X11_285 hR_X11_product rfl rfl (Nat.le_of_ble_eq_true rfl) ⟨Nat.zero_le _, Nat.zero_le _⟩ dX11_sum_1) hS (fun H locs hP hS => ?_)
  obtain ⟨t25, q26, h28, h⟩ := bd_ok h
  refine lpn_ind (b := (fun (q : fMem) => f_X11_sum_L4 F_X11_product v0 q)) (P := fun (q : fMem) => WW p l e R s m args below meth c (MQ below (fQv w μr) args s 0 0 (fA w)) w q 2 4 [] [(0, .ref (w.2.2.1 v0))]) (K := fun _ (q : fMem) => WW p l e R s m args below meth c (MQ below (fQv w μr) args s 0 0 (fA w)) w q 2 48 [] []) ?_ fuel (μ1) t25 q26 h28 ?_ _ _ _ hP hS (lv_sub hl [0] rfl)
  · intro μ tz4 sz4 h hP0_4 hK0_4 H locs ls hP hS hl
    have hP : fP w μ H := hP
    have hl : lv_has ls 2 [(0, .ref (w.2.2.1 v0))] := hl
    have h : f_X11_sum_L4 F_X11_product v0  μ = some (tz4, sz4) := h
    unfold f_X11_sum_L4 at h
    have J22 : ∀  (μ : fMem), f_X11_sum_j22 F_X11_product v0 μ = some (tz4, sz4) → WW p l e R s m args below meth c (MQ below (fQv w μr) args s 0 0 (fA w)) w μ 2 22 [] [(0, .ref (w.2.2.1 v0))] := by
      intro  μ  h H locs ls hP hS hl
      unfold f_X11_sum_j22 at h
      refine lv_aload_n hx hb dX11_sum_22 rfl (lv_at hl 0 rfl) ?_
      refine r_getI C hP (iw hw (fi_11 hk0)) hk0 fl_X11_177 (Or.inl rfl) dX11_sum_23 ?_
      refine lv_topi (fun x12 ex12 => ?_)
      replace h := vl_ok ex12 h
      refine lv_istore_n (lv' := [(1, .int x12), (0, .ref (w.2.2.1 v0))]) hx hb dX11_sum_26 rfl hl (by decide) rfl (fun ls hl => ?_)
      refine lv_aload_n hx hb dX11_sum_27 rfl (lv_at hl 1 rfl) ?_
      obtain ⟨r14, μ13, h15, h⟩ := bd_ok h
      refine go_v (callV_run (As := []) (rest := []) C hl hP (hS.wide hJ).2.1 (iw hw (fi_11 hk0)) hk0 (m_X11_knot l w hJ hw v0 hk0 μ h15) mv_X11_273 ⟨rfl, rfl, Nat.le_trans (by decide) hR.1, Nat.le_trans (by decide) hR.2⟩ rfl rfl (Nat.le_of_ble_eq_true rfl) ⟨Nat.zero_le _, Nat.zero_le _⟩ dX11_sum_28) hS (fun H locs hP hS => ?_)
      refine lv_aload_n hx hb dX11_sum_31 rfl (lv_at hl 1 rfl) ?_
      obtain ⟨r17, μ16, h18, h⟩ := bd_ok h
      refine go_v (callV_run (As := []) (rest := []) C hl hP (hS.wide hJ).2.1 (iw hw (fi_11 hk0)) hk0 (m_X11_goOn l w hJ hw v0 hk0 μ13 h18) mv_X11_225 ⟨rfl, rfl, Nat.le_trans (by decide) hR.1, Nat.le_trans (by decide) hR.2⟩ rfl rfl (Nat.le_of_ble_eq_true rfl) ⟨Nat.zero_le _, Nat.zero_le _⟩ dX11_sum_32) hS (fun H locs hP hS => ?_)
      refine lv_aload_n hx hb dX11_sum_35 rfl (lv_at hl 1 rfl) ?_
      obtain ⟨r20, μ19, h21, h⟩ := bd_ok h
      refine go_v (callV_run (As := []) (rest := []) C hl hP (hS.wide hJ).2.1 (iw hw (fi_11 hk0)) hk0 (hF_X11_product v0 hk0 μ16 _ _ h21) mv_X11_285 hR_X11_product rfl rfl (Nat.le_of_ble_eq_true rfl) ⟨Nat.zero_le _, Nat.zero_le _⟩ dX11_sum_36) hS (fun H locs hP hS => ?_)
      refine lv_aload_n hx hb dX11_sum_39 rfl (lv_at hl 1 rfl) ?_
      refine lv_iconst (v := (2)) hx hb dX11_sum_40 (by decide) ?_
      refine lv_iload_n hx hb dX11_sum_41 rfl (lv_at hl 0 rfl) ?_
      obtain ⟨r23, μ22, h24, h⟩ := bd_ok h
      refine go_v (callV_run (As := [.int (2 : Int32), .int x12]) (rest := []) C hl hP (hS.wide hJ).2.1 (iw hw (fi_11 hk0)) hk0 (m_X11_puts l w hJ hw v0 (2 : Int32) x12 hk0 μ19 h24) mv_X11_276 ⟨rfl, rfl, Nat.le_trans (by decide) hR.1, Nat.le_trans (by decide) hR.2⟩ rfl rfl (Nat.le_of_ble_eq_true rfl) ⟨Nat.zero_le _, Nat.zero_le _⟩ dX11_sum_42) hS (fun H locs hP hS => ?_)
      refine lv_goto (tgt := 4) hx hb dX11_sum_45 (by decide) ?_
      obtain ⟨rfl, rfl⟩ := leaf h
      exact hP0_4 rfl _ _ _ hP hS (lv_sub hl [1] rfl)
    refine lv_aload_n hx hb dX11_sum_4 rfl (lv_at hl 0 rfl) ?_
    refine lv_bipush (v := (43)) hx hb dX11_sum_5 (by decide) ?_
    obtain ⟨r5, μ4, h6, h⟩ := bd_ok h
    refine go_i (callV_run (As := [.int (43 : Int32)]) (rest := []) C hl hP (hS.wide hJ).2.1 (iw hw (fi_11 hk0)) hk0 (m_X11_isSign l w hJ hw v0 (43 : Int32) hk0 μ h6) mv_X11_255 ⟨rfl, rfl, Nat.le_trans (by decide) hR.1, Nat.le_trans (by decide) hR.2⟩ rfl rfl (Nat.le_of_ble_eq_true rfl) ⟨Nat.zero_le _, Nat.zero_le _⟩ dX11_sum_7) hS (fun H locs hP hS => ?_)
    refine lv_if_ne (tgt := 22) hx hb dX11_sum_10 (by decide) (fun c7 => ?_) (fun c7 => ?_)
    · replace h := if_f c7 h
      exact J22  μ4  h _ _ _ hP hS (lv_sub hl [0] rfl)
    · replace h := if_t c7 h
      refine lv_aload_n hx hb dX11_sum_13 rfl (lv_at hl 0 rfl) ?_
      refine lv_bipush (v := (45)) hx hb dX11_sum_14 (by decide) ?_
      obtain ⟨r9, μ8, h10, h⟩ := bd_ok h
      refine go_i (callV_run (As := [.int (45 : Int32)]) (rest := []) C hl hP (hS.wide hJ).2.1 (iw hw (fi_11 hk0)) hk0 (m_X11_isSign l w hJ hw v0 (45 : Int32) hk0 μ4 h10) mv_X11_255 ⟨rfl, rfl, Nat.le_trans (by decide) hR.1, Nat.le_trans (by decide) hR.2⟩ rfl rfl (Nat.le_of_ble_eq_true rfl) ⟨Nat.zero_le _, Nat.zero_le _⟩ dX11_sum_16) hS (fun H locs hP hS => ?_)
      refine lv_if_eq (tgt := 48) hx hb dX11_sum_19 (by decide) (fun c11 => ?_) (fun c11 => ?_)
      · replace h := if_t c11 h
        obtain ⟨rfl, rfl⟩ := leaf h
        exact (hK0_4 0 rfl) _ _ _ hP hS (lv_sub hl [] rfl)
      · replace h := if_f c11 h
        exact J22  μ8  h _ _ _ hP hS (lv_sub hl [0] rfl)
  · skip
    intro H locs ls hP hS hl
    have hP : fP w q26 H := hP
    have hl : lv_has ls 2 [] := hl
    try dsimp only at h
    exact r_vret C hr hP hS h dX11_sum_48
def f_X11_negation_j87 (F_X11_negation : Nat → fMem → Option (Unit × fMem)) (F_X11_sum : Nat → fMem → Option (Unit × fMem)) (v0 : Nat) (μ : fMem) : Option (Unit × fMem) :=
  vl (μ.1 v0 27) fun x26 => bd (f_X11_knot v0 μ) fun r28 μ27 => bd (f_X11_goOn v0 μ27) fun r31 μ30 => bd (F_X11_sum v0 μ30) fun r34 μ33 => bd (f_X11_puts v0 (2 : Int32) x26 μ33) fun r37 μ36 => some ((), μ36)
def f_X11_negation_b (F_X11_negation : Nat → fMem → Option (Unit × fMem)) (F_X11_sum : Nat → fMem → Option (Unit × fMem)) (v0 : Nat) (μ : fMem) : Option (Unit × fMem) :=
  bd (f_X11_isWord v0 (12 : Int32) μ) fun r2 μ1 => if r2 = 0 then bd (F_X11_sum v0 μ1) fun r6 μ5 => if (μ5.1 v0 28) = 0 then if (μ5.1 v0 26) = (3 : Int32) then if (μ5.1 v0 27) = (60 : Int32) then f_X11_negation_j87 F_X11_negation F_X11_sum v0 μ5 else if (μ5.1 v0 27) = (62 : Int32) then f_X11_negation_j87 F_X11_negation F_X11_sum v0 μ5 else if (μ5.1 v0 27) = (61 : Int32) then f_X11_negation_j87 F_X11_negation F_X11_sum v0 μ5 else if (256 : Int32) ≤ (μ5.1 v0 27) then f_X11_negation_j87 F_X11_negation F_X11_sum v0 μ5 else some ((), μ5) else some ((), μ5) else some ((), μ5) else bd (f_X11_knot v0 μ1) fun r15 μ14 => bd (f_X11_goOn v0 μ14) fun r18 μ17 => bd (F_X11_negation v0 μ17) fun r21 μ20 => bd (f_X11_puts v0 (2 : Int32) (260 : Int32) μ20) fun r24 μ23 => some ((), μ23)
set_option maxHeartbeats 4000000 in
set_option maxRecDepth 100000 in
theorem mb_X11_negation (l : Launch) (w : fW) (hJ : fJ w) (hw : w.2.2.2 = sd 1) (R : Room) (hR : 7 ≤ R.frames ∧ 184 ≤ R.locals) {F_X11_negation : Nat → fMem → Option (Unit × fMem)} {R_X11_negation : Room} (hF_X11_negation : ∀ (v0 : Nat) (_ : kd v0 = (4, 11)) (μ : fMem) (r : Unit) (μr : fMem), F_X11_negation v0 μ = some (r, μr) → Met l yX11_negation (.code yX11_negation cX11_negation 2 none :: gw) R_X11_negation (fPc w [.ref (w.2.2.1 v0)] μ) (fQv w μr) 0 0 (fA w)) (hR_X11_negation : rmo R R_X11_negation 2) {F_X11_sum : Nat → fMem → Option (Unit × fMem)} {R_X11_sum : Room} (hF_X11_sum : ∀ (v0 : Nat) (_ : kd v0 = (4, 11)) (μ : fMem) (r : Unit) (μr : fMem), F_X11_sum v0 μ = some (r, μr) → Met l yX11_sum (.code yX11_sum cX11_sum 2 none :: gw) R_X11_sum (fPc w [.ref (w.2.2.1 v0)] μ) (fQv w μr) 0 0 (fA w)) (hR_X11_sum : rmo R R_X11_sum 2) (v0 : Nat) (hk0 : kd v0 = (4, 11)) (μ : fMem) {r : Unit} {μr : fMem} (h : f_X11_negation_b F_X11_negation F_X11_sum v0 μ = some (r, μr)) : Met l yX11_negation (.code yX11_negation cX11_negation 2 none :: gw) R (fPc w [.ref (w.2.2.1 v0)] μ) (fQv w μr) 0 0 (fA w) := by
  refine met_of hJ (by decide) ?_ (Nat.le_of_ble_eq_true rfl)
  generalize ([.ref (w.2.2.1 v0)] : List Value).toArray = args
  intro p e s m below meth c ls C hr hP hl hS
  obtain ⟨hx, hb, hml, hown, hts, hK, -, hlk, hT⟩ := id C
  have hl : lv_has ls 2 [(0, .ref (w.2.2.1 v0))] := hl
  unfold f_X11_negation_b at h
  have J87 : ∀  (μ : fMem), f_X11_negation_j87 F_X11_negation F_X11_sum v0 μ = some (r, μr) → WW p l e R s m args below meth c (MQ below (fQv w μr) args s 0 0 (fA w)) w μ 2 87 [] [(0, .ref (w.2.2.1 v0))] := by
    intro  μ  h H locs ls hP hS hl
    unfold f_X11_negation_j87 at h
    refine lv_aload_n hx hb dX11_negation_87 rfl (lv_at hl 0 rfl) ?_
    refine r_getI C hP (iw hw (fi_11 hk0)) hk0 fl_X11_177 (Or.inl rfl) dX11_negation_88 ?_
    refine lv_topi (fun x26 ex26 => ?_)
    replace h := vl_ok ex26 h
    refine lv_istore_n (lv' := [(1, .int x26), (0, .ref (w.2.2.1 v0))]) hx hb dX11_negation_91 rfl hl (by decide) rfl (fun ls hl => ?_)
    refine lv_aload_n hx hb dX11_negation_92 rfl (lv_at hl 1 rfl) ?_
    obtain ⟨r28, μ27, h29, h⟩ := bd_ok h
    refine go_v (callV_run (As := []) (rest := []) C hl hP (hS.wide hJ).2.1 (iw hw (fi_11 hk0)) hk0 (m_X11_knot l w hJ hw v0 hk0 μ h29) mv_X11_273 ⟨rfl, rfl, Nat.le_trans (by decide) hR.1, Nat.le_trans (by decide) hR.2⟩ rfl rfl (Nat.le_of_ble_eq_true rfl) ⟨Nat.zero_le _, Nat.zero_le _⟩ dX11_negation_93) hS (fun H locs hP hS => ?_)
    refine lv_aload_n hx hb dX11_negation_96 rfl (lv_at hl 1 rfl) ?_
    obtain ⟨r31, μ30, h32, h⟩ := bd_ok h
    refine go_v (callV_run (As := []) (rest := []) C hl hP (hS.wide hJ).2.1 (iw hw (fi_11 hk0)) hk0 (m_X11_goOn l w hJ hw v0 hk0 μ27 h32) mv_X11_225 ⟨rfl, rfl, Nat.le_trans (by decide) hR.1, Nat.le_trans (by decide) hR.2⟩ rfl rfl (Nat.le_of_ble_eq_true rfl) ⟨Nat.zero_le _, Nat.zero_le _⟩ dX11_negation_97) hS (fun H locs hP hS => ?_)
    refine lv_aload_n hx hb dX11_negation_100 rfl (lv_at hl 1 rfl) ?_
    obtain ⟨r34, μ33, h35, h⟩ := bd_ok h
    refine go_v (callV_run (As := []) (rest := []) C hl hP (hS.wide hJ).2.1 (iw hw (fi_11 hk0)) hk0 (hF_X11_sum v0 hk0 μ30 _ _ h35) mv_X11_282 hR_X11_sum rfl rfl (Nat.le_of_ble_eq_true rfl) ⟨Nat.zero_le _, Nat.zero_le _⟩ dX11_negation_101) hS (fun H locs hP hS => ?_)
    refine lv_aload_n hx hb dX11_negation_104 rfl (lv_at hl 1 rfl) ?_
    refine lv_iconst (v := (2)) hx hb dX11_negation_105 (by decide) ?_
    refine lv_iload_n hx hb dX11_negation_106 rfl (lv_at hl 0 rfl) ?_
    obtain ⟨r37, μ36, h38, h⟩ := bd_ok h
    refine go_v (callV_run (As := [.int (2 : Int32), .int x26]) (rest := []) C hl hP (hS.wide hJ).2.1 (iw hw (fi_11 hk0)) hk0 (m_X11_puts l w hJ hw v0 (2 : Int32) x26 hk0 μ33 h38) mv_X11_276 ⟨rfl, rfl, Nat.le_trans (by decide) hR.1, Nat.le_trans (by decide) hR.2⟩ rfl rfl (Nat.le_of_ble_eq_true rfl) ⟨Nat.zero_le _, Nat.zero_le _⟩ dX11_negation_107) hS (fun H locs hP hS => ?_)
    exact r_vret C hr hP hS h dX11_negation_110
  refine lv_aload_n hx hb dX11_negation_0 rfl (lv_at hl 0 rfl) ?_
  refine lv_bipush (v := (12)) hx hb dX11_negation_1 (by decide) ?_
  obtain ⟨r2, μ1, h3, h⟩ := bd_ok h
  refine go_i (callV_run (As := [.int (12 : Int32)]) (rest := []) C hl hP (hS.wide hJ).2.1 (iw hw (fi_11 hk0)) hk0 (m_X11_isWord l w hJ hw v0 (12 : Int32) hk0 μ h3) mv_X11_270 ⟨rfl, rfl, Nat.le_trans (by decide) hR.1, Nat.le_trans (by decide) hR.2⟩ rfl rfl (Nat.le_of_ble_eq_true rfl) ⟨Nat.zero_le _, Nat.zero_le _⟩ dX11_negation_3) hS (fun H locs hP hS => ?_)
  refine lv_if_eq (tgt := 30) hx hb dX11_negation_6 (by decide) (fun c4 => ?_) (fun c4 => ?_)
  · replace h := if_t c4 h
    refine lv_aload_n hx hb dX11_negation_30 rfl (lv_at hl 0 rfl) ?_
    obtain ⟨r6, μ5, h7, h⟩ := bd_ok h
    refine go_v (callV_run (As := []) (rest := []) C hl hP (hS.wide hJ).2.1 (iw hw (fi_11 hk0)) hk0 (hF_X11_sum v0 hk0 μ1 _ _ h7) mv_X11_282 hR_X11_sum rfl rfl (Nat.le_of_ble_eq_true rfl) ⟨Nat.zero_le _, Nat.zero_le _⟩ dX11_negation_31) hS (fun H locs hP hS => ?_)
    refine lv_aload_n hx hb dX11_negation_34 rfl (lv_at hl 0 rfl) ?_
    refine r_getI C hP (iw hw (fi_11 hk0)) hk0 fl_X11_202 (Or.inl rfl) dX11_negation_35 ?_
    refine lv_if_ne (tgt := 86) hx hb dX11_negation_38 (by decide) (fun c8 => ?_) (fun c8 => ?_)
    · replace h := if_f c8 h
      exact r_vret C hr hP hS h dX11_negation_86
    · replace h := if_t c8 h
      refine lv_aload_n hx hb dX11_negation_41 rfl (lv_at hl 0 rfl) ?_
      refine r_getI C hP (iw hw (fi_11 hk0)) hk0 fl_X11_167 (Or.inl rfl) dX11_negation_42 ?_
      refine lv_iconst (v := (3)) hx hb dX11_negation_45 (by decide) ?_
      refine lv_icmp_ne (tgt := 86) hx hb dX11_negation_46 (by decide) (fun c9 => ?_) (fun c9 => ?_)
      · replace h := if_f c9 h
        exact r_vret C hr hP hS h dX11_negation_86
      · replace h := if_t c9 h
        refine lv_aload_n hx hb dX11_negation_49 rfl (lv_at hl 0 rfl) ?_
        refine r_getI C hP (iw hw (fi_11 hk0)) hk0 fl_X11_177 (Or.inl rfl) dX11_negation_50 ?_
        refine lv_bipush (v := (60)) hx hb dX11_negation_53 (by decide) ?_
        refine lv_icmp_eq (tgt := 87) hx hb dX11_negation_55 (by decide) (fun c10 => ?_) (fun c10 => ?_)
        · replace h := if_t c10 h
          exact J87  μ5  h _ _ _ hP hS (lv_sub hl [0] rfl)
        · replace h := if_f c10 h
          refine lv_aload_n hx hb dX11_negation_58 rfl (lv_at hl 0 rfl) ?_
          refine r_getI C hP (iw hw (fi_11 hk0)) hk0 fl_X11_177 (Or.inl rfl) dX11_negation_59 ?_
          refine lv_bipush (v := (62)) hx hb dX11_negation_62 (by decide) ?_
          refine lv_icmp_eq (tgt := 87) hx hb dX11_negation_64 (by decide) (fun c11 => ?_) (fun c11 => ?_)
          · replace h := if_t c11 h
            exact J87  μ5  h _ _ _ hP hS (lv_sub hl [0] rfl)
          · replace h := if_f c11 h
            refine lv_aload_n hx hb dX11_negation_67 rfl (lv_at hl 0 rfl) ?_
            refine r_getI C hP (iw hw (fi_11 hk0)) hk0 fl_X11_177 (Or.inl rfl) dX11_negation_68 ?_
            refine lv_bipush (v := (61)) hx hb dX11_negation_71 (by decide) ?_
            refine lv_icmp_eq (tgt := 87) hx hb dX11_negation_73 (by decide) (fun c12 => ?_) (fun c12 => ?_)
            · replace h := if_t c12 h
              exact J87  μ5  h _ _ _ hP hS (lv_sub hl [0] rfl)
            · replace h := if_f c12 h
              refine lv_aload_n hx hb dX11_negation_76 rfl (lv_at hl 0 rfl) ?_
              refine r_getI C hP (iw hw (fi_11 hk0)) hk0 fl_X11_177 (Or.inl rfl) dX11_negation_77 ?_
              refine lv_sipush (v := (256)) hx hb dX11_negation_80 (by decide) ?_
              refine lv_icmp_ge (tgt := 87) hx hb dX11_negation_83 (by decide) (fun c13 => ?_) (fun c13 => ?_)
              · replace h := if_t c13 h
                exact J87  μ5  h _ _ _ hP hS (lv_sub hl [0] rfl)
              · replace h := if_f c13 h
                exact r_vret C hr hP hS h dX11_negation_86
  · replace h := if_f c4 h
    refine lv_aload_n hx hb dX11_negation_9 rfl (lv_at hl 0 rfl) ?_
    obtain ⟨r15, μ14, h16, h⟩ := bd_ok h
    refine go_v (callV_run (As := []) (rest := []) C hl hP (hS.wide hJ).2.1 (iw hw (fi_11 hk0)) hk0 (m_X11_knot l w hJ hw v0 hk0 μ1 h16) mv_X11_273 ⟨rfl, rfl, Nat.le_trans (by decide) hR.1, Nat.le_trans (by decide) hR.2⟩ rfl rfl (Nat.le_of_ble_eq_true rfl) ⟨Nat.zero_le _, Nat.zero_le _⟩ dX11_negation_10) hS (fun H locs hP hS => ?_)
    refine lv_aload_n hx hb dX11_negation_13 rfl (lv_at hl 0 rfl) ?_
    obtain ⟨r18, μ17, h19, h⟩ := bd_ok h
    refine go_v (callV_run (As := []) (rest := []) C hl hP (hS.wide hJ).2.1 (iw hw (fi_11 hk0)) hk0 (m_X11_goOn l w hJ hw v0 hk0 μ14 h19) mv_X11_225 ⟨rfl, rfl, Nat.le_trans (by decide) hR.1, Nat.le_trans (by decide) hR.2⟩ rfl rfl (Nat.le_of_ble_eq_true rfl) ⟨Nat.zero_le _, Nat.zero_le _⟩ dX11_negation_14) hS (fun H locs hP hS => ?_)
    refine lv_aload_n hx hb dX11_negation_17 rfl (lv_at hl 0 rfl) ?_
    obtain ⟨r21, μ20, h22, h⟩ := bd_ok h
    refine go_v (callV_run (As := []) (rest := []) C hl hP (hS.wide hJ).2.1 (iw hw (fi_11 hk0)) hk0 (hF_X11_negation v0 hk0 μ17 _ _ h22) mv_X11_279 hR_X11_negation rfl rfl (Nat.le_of_ble_eq_true rfl) ⟨Nat.zero_le _, Nat.zero_le _⟩ dX11_negation_18) hS (fun H locs hP hS => ?_)
    refine lv_aload_n hx hb dX11_negation_21 rfl (lv_at hl 0 rfl) ?_
    refine lv_iconst (v := (2)) hx hb dX11_negation_22 (by decide) ?_
    refine lv_sipush (v := (260)) hx hb dX11_negation_23 (by decide) ?_
    obtain ⟨r24, μ23, h25, h⟩ := bd_ok h
    refine go_v (callV_run (As := [.int (2 : Int32), .int (260 : Int32)]) (rest := []) C hl hP (hS.wide hJ).2.1 (iw hw (fi_11 hk0)) hk0 (m_X11_puts l w hJ hw v0 (2 : Int32) (260 : Int32) hk0 μ20 h25) mv_X11_276 ⟨rfl, rfl, Nat.le_trans (by decide) hR.1, Nat.le_trans (by decide) hR.2⟩ rfl rfl (Nat.le_of_ble_eq_true rfl) ⟨Nat.zero_le _, Nat.zero_le _⟩ dX11_negation_26) hS (fun H locs hP hS => ?_)
    exact r_vret C hr hP hS h dX11_negation_29
def f_X11_conjunction_L4 (F_X11_negation : Nat → fMem → Option (Unit × fMem)) (v0 : Nat)  (μ : fMem) : Option (Nat × (fMem)) :=
  bd (f_X11_isWord v0 (11 : Int32) μ) fun r5 μ4 => if r5 = 0 then some (1, (μ4)) else bd (f_X11_knot v0 μ4) fun r9 μ8 => bd (f_X11_goOn v0 μ8) fun r12 μ11 => bd (F_X11_negation v0 μ11) fun r15 μ14 => bd (f_X11_puts v0 (2 : Int32) (261 : Int32) μ14) fun r18 μ17 => some (0, (μ17))
def f_X11_conjunction_b (F_X11_negation : Nat → fMem → Option (Unit × fMem)) (v0 : Nat) (μ : fMem) : Option (Unit × fMem) :=
  bd (F_X11_negation v0 μ) fun r2 μ1 => bd (lpn (fun (q : fMem) => f_X11_conjunction_L4 F_X11_negation v0 q) fuel (μ1)) fun t20 q21 => (fun  (q21 : fMem) => some ((), q21)) q21
set_option maxHeartbeats 4000000 in
set_option maxRecDepth 100000 in
theorem mb_X11_conjunction (l : Launch) (w : fW) (hJ : fJ w) (hw : w.2.2.2 = sd 1) (R : Room) (hR : 7 ≤ R.frames ∧ 184 ≤ R.locals) {F_X11_negation : Nat → fMem → Option (Unit × fMem)} {R_X11_negation : Room} (hF_X11_negation : ∀ (v0 : Nat) (_ : kd v0 = (4, 11)) (μ : fMem) (r : Unit) (μr : fMem), F_X11_negation v0 μ = some (r, μr) → Met l yX11_negation (.code yX11_negation cX11_negation 2 none :: gw) R_X11_negation (fPc w [.ref (w.2.2.1 v0)] μ) (fQv w μr) 0 0 (fA w)) (hR_X11_negation : rmo R R_X11_negation 2) (v0 : Nat) (hk0 : kd v0 = (4, 11)) (μ : fMem) {r : Unit} {μr : fMem} (h : f_X11_conjunction_b F_X11_negation v0 μ = some (r, μr)) : Met l yX11_conjunction (.code yX11_conjunction cX11_conjunction 1 none :: gw) R (fPc w [.ref (w.2.2.1 v0)] μ) (fQv w μr) 0 0 (fA w) := by
  refine met_of hJ (by decide) ?_ (Nat.le_of_ble_eq_true rfl)
  generalize ([.ref (w.2.2.1 v0)] : List Value).toArray = args
  intro p e s m below meth c ls C hr hP hl hS
  obtain ⟨hx, hb, hml, hown, hts, hK, -, hlk, hT⟩ := id C
  have hl : lv_has ls 1 [(0, .ref (w.2.2.1 v0))] := hl
  unfold f_X11_conjunction_b at h
  refine lv_aload_n hx hb dX11_conjunction_0 rfl (lv_at hl 0 rfl) ?_
  obtain ⟨r2, μ1, h3, h⟩ := bd_ok h
  refine go_v (callV_run (As := []) (rest := []) C hl hP (hS.wide hJ).2.1 (iw hw (fi_11 hk0)) hk0 (hF_X11_negation v0 hk0 μ _ _ h3) mv_X11_279 hR_X11_negation rfl rfl (Nat.le_of_ble_eq_true rfl) ⟨Nat.zero_le _, Nat.zero_le _⟩ dX11_conjunction_1) hS (fun H locs hP hS => ?_)
  obtain ⟨t20, q21, h23, h⟩ := bd_ok h
  refine lpn_ind (b := (fun (q : fMem) => f_X11_conjunction_L4 F_X11_negation v0 q)) (P := fun (q : fMem) => WW p l e R s m args below meth c (MQ below (fQv w μr) args s 0 0 (fA w)) w q 1 4 [] [(0, .ref (w.2.2.1 v0))]) (K := fun _ (q : fMem) => WW p l e R s m args below meth c (MQ below (fQv w μr) args s 0 0 (fA w)) w q 1 36 [] []) ?_ fuel (μ1) t20 q21 h23 ?_ _ _ _ hP hS (lv_sub hl [0] rfl)
  · intro μ tz4 sz4 h hP0_4 hK0_4 H locs ls hP hS hl
    have hP : fP w μ H := hP
    have hl : lv_has ls 1 [(0, .ref (w.2.2.1 v0))] := hl
    have h : f_X11_conjunction_L4 F_X11_negation v0  μ = some (tz4, sz4) := h
    unfold f_X11_conjunction_L4 at h
    refine lv_aload_n hx hb dX11_conjunction_4 rfl (lv_at hl 0 rfl) ?_
    refine lv_bipush (v := (11)) hx hb dX11_conjunction_5 (by decide) ?_
    obtain ⟨r5, μ4, h6, h⟩ := bd_ok h
    refine go_i (callV_run (As := [.int (11 : Int32)]) (rest := []) C hl hP (hS.wide hJ).2.1 (iw hw (fi_11 hk0)) hk0 (m_X11_isWord l w hJ hw v0 (11 : Int32) hk0 μ h6) mv_X11_270 ⟨rfl, rfl, Nat.le_trans (by decide) hR.1, Nat.le_trans (by decide) hR.2⟩ rfl rfl (Nat.le_of_ble_eq_true rfl) ⟨Nat.zero_le _, Nat.zero_le _⟩ dX11_conjunction_7) hS (fun H locs hP hS => ?_)
    refine lv_if_eq (tgt := 36) hx hb dX11_conjunction_10 (by decide) (fun c7 => ?_) (fun c7 => ?_)
    · replace h := if_t c7 h
      obtain ⟨rfl, rfl⟩ := leaf h
      exact (hK0_4 0 rfl) _ _ _ hP hS (lv_sub hl [] rfl)
    · replace h := if_f c7 h
      refine lv_aload_n hx hb dX11_conjunction_13 rfl (lv_at hl 0 rfl) ?_
      obtain ⟨r9, μ8, h10, h⟩ := bd_ok h
      refine go_v (callV_run (As := []) (rest := []) C hl hP (hS.wide hJ).2.1 (iw hw (fi_11 hk0)) hk0 (m_X11_knot l w hJ hw v0 hk0 μ4 h10) mv_X11_273 ⟨rfl, rfl, Nat.le_trans (by decide) hR.1, Nat.le_trans (by decide) hR.2⟩ rfl rfl (Nat.le_of_ble_eq_true rfl) ⟨Nat.zero_le _, Nat.zero_le _⟩ dX11_conjunction_14) hS (fun H locs hP hS => ?_)
      refine lv_aload_n hx hb dX11_conjunction_17 rfl (lv_at hl 0 rfl) ?_
      obtain ⟨r12, μ11, h13, h⟩ := bd_ok h
      refine go_v (callV_run (As := []) (rest := []) C hl hP (hS.wide hJ).2.1 (iw hw (fi_11 hk0)) hk0 (m_X11_goOn l w hJ hw v0 hk0 μ8 h13) mv_X11_225 ⟨rfl, rfl, Nat.le_trans (by decide) hR.1, Nat.le_trans (by decide) hR.2⟩ rfl rfl (Nat.le_of_ble_eq_true rfl) ⟨Nat.zero_le _, Nat.zero_le _⟩ dX11_conjunction_18) hS (fun H locs hP hS => ?_)
      refine lv_aload_n hx hb dX11_conjunction_21 rfl (lv_at hl 0 rfl) ?_
      obtain ⟨r15, μ14, h16, h⟩ := bd_ok h
      refine go_v (callV_run (As := []) (rest := []) C hl hP (hS.wide hJ).2.1 (iw hw (fi_11 hk0)) hk0 (hF_X11_negation v0 hk0 μ11 _ _ h16) mv_X11_279 hR_X11_negation rfl rfl (Nat.le_of_ble_eq_true rfl) ⟨Nat.zero_le _, Nat.zero_le _⟩ dX11_conjunction_22) hS (fun H locs hP hS => ?_)
      refine lv_aload_n hx hb dX11_conjunction_25 rfl (lv_at hl 0 rfl) ?_
      refine lv_iconst (v := (2)) hx hb dX11_conjunction_26 (by decide) ?_
      refine lv_sipush (v := (261)) hx hb dX11_conjunction_27 (by decide) ?_
      obtain ⟨r18, μ17, h19, h⟩ := bd_ok h
      refine go_v (callV_run (As := [.int (2 : Int32), .int (261 : Int32)]) (rest := []) C hl hP (hS.wide hJ).2.1 (iw hw (fi_11 hk0)) hk0 (m_X11_puts l w hJ hw v0 (2 : Int32) (261 : Int32) hk0 μ14 h19) mv_X11_276 ⟨rfl, rfl, Nat.le_trans (by decide) hR.1, Nat.le_trans (by decide) hR.2⟩ rfl rfl (Nat.le_of_ble_eq_true rfl) ⟨Nat.zero_le _, Nat.zero_le _⟩ dX11_conjunction_30) hS (fun H locs hP hS => ?_)
      refine lv_goto (tgt := 4) hx hb dX11_conjunction_33 (by decide) ?_
      obtain ⟨rfl, rfl⟩ := leaf h
      exact hP0_4 rfl _ _ _ hP hS (lv_sub hl [0] rfl)
  · skip
    intro H locs ls hP hS hl
    have hP : fP w q21 H := hP
    have hl : lv_has ls 1 [] := hl
    try dsimp only at h
    exact r_vret C hr hP hS h dX11_conjunction_36
def f_X11_expression_L4 (F_X11_conjunction : Nat → fMem → Option (Unit × fMem)) (v0 : Nat)  (μ : fMem) : Option (Nat × (fMem)) :=
  bd (f_X11_isWord v0 (10 : Int32) μ) fun r5 μ4 => if r5 = 0 then some (1, (μ4)) else bd (f_X11_knot v0 μ4) fun r9 μ8 => bd (f_X11_goOn v0 μ8) fun r12 μ11 => bd (F_X11_conjunction v0 μ11) fun r15 μ14 => bd (f_X11_puts v0 (2 : Int32) (262 : Int32) μ14) fun r18 μ17 => some (0, (μ17))
def f_X11_expression_b (F_X11_conjunction : Nat → fMem → Option (Unit × fMem)) (v0 : Nat) (μ : fMem) : Option (Unit × fMem) :=
  bd (F_X11_conjunction v0 μ) fun r2 μ1 => bd (lpn (fun (q : fMem) => f_X11_expression_L4 F_X11_conjunction v0 q) fuel (μ1)) fun t20 q21 => (fun  (q21 : fMem) => some ((), q21)) q21
set_option maxHeartbeats 4000000 in
set_option maxRecDepth 100000 in
theorem mb_X11_expression (l : Launch) (w : fW) (hJ : fJ w) (hw : w.2.2.2 = sd 1) (R : Room) (hR : 7 ≤ R.frames ∧ 184 ≤ R.locals) {F_X11_conjunction : Nat → fMem → Option (Unit × fMem)} {R_X11_conjunction : Room} (hF_X11_conjunction : ∀ (v0 : Nat) (_ : kd v0 = (4, 11)) (μ : fMem) (r : Unit) (μr : fMem), F_X11_conjunction v0 μ = some (r, μr) → Met l yX11_conjunction (.code yX11_conjunction cX11_conjunction 1 none :: gw) R_X11_conjunction (fPc w [.ref (w.2.2.1 v0)] μ) (fQv w μr) 0 0 (fA w)) (hR_X11_conjunction : rmo R R_X11_conjunction 1) (v0 : Nat) (hk0 : kd v0 = (4, 11)) (μ : fMem) {r : Unit} {μr : fMem} (h : f_X11_expression_b F_X11_conjunction v0 μ = some (r, μr)) : Met l yX11_expression (.code yX11_expression cX11_expression 1 none :: gw) R (fPc w [.ref (w.2.2.1 v0)] μ) (fQv w μr) 0 0 (fA w) := by
  refine met_of hJ (by decide) ?_ (Nat.le_of_ble_eq_true rfl)
  generalize ([.ref (w.2.2.1 v0)] : List Value).toArray = args
  intro p e s m below meth c ls C hr hP hl hS
  obtain ⟨hx, hb, hml, hown, hts, hK, -, hlk, hT⟩ := id C
  have hl : lv_has ls 1 [(0, .ref (w.2.2.1 v0))] := hl
  unfold f_X11_expression_b at h
  refine lv_aload_n hx hb dX11_expression_0 rfl (lv_at hl 0 rfl) ?_
  obtain ⟨r2, μ1, h3, h⟩ := bd_ok h
  refine go_v (callV_run (As := []) (rest := []) C hl hP (hS.wide hJ).2.1 (iw hw (fi_11 hk0)) hk0 (hF_X11_conjunction v0 hk0 μ _ _ h3) mv_X11_267 hR_X11_conjunction rfl rfl (Nat.le_of_ble_eq_true rfl) ⟨Nat.zero_le _, Nat.zero_le _⟩ dX11_expression_1) hS (fun H locs hP hS => ?_)
  obtain ⟨t20, q21, h23, h⟩ := bd_ok h
  refine lpn_ind (b := (fun (q : fMem) => f_X11_expression_L4 F_X11_conjunction v0 q)) (P := fun (q : fMem) => WW p l e R s m args below meth c (MQ below (fQv w μr) args s 0 0 (fA w)) w q 1 4 [] [(0, .ref (w.2.2.1 v0))]) (K := fun _ (q : fMem) => WW p l e R s m args below meth c (MQ below (fQv w μr) args s 0 0 (fA w)) w q 1 36 [] []) ?_ fuel (μ1) t20 q21 h23 ?_ _ _ _ hP hS (lv_sub hl [0] rfl)
  · intro μ tz4 sz4 h hP0_4 hK0_4 H locs ls hP hS hl
    have hP : fP w μ H := hP
    have hl : lv_has ls 1 [(0, .ref (w.2.2.1 v0))] := hl
    have h : f_X11_expression_L4 F_X11_conjunction v0  μ = some (tz4, sz4) := h
    unfold f_X11_expression_L4 at h
    refine lv_aload_n hx hb dX11_expression_4 rfl (lv_at hl 0 rfl) ?_
    refine lv_bipush (v := (10)) hx hb dX11_expression_5 (by decide) ?_
    obtain ⟨r5, μ4, h6, h⟩ := bd_ok h
    refine go_i (callV_run (As := [.int (10 : Int32)]) (rest := []) C hl hP (hS.wide hJ).2.1 (iw hw (fi_11 hk0)) hk0 (m_X11_isWord l w hJ hw v0 (10 : Int32) hk0 μ h6) mv_X11_270 ⟨rfl, rfl, Nat.le_trans (by decide) hR.1, Nat.le_trans (by decide) hR.2⟩ rfl rfl (Nat.le_of_ble_eq_true rfl) ⟨Nat.zero_le _, Nat.zero_le _⟩ dX11_expression_7) hS (fun H locs hP hS => ?_)
    refine lv_if_eq (tgt := 36) hx hb dX11_expression_10 (by decide) (fun c7 => ?_) (fun c7 => ?_)
    · replace h := if_t c7 h
      obtain ⟨rfl, rfl⟩ := leaf h
      exact (hK0_4 0 rfl) _ _ _ hP hS (lv_sub hl [] rfl)
    · replace h := if_f c7 h
      refine lv_aload_n hx hb dX11_expression_13 rfl (lv_at hl 0 rfl) ?_
      obtain ⟨r9, μ8, h10, h⟩ := bd_ok h
      refine go_v (callV_run (As := []) (rest := []) C hl hP (hS.wide hJ).2.1 (iw hw (fi_11 hk0)) hk0 (m_X11_knot l w hJ hw v0 hk0 μ4 h10) mv_X11_273 ⟨rfl, rfl, Nat.le_trans (by decide) hR.1, Nat.le_trans (by decide) hR.2⟩ rfl rfl (Nat.le_of_ble_eq_true rfl) ⟨Nat.zero_le _, Nat.zero_le _⟩ dX11_expression_14) hS (fun H locs hP hS => ?_)
      refine lv_aload_n hx hb dX11_expression_17 rfl (lv_at hl 0 rfl) ?_
      obtain ⟨r12, μ11, h13, h⟩ := bd_ok h
      refine go_v (callV_run (As := []) (rest := []) C hl hP (hS.wide hJ).2.1 (iw hw (fi_11 hk0)) hk0 (m_X11_goOn l w hJ hw v0 hk0 μ8 h13) mv_X11_225 ⟨rfl, rfl, Nat.le_trans (by decide) hR.1, Nat.le_trans (by decide) hR.2⟩ rfl rfl (Nat.le_of_ble_eq_true rfl) ⟨Nat.zero_le _, Nat.zero_le _⟩ dX11_expression_18) hS (fun H locs hP hS => ?_)
      refine lv_aload_n hx hb dX11_expression_21 rfl (lv_at hl 0 rfl) ?_
      obtain ⟨r15, μ14, h16, h⟩ := bd_ok h
      refine go_v (callV_run (As := []) (rest := []) C hl hP (hS.wide hJ).2.1 (iw hw (fi_11 hk0)) hk0 (hF_X11_conjunction v0 hk0 μ11 _ _ h16) mv_X11_267 hR_X11_conjunction rfl rfl (Nat.le_of_ble_eq_true rfl) ⟨Nat.zero_le _, Nat.zero_le _⟩ dX11_expression_22) hS (fun H locs hP hS => ?_)
      refine lv_aload_n hx hb dX11_expression_25 rfl (lv_at hl 0 rfl) ?_
      refine lv_iconst (v := (2)) hx hb dX11_expression_26 (by decide) ?_
      refine lv_sipush (v := (262)) hx hb dX11_expression_27 (by decide) ?_
      obtain ⟨r18, μ17, h19, h⟩ := bd_ok h
      refine go_v (callV_run (As := [.int (2 : Int32), .int (262 : Int32)]) (rest := []) C hl hP (hS.wide hJ).2.1 (iw hw (fi_11 hk0)) hk0 (m_X11_puts l w hJ hw v0 (2 : Int32) (262 : Int32) hk0 μ14 h19) mv_X11_276 ⟨rfl, rfl, Nat.le_trans (by decide) hR.1, Nat.le_trans (by decide) hR.2⟩ rfl rfl (Nat.le_of_ble_eq_true rfl) ⟨Nat.zero_le _, Nat.zero_le _⟩ dX11_expression_30) hS (fun H locs hP hS => ?_)
      refine lv_goto (tgt := 4) hx hb dX11_expression_33 (by decide) ?_
      obtain ⟨rfl, rfl⟩ := leaf h
      exact hP0_4 rfl _ _ _ hP hS (lv_sub hl [0] rfl)
  · skip
    intro H locs ls hP hS hl
    have hP : fP w q21 H := hP
    have hl : lv_has ls 1 [] := hl
    try dsimp only at h
    exact r_vret C hr hP hS h dX11_expression_36
def fr_sum (E : Nat → fMem → Option (Unit × fMem)) : Nat → fMem → Option (Unit × fMem) := f_X11_sum_b (f_X11_product_b (f_X11_primary_b E))
def fr_neg (E N : Nat → fMem → Option (Unit × fMem)) : Nat → fMem → Option (Unit × fMem) := f_X11_negation_b N (fr_sum E)
def fr_EN : Nat → (Nat → fMem → Option (Unit × fMem)) × (Nat → fMem → Option (Unit × fMem))
  | 0 => (fun _ _ => none, fun _ _ => none)
  | n + 1 => (f_X11_expression_b (f_X11_conjunction_b (fr_neg (fr_EN n).1 (fr_EN n).2)), fr_neg (fr_EN n).1 (fr_EN n).2)
def rE (n a : Nat) : Room := { frames := 6 * n + 7 + a, cells := 0, slots := 0, locals := 126 * n + 184 + 21 * a }
theorem mr_EN (l : Launch) (w : fW) (hJ : fJ w) (hw : w.2.2.2 = sd 1) : ∀ n : Nat, (∀ (v0 : Nat) (_ : kd v0 = (4, 11)) (μ : fMem) (r : Unit) (μr : fMem), (fr_EN n).1 v0 μ = some (r, μr) → Met l yX11_expression (.code yX11_expression cX11_expression 1 none :: gw) (rE n 6) (fPc w [.ref (w.2.2.1 v0)] μ) (fQv w μr) 0 0 (fA w)) ∧ (∀ (v0 : Nat) (_ : kd v0 = (4, 11)) (μ : fMem) (r : Unit) (μr : fMem), (fr_EN n).2 v0 μ = some (r, μr) → Met l yX11_negation (.code yX11_negation cX11_negation 2 none :: gw) (rE n 4) (fPc w [.ref (w.2.2.1 v0)] μ) (fQv w μr) 0 0 (fA w)) := by
  intro n
  induction n with
  | zero => exact ⟨fun _ _ _ _ _ h => (by cases h), fun _ _ _ _ _ h => (by cases h)⟩
  | succ n ih =>
    have hp : ∀ (v0 : Nat) (_ : kd v0 = (4, 11)) (μ : fMem) (r : Unit) (μr : fMem), f_X11_primary_b (fr_EN n).1 v0 μ = some (r, μr) → Met l yX11_primary (.code yX11_primary cX11_primary 2 none :: gw) (rE n 7) (fPc w [.ref (w.2.2.1 v0)] μ) (fQv w μr) 0 0 (fA w) := fun v0 h0 μ r μr h => mb_X11_primary l w hJ hw (rE n 7) ⟨by simp only [rE]; omega, by simp only [rE]; omega⟩ ih.1 ⟨rfl, rfl, by simp only [rE]; omega, by simp only [rE]; omega⟩ v0 h0 μ h
    have hq : ∀ (v0 : Nat) (_ : kd v0 = (4, 11)) (μ : fMem) (r : Unit) (μr : fMem), f_X11_product_b (f_X11_primary_b (fr_EN n).1) v0 μ = some (r, μr) → Met l yX11_product (.code yX11_product cX11_product 2 none :: gw) (rE n 8) (fPc w [.ref (w.2.2.1 v0)] μ) (fQv w μr) 0 0 (fA w) := fun v0 h0 μ r μr h => mb_X11_product l w hJ hw (rE n 8) ⟨by simp only [rE]; omega, by simp only [rE]; omega⟩ hp ⟨rfl, rfl, by simp only [rE]; omega, by simp only [rE]; omega⟩ v0 h0 μ h
    have hs : ∀ (v0 : Nat) (_ : kd v0 = (4, 11)) (μ : fMem) (r : Unit) (μr : fMem), fr_sum (fr_EN n).1 v0 μ = some (r, μr) → Met l yX11_sum (.code yX11_sum cX11_sum 2 none :: gw) (rE n 9) (fPc w [.ref (w.2.2.1 v0)] μ) (fQv w μr) 0 0 (fA w) := fun v0 h0 μ r μr h => mb_X11_sum l w hJ hw (rE n 9) ⟨by simp only [rE]; omega, by simp only [rE]; omega⟩ hq ⟨rfl, rfl, by simp only [rE]; omega, by simp only [rE]; omega⟩ v0 h0 μ h
    have hn : ∀ (v0 : Nat) (_ : kd v0 = (4, 11)) (μ : fMem) (r : Unit) (μr : fMem), fr_neg (fr_EN n).1 (fr_EN n).2 v0 μ = some (r, μr) → Met l yX11_negation (.code yX11_negation cX11_negation 2 none :: gw) (rE (n + 1) 4) (fPc w [.ref (w.2.2.1 v0)] μ) (fQv w μr) 0 0 (fA w) := fun v0 h0 μ r μr h => mb_X11_negation l w hJ hw (rE (n + 1) 4) ⟨by simp only [rE]; omega, by simp only [rE]; omega⟩ ih.2 ⟨rfl, rfl, by simp only [rE]; omega, by simp only [rE]; omega⟩ hs ⟨rfl, rfl, by simp only [rE]; omega, by simp only [rE]; omega⟩ v0 h0 μ h
    have hc : ∀ (v0 : Nat) (_ : kd v0 = (4, 11)) (μ : fMem) (r : Unit) (μr : fMem), f_X11_conjunction_b (fr_neg (fr_EN n).1 (fr_EN n).2) v0 μ = some (r, μr) → Met l yX11_conjunction (.code yX11_conjunction cX11_conjunction 1 none :: gw) (rE n 11) (fPc w [.ref (w.2.2.1 v0)] μ) (fQv w μr) 0 0 (fA w) := fun v0 h0 μ r μr h => mb_X11_conjunction l w hJ hw (rE n 11) ⟨by simp only [rE]; omega, by simp only [rE]; omega⟩ hn ⟨rfl, rfl, by simp only [rE]; omega, by simp only [rE]; omega⟩ v0 h0 μ h
    exact ⟨fun v0 h0 μ r μr h => mb_X11_expression l w hJ hw (rE (n + 1) 6) ⟨by simp only [rE]; omega, by simp only [rE]; omega⟩ hc ⟨rfl, rfl, by simp only [rE]; omega, by simp only [rE]; omega⟩ v0 h0 μ h, hn⟩
def f_X11_expression (v0 : Nat) (μ : fMem) : Option (Unit × fMem) := (fr_EN 80).1 v0 μ
def rm_X11_expression : Room := rE 80 6
theorem m_X11_expression (l : Launch) (w : fW) (hJ : fJ w) (hw : w.2.2.2 = sd 1) (v0 : Nat) (h0 : kd v0 = (4, 11)) (μ : fMem) {r : Unit} {μr : fMem} (h : f_X11_expression v0 μ = some (r, μr)) : Met l yX11_expression (.code yX11_expression cX11_expression 1 none :: gw) rm_X11_expression (fPc w [.ref (w.2.2.1 v0)] μ) (fQv w μr) 0 0 (fA w) := (mr_EN l w hJ hw 80).1 v0 h0 μ _ _ h

def f_X11_lawLine_j65 (v0 : Nat) (v1 : Int32) (μ : fMem) : Option (Unit × fMem) :=
  if (μ.1 v0 28) = 0 then vl (sI μ v0 21 ((μ.1 v0 21) ||| (shl (1 : Int32) ((16 : Int32) + v1)))) fun μ11 => bd (f_X11_token v0 μ11) fun r13 μ12 => bd (f_X11_fresher v0 (6 : Int32) μ12) fun r16 μ15 => gd (ixo ((3 : Int32) + v1) 6) (vl (sI μ15 (v0 + 16) (Int32.toNatClampNeg ((3 : Int32) + v1)) r16) fun μ18 => bd (f_X11_expression v0 μ18) fun r21 μ20 => bd (f_X11_fresher v0 (6 : Int32) μ20) fun r24 μ23 => gd (ixo ((3 : Int32) + v1) 6) (vl (sI μ23 (v0 + 17) (Int32.toNatClampNeg ((3 : Int32) + v1)) r24) fun μ26 => some ((), μ26))) else some ((), μ)
def f_X11_lawLine_j30 (v0 : Nat) (μ : fMem) : Option (Unit × fMem) :=
  vl ((μ.1 v0 27) - (7 : Int32)) fun x4 => if (μ.1 v0 28) = 0 then if ((shr (μ.1 v0 21) ((16 : Int32) + x4)) &&& (1 : Int32)) = (1 : Int32) then bd (f_X11_wrong v0 (3 : Int32) μ) fun r8 μ7 => f_X11_lawLine_j65 v0 x4 μ7 else f_X11_lawLine_j65 v0 x4 μ else f_X11_lawLine_j65 v0 x4 μ
def f_X11_lawLine_j25 (v0 : Nat) (μ : fMem) : Option (Unit × fMem) :=
  bd (f_X11_wrong v0 (1 : Int32) μ) fun r29 μ28 => f_X11_lawLine_j30 v0 μ28
def f_X11_lawLine (v0 : Nat) (μ : fMem) : Option (Unit × fMem) :=
  if (μ.1 v0 26) = 0 then if (μ.1 v0 27) < (7 : Int32) then f_X11_lawLine_j25 v0 μ else if (μ.1 v0 27) ≤ (9 : Int32) then f_X11_lawLine_j30 v0 μ else f_X11_lawLine_j25 v0 μ else f_X11_lawLine_j25 v0 μ
def rm_X11_lawLine : Room := { frames := 494, cells := 0, slots := 0, locals := 10410 }
set_option maxHeartbeats 4000000 in
set_option maxRecDepth 100000 in
theorem m_X11_lawLine (l : Launch) (w : fW) (hJ : fJ w) (hw : w.2.2.2 = sd 1) (v0 : Nat) (hk0 : kd v0 = (4, 11)) (μ : fMem) {r : Unit} {μr : fMem} (h : f_X11_lawLine v0 μ = some (r, μr)) : Met l yX11_lawLine (.code yX11_lawLine cX11_lawLine 2 none :: gw) rm_X11_lawLine (fPc w [.ref (w.2.2.1 v0)] μ) (fQv w μr) 0 0 (fA w) := by
  refine met_of hJ (by decide) ?_ (Nat.le_of_ble_eq_true rfl)
  generalize ([.ref (w.2.2.1 v0)] : List Value).toArray = args
  intro p e s m below meth c ls C hr hP hl hS
  obtain ⟨hx, hb, hml, hown, hts, hK, -, hlk, hT⟩ := id C
  have hl : lv_has ls 2 [(0, .ref (w.2.2.1 v0))] := hl
  unfold f_X11_lawLine at h
  have J65 : ∀ (v1 : Int32) (μ : fMem), f_X11_lawLine_j65 v0 v1 μ = some (r, μr) → WW p l e rm_X11_lawLine s m args below meth c (MQ below (fQv w μr) args s 0 0 (fA w)) w μ 2 65 [] [(0, .ref (w.2.2.1 v0)), (1, .int v1)] := by
    intro v1 μ  h H locs ls hP hS hl
    unfold f_X11_lawLine_j65 at h
    refine lv_aload_n hx hb dX11_lawLine_65 rfl (lv_at hl 0 rfl) ?_
    refine r_getI C hP (iw hw (fi_11 hk0)) hk0 fl_X11_202 (Or.inl rfl) dX11_lawLine_66 ?_
    refine lv_if_eq (tgt := 73) hx hb dX11_lawLine_69 (by decide) (fun c10 => ?_) (fun c10 => ?_)
    · replace h := if_t c10 h
      refine lv_aload_n hx hb dX11_lawLine_73 rfl (lv_at hl 0 rfl) ?_
      refine lv_dup hx hb dX11_lawLine_74 rfl ?_
      refine r_getI C hP (iw hw (fi_11 hk0)) hk0 fl_X11_231 (Or.inl rfl) dX11_lawLine_75 ?_
      refine lv_iconst (v := (1)) hx hb dX11_lawLine_78 (by decide) ?_
      refine lv_bipush (v := (16)) hx hb dX11_lawLine_79 (by decide) ?_
      refine lv_iload_n hx hb dX11_lawLine_81 rfl (lv_at hl 1 rfl) ?_
      refine lv_iadd hx hb dX11_lawLine_82 ?_
      refine r_ishl hx hb dX11_lawLine_83 ?_
      refine lv_ior hx hb dX11_lawLine_84 ?_
      refine r_putI C hP hS (iw hw (fi_11 hk0)) hk0 fp_X11_231 rfl dX11_lawLine_85 (fun H locs hP hS => ?_)
      obtain ⟨μ11, eμ11, h⟩ := vl_ex h
      have hP : fP w μ11 H := by rw [eμ11]; exact hP
      refine lv_aload_n hx hb dX11_lawLine_88 rfl (lv_at hl 0 rfl) ?_
      obtain ⟨r13, μ12, h14, h⟩ := bd_ok h
      refine go_v (callV_run (As := []) (rest := []) C hl hP (hS.wide hJ).2.1 (iw hw (fi_11 hk0)) hk0 (m_X11_token l w hJ hw v0 hk0 μ11 h14) mv_X11_208 ⟨rfl, rfl, by decide, by decide⟩ rfl rfl (Nat.le_of_ble_eq_true rfl) ⟨Nat.zero_le _, Nat.zero_le _⟩ dX11_lawLine_89) hS (fun H locs hP hS => ?_)
      refine lv_aload_n hx hb dX11_lawLine_92 rfl (lv_at hl 0 rfl) ?_
      refine r_getF (off := 16) C hP (iw hw (fi_11 hk0)) hk0 fl_X11_55 rfl rfl (zw hw) dX11_lawLine_93 ?_
      refine lv_iconst (v := (3)) hx hb dX11_lawLine_96 (by decide) ?_
      refine lv_iload_n hx hb dX11_lawLine_97 rfl (lv_at hl 1 rfl) ?_
      refine lv_iadd hx hb dX11_lawLine_98 ?_
      refine lv_aload_n hx hb dX11_lawLine_99 rfl (lv_at hl 0 rfl) ?_
      refine lv_bipush (v := (6)) hx hb dX11_lawLine_100 (by decide) ?_
      obtain ⟨r16, μ15, h17, h⟩ := bd_ok h
      refine go_i (callV_run (As := [.int (6 : Int32)]) (rest := [.int ((3 : Int32) + v1), .ref (w.2.2.1 (v0 + 16))]) C hl hP (hS.wide hJ).2.1 (iw hw (fi_11 hk0)) hk0 (m_X11_fresher l w hJ hw v0 (6 : Int32) hk0 μ12 h17) mv_X11_218 ⟨rfl, rfl, by decide, by decide⟩ rfl rfl (Nat.le_of_ble_eq_true rfl) ⟨Nat.zero_le _, Nat.zero_le _⟩ dX11_lawLine_102) hS (fun H locs hP hS => ?_)
      obtain ⟨g19, h⟩ := gd_ok h
      refine r_iast C hP hS (iw hw (ff_11_17 hk0).2) (ff_11_17 hk0).1 g19 dX11_lawLine_105 (fun H locs hP hS => ?_)
      obtain ⟨μ18, eμ18, h⟩ := vl_ex h
      have hP : fP w μ18 H := by rw [eμ18]; exact hP
      refine lv_aload_n hx hb dX11_lawLine_106 rfl (lv_at hl 0 rfl) ?_
      obtain ⟨r21, μ20, h22, h⟩ := bd_ok h
      refine go_v (callV_run (As := []) (rest := []) C hl hP (hS.wide hJ).2.1 (iw hw (fi_11 hk0)) hk0 (m_X11_expression l w hJ hw v0 hk0 μ18 h22) mv_X11_261 ⟨rfl, rfl, by decide, by decide⟩ rfl rfl (Nat.le_of_ble_eq_true rfl) ⟨Nat.zero_le _, Nat.zero_le _⟩ dX11_lawLine_107) hS (fun H locs hP hS => ?_)
      refine lv_aload_n hx hb dX11_lawLine_110 rfl (lv_at hl 0 rfl) ?_
      refine r_getF (off := 17) C hP (iw hw (fi_11 hk0)) hk0 fl_X11_58 rfl rfl (zw hw) dX11_lawLine_111 ?_
      refine lv_iconst (v := (3)) hx hb dX11_lawLine_114 (by decide) ?_
      refine lv_iload_n hx hb dX11_lawLine_115 rfl (lv_at hl 1 rfl) ?_
      refine lv_iadd hx hb dX11_lawLine_116 ?_
      refine lv_aload_n hx hb dX11_lawLine_117 rfl (lv_at hl 0 rfl) ?_
      refine lv_bipush (v := (6)) hx hb dX11_lawLine_118 (by decide) ?_
      obtain ⟨r24, μ23, h25, h⟩ := bd_ok h
      refine go_i (callV_run (As := [.int (6 : Int32)]) (rest := [.int ((3 : Int32) + v1), .ref (w.2.2.1 (v0 + 17))]) C hl hP (hS.wide hJ).2.1 (iw hw (fi_11 hk0)) hk0 (m_X11_fresher l w hJ hw v0 (6 : Int32) hk0 μ20 h25) mv_X11_218 ⟨rfl, rfl, by decide, by decide⟩ rfl rfl (Nat.le_of_ble_eq_true rfl) ⟨Nat.zero_le _, Nat.zero_le _⟩ dX11_lawLine_120) hS (fun H locs hP hS => ?_)
      obtain ⟨g27, h⟩ := gd_ok h
      refine r_iast C hP hS (iw hw (ff_11_18 hk0).2) (ff_11_18 hk0).1 g27 dX11_lawLine_123 (fun H locs hP hS => ?_)
      obtain ⟨μ26, eμ26, h⟩ := vl_ex h
      have hP : fP w μ26 H := by rw [eμ26]; exact hP
      exact r_vret C hr hP hS h dX11_lawLine_124
    · replace h := if_f c10 h
      exact r_vret C hr hP hS h dX11_lawLine_72
  have J30 : ∀  (μ : fMem), f_X11_lawLine_j30 v0 μ = some (r, μr) → WW p l e rm_X11_lawLine s m args below meth c (MQ below (fQv w μr) args s 0 0 (fA w)) w μ 2 30 [] [(0, .ref (w.2.2.1 v0))] := by
    intro  μ  h H locs ls hP hS hl
    unfold f_X11_lawLine_j30 at h
    refine lv_aload_n hx hb dX11_lawLine_30 rfl (lv_at hl 0 rfl) ?_
    refine r_getI C hP (iw hw (fi_11 hk0)) hk0 fl_X11_177 (Or.inl rfl) dX11_lawLine_31 ?_
    refine lv_bipush (v := (7)) hx hb dX11_lawLine_34 (by decide) ?_
    refine lv_isub hx hb dX11_lawLine_36 ?_
    refine lv_topi (fun x4 ex4 => ?_)
    replace h := vl_ok ex4 h
    refine lv_istore_n (lv' := [(1, .int x4), (0, .ref (w.2.2.1 v0))]) hx hb dX11_lawLine_37 rfl hl (by decide) rfl (fun ls hl => ?_)
    refine lv_aload_n hx hb dX11_lawLine_38 rfl (lv_at hl 1 rfl) ?_
    refine r_getI C hP (iw hw (fi_11 hk0)) hk0 fl_X11_202 (Or.inl rfl) dX11_lawLine_39 ?_
    refine lv_if_ne (tgt := 65) hx hb dX11_lawLine_42 (by decide) (fun c5 => ?_) (fun c5 => ?_)
    · replace h := if_f c5 h
      exact J65 x4 μ  h _ _ _ hP hS (lv_sub hl [1, 0] rfl)
    · replace h := if_t c5 h
      refine lv_aload_n hx hb dX11_lawLine_45 rfl (lv_at hl 1 rfl) ?_
      refine r_getI C hP (iw hw (fi_11 hk0)) hk0 fl_X11_231 (Or.inl rfl) dX11_lawLine_46 ?_
      refine lv_bipush (v := (16)) hx hb dX11_lawLine_49 (by decide) ?_
      refine lv_iload_n hx hb dX11_lawLine_51 rfl (lv_at hl 0 rfl) ?_
      refine lv_iadd hx hb dX11_lawLine_52 ?_
      refine r_ishr hx hb dX11_lawLine_53 ?_
      refine lv_iconst (v := (1)) hx hb dX11_lawLine_54 (by decide) ?_
      refine lv_iand hx hb dX11_lawLine_55 ?_
      refine lv_iconst (v := (1)) hx hb dX11_lawLine_56 (by decide) ?_
      refine lv_icmp_ne (tgt := 65) hx hb dX11_lawLine_57 (by decide) (fun c6 => ?_) (fun c6 => ?_)
      · replace h := if_f c6 h
        exact J65 x4 μ  h _ _ _ hP hS (lv_sub hl [1, 0] rfl)
      · replace h := if_t c6 h
        refine lv_aload_n hx hb dX11_lawLine_60 rfl (lv_at hl 1 rfl) ?_
        refine lv_iconst (v := (3)) hx hb dX11_lawLine_61 (by decide) ?_
        obtain ⟨r8, μ7, h9, h⟩ := bd_ok h
        refine go_v (callV_run (As := [.int (3 : Int32)]) (rest := []) C hl hP (hS.wide hJ).2.1 (iw hw (fi_11 hk0)) hk0 (m_X11_wrong l w hJ hw v0 (3 : Int32) hk0 μ h9) mv_X11_211 ⟨rfl, rfl, by decide, by decide⟩ rfl rfl (Nat.le_of_ble_eq_true rfl) ⟨Nat.zero_le _, Nat.zero_le _⟩ dX11_lawLine_62) hS (fun H locs hP hS => ?_)
        exact J65 x4 μ7  h _ _ _ hP hS (lv_sub hl [1, 0] rfl)
  have J25 : ∀  (μ : fMem), f_X11_lawLine_j25 v0 μ = some (r, μr) → WW p l e rm_X11_lawLine s m args below meth c (MQ below (fQv w μr) args s 0 0 (fA w)) w μ 2 25 [] [(0, .ref (w.2.2.1 v0))] := by
    intro  μ  h H locs ls hP hS hl
    unfold f_X11_lawLine_j25 at h
    refine lv_aload_n hx hb dX11_lawLine_25 rfl (lv_at hl 0 rfl) ?_
    refine lv_iconst (v := (1)) hx hb dX11_lawLine_26 (by decide) ?_
    obtain ⟨r29, μ28, h30, h⟩ := bd_ok h
    refine go_v (callV_run (As := [.int (1 : Int32)]) (rest := []) C hl hP (hS.wide hJ).2.1 (iw hw (fi_11 hk0)) hk0 (m_X11_wrong l w hJ hw v0 (1 : Int32) hk0 μ h30) mv_X11_211 ⟨rfl, rfl, by decide, by decide⟩ rfl rfl (Nat.le_of_ble_eq_true rfl) ⟨Nat.zero_le _, Nat.zero_le _⟩ dX11_lawLine_27) hS (fun H locs hP hS => ?_)
    exact J30  μ28  h _ _ _ hP hS (lv_sub hl [0] rfl)
  refine lv_aload_n hx hb dX11_lawLine_0 rfl (lv_at hl 0 rfl) ?_
  refine r_getI C hP (iw hw (fi_11 hk0)) hk0 fl_X11_167 (Or.inl rfl) dX11_lawLine_1 ?_
  refine lv_if_ne (tgt := 25) hx hb dX11_lawLine_4 (by decide) (fun c1 => ?_) (fun c1 => ?_)
  · replace h := if_f c1 h
    exact J25  μ  h _ _ _ hP hS (lv_sub hl [0] rfl)
  · replace h := if_t c1 h
    refine lv_aload_n hx hb dX11_lawLine_7 rfl (lv_at hl 0 rfl) ?_
    refine r_getI C hP (iw hw (fi_11 hk0)) hk0 fl_X11_177 (Or.inl rfl) dX11_lawLine_8 ?_
    refine lv_bipush (v := (7)) hx hb dX11_lawLine_11 (by decide) ?_
    refine lv_icmp_lt (tgt := 25) hx hb dX11_lawLine_13 (by decide) (fun c2 => ?_) (fun c2 => ?_)
    · replace h := if_t c2 h
      exact J25  μ  h _ _ _ hP hS (lv_sub hl [0] rfl)
    · replace h := if_f c2 h
      refine lv_aload_n hx hb dX11_lawLine_16 rfl (lv_at hl 0 rfl) ?_
      refine r_getI C hP (iw hw (fi_11 hk0)) hk0 fl_X11_177 (Or.inl rfl) dX11_lawLine_17 ?_
      refine lv_bipush (v := (9)) hx hb dX11_lawLine_20 (by decide) ?_
      refine lv_icmp_le (tgt := 30) hx hb dX11_lawLine_22 (by decide) (fun c3 => ?_) (fun c3 => ?_)
      · replace h := if_t c3 h
        exact J30  μ  h _ _ _ hP hS (lv_sub hl [0] rfl)
      · replace h := if_f c3 h
        exact J25  μ  h _ _ _ hP hS (lv_sub hl [0] rfl)

