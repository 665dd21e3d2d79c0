def f_X9_isDigit (v0 : Int32) (μ : fMem) : Option (Int32 × fMem) :=
  if v0 < (48 : Int32) then gd (bl (0 : Int32)) (some ((0 : Int32), μ)) else if (57 : Int32) < v0 then gd (bl (0 : Int32)) (some ((0 : Int32), μ)) else gd (bl (1 : Int32)) (some ((1 : Int32), μ))
def rm_X9_isDigit : Room := { frames := 0, cells := 0, slots := 0, locals := 0 }
set_option maxHeartbeats 4000000 in
set_option maxRecDepth 100000 in
theorem m_X9_isDigit (l : Launch) (w : fW) (hJ : fJ w) (hw : w.2.2.2 = sd 0) (v0 : Int32) (μ : fMem) {r : Int32} {μr : fMem} (h : f_X9_isDigit v0 μ = some (r, μr)) : Met l yX9_isDigit (.code yX9_isDigit cX9_isDigit 1 (some .boolean) :: gw) rm_X9_isDigit (fPc w [.int v0] μ) (fQi w r μr) 0 0 (fA w) := by
  refine met_of hJ (by decide) ?_ (Nat.le_of_ble_eq_true rfl)
  generalize ([.int v0] : List Value).toArray = args
  intro p e s m below meth c ls C hr hP hl hS
  obtain ⟨hx, hb, hml, hown, hts, hK, -, hlk, hT⟩ := id C
  have hl : lv_has ls 1 [(0, .int v0)] := hl
  unfold f_X9_isDigit at h
  refine lv_iload_n hx hb dX9_isDigit_0 rfl (lv_at hl 0 rfl) ?_
  refine lv_bipush (v := (48)) hx hb dX9_isDigit_1 (by decide) ?_
  refine lv_icmp_lt (tgt := 16) hx hb dX9_isDigit_3 (by decide) (fun c1 => ?_) (fun c1 => ?_)
  · replace h := if_t c1 h
    refine lv_iconst (v := (0)) hx hb dX9_isDigit_16 (by decide) ?_
    exact r_zret C hr hP hS h dX9_isDigit_17
  · replace h := if_f c1 h
    refine lv_iload_n hx hb dX9_isDigit_6 rfl (lv_at hl 0 rfl) ?_
    refine lv_bipush (v := (57)) hx hb dX9_isDigit_7 (by decide) ?_
    refine lv_icmp_gt (tgt := 16) hx hb dX9_isDigit_9 (by decide) (fun c2 => ?_) (fun c2 => ?_)
    · replace h := if_t c2 h
      refine lv_iconst (v := (0)) hx hb dX9_isDigit_16 (by decide) ?_
      exact r_zret C hr hP hS h dX9_isDigit_17
    · replace h := if_f c2 h
      refine lv_iconst (v := (1)) hx hb dX9_isDigit_12 (by decide) ?_
      refine lv_goto (tgt := 17) hx hb dX9_isDigit_13 (by decide) ?_
      exact r_zret C hr hP hS h dX9_isDigit_17

def f_X9_cutNumber_L0 (v0 : Nat)  (μ : fMem) : Option (Nat × (fMem)) :=
  if (μ.1 v0 9) ≤ (μ.1 v0 10) then some (1, (μ)) else bd (f_X9_signAt v0 (μ.1 v0 10) μ) fun r3 μ2 => bd (f_X9_isDigit r3 μ2) fun r6 μ5 => if r6 = 0 then some (1, (μ5)) else bd (f_X9_signAt v0 (μ5.1 v0 10) μ5) fun r10 μ9 => vl (sI μ9 v0 2 (imn ((((μ5.1 v0 2) * (10 : Int32)) + r10) - (48 : Int32)) (1000000 : Int32))) fun μ12 => vl (sI μ12 v0 10 ((μ12.1 v0 10) + (1 : Int32))) fun μ13 => some (0, (μ13))
def f_X9_cutNumber (v0 : Nat) (μ : fMem) : Option (Unit × fMem) :=
  bd (lpn (fun (q : fMem) => f_X9_cutNumber_L0 v0 q) fuel (μ)) fun t14 q15 => (fun  (q15 : fMem) => vl (sI q15 v0 0 (21 : Int32)) fun μ17 => some ((), μ17)) q15
def rm_X9_cutNumber : Room := { frames := 1, cells := 0, slots := 0, locals := 80 }
set_option maxHeartbeats 4000000 in
set_option maxRecDepth 100000 in
theorem m_X9_cutNumber (l : Launch) (w : fW) (hJ : fJ w) (hw : w.2.2.2 = sd 0) (v0 : Nat) (hk0 : kd v0 = (4, 9)) (μ : fMem) {r : Unit} {μr : fMem} (h : f_X9_cutNumber v0 μ = some (r, μr)) : Met l yX9_cutNumber (.code yX9_cutNumber cX9_cutNumber 1 none :: gw) rm_X9_cutNumber (fPc w [.ref (w.2.2.1 v0)] μ) (fQv w μr) 0 0 (fA w) := by
  refine met_of hJ (by decide) ?_ (Nat.le_of_ble_eq_true rfl)
  generalize ([.ref (w.2.2.1 v0)] : List Value).toArray = args
  intro p e s m below meth c ls C hr hP hl hS
  obtain ⟨hx, hb, hml, hown, hts, hK, -, hlk, hT⟩ := id C
  have hl : lv_has ls 1 [(0, .ref (w.2.2.1 v0))] := hl
  unfold f_X9_cutNumber at h
  obtain ⟨t14, q15, h18, h⟩ := bd_ok h
  refine lpn_ind (b := (fun (q : fMem) => f_X9_cutNumber_L0 v0 q)) (P := fun (q : fMem) => WW p l e rm_X9_cutNumber s m args below meth c (MQ below (fQv w μr) args s 0 0 (fA w)) w q 1 0 [] [(0, .ref (w.2.2.1 v0))]) (K := fun _ (q : fMem) => WW p l e rm_X9_cutNumber s m args below meth c (MQ below (fQv w μr) args s 0 0 (fA w)) w q 1 66 [] [(0, .ref (w.2.2.1 v0))]) ?_ fuel (μ) t14 q15 h18 ?_ _ _ _ hP hS (lv_sub hl [0] rfl)
  · intro μ tz0 sz0 h hP0_0 hK0_0 H locs ls hP hS hl
    have hP : fP w μ H := hP
    have hl : lv_has ls 1 [(0, .ref (w.2.2.1 v0))] := hl
    have h : f_X9_cutNumber_L0 v0  μ = some (tz0, sz0) := h
    unfold f_X9_cutNumber_L0 at h
    refine lv_aload_n hx hb dX9_cutNumber_0 rfl (lv_at hl 0 rfl) ?_
    refine r_getI C hP (iw hw (fi_9 hk0)) hk0 fl_X9_43 (Or.inl rfl) dX9_cutNumber_1 ?_
    refine lv_aload_n hx hb dX9_cutNumber_4 rfl (lv_at hl 0 rfl) ?_
    refine r_getI C hP (iw hw (fi_9 hk0)) hk0 fl_X9_40 (Or.inl rfl) dX9_cutNumber_5 ?_
    refine lv_icmp_ge (tgt := 66) hx hb dX9_cutNumber_8 (by decide) (fun c1 => ?_) (fun c1 => ?_)
    · replace h := if_t c1 h
      obtain ⟨rfl, rfl⟩ := leaf h
      exact (hK0_0 0 rfl) _ _ _ hP hS (lv_sub hl [0] rfl)
    · replace h := if_f c1 h
      refine lv_aload_n hx hb dX9_cutNumber_11 rfl (lv_at hl 0 rfl) ?_
      refine lv_aload_n hx hb dX9_cutNumber_12 rfl (lv_at hl 0 rfl) ?_
      refine r_getI C hP (iw hw (fi_9 hk0)) hk0 fl_X9_43 (Or.inl rfl) dX9_cutNumber_13 ?_
      obtain ⟨r3, μ2, h4, h⟩ := bd_ok h
      refine go_i (callV_run (As := [.int (μ.1 v0 10)]) (rest := []) C hl hP (hS.wide hJ).2.1 (iw hw (fi_9 hk0)) hk0 (m_X9_signAt l w hJ hw v0 (μ.1 v0 10) hk0 μ h4) mv_X9_79 ⟨rfl, rfl, by decide, by decide⟩ rfl rfl (Nat.le_of_ble_eq_true rfl) ⟨Nat.zero_le _, Nat.zero_le _⟩ dX9_cutNumber_16) hS (fun H locs hP hS => ?_)
      obtain ⟨r6, μ5, h7, h⟩ := bd_ok h
      refine go_i (callS_run (As := [.int r3]) (rest := []) C hl hP (hS.wide hJ).2.1 (m_X9_isDigit l w hJ hw r3  μ2 h7) ms_X9_90 ⟨rfl, rfl, by decide, by decide⟩ rfl rfl (Nat.le_of_ble_eq_true rfl) ⟨Nat.zero_le _, Nat.zero_le _⟩ dX9_cutNumber_19) hS (fun H locs hP hS => ?_)
      refine lv_if_eq (tgt := 66) hx hb dX9_cutNumber_22 (by decide) (fun c8 => ?_) (fun c8 => ?_)
      · replace h := if_t c8 h
        obtain ⟨rfl, rfl⟩ := leaf h
        exact (hK0_0 0 rfl) _ _ _ hP hS (lv_sub hl [0] rfl)
      · replace h := if_f c8 h
        refine lv_aload_n hx hb dX9_cutNumber_25 rfl (lv_at hl 0 rfl) ?_
        refine lv_aload_n hx hb dX9_cutNumber_26 rfl (lv_at hl 0 rfl) ?_
        refine r_getI C hP (iw hw (fi_9 hk0)) hk0 fl_X9_18 (Or.inl rfl) dX9_cutNumber_27 ?_
        refine lv_bipush (v := (10)) hx hb dX9_cutNumber_30 (by decide) ?_
        refine lv_imul hx hb dX9_cutNumber_32 ?_
        refine lv_aload_n hx hb dX9_cutNumber_33 rfl (lv_at hl 0 rfl) ?_
        refine lv_aload_n hx hb dX9_cutNumber_34 rfl (lv_at hl 0 rfl) ?_
        refine r_getI C hP (iw hw (fi_9 hk0)) hk0 fl_X9_43 (Or.inl rfl) dX9_cutNumber_35 ?_
        obtain ⟨r10, μ9, h11, h⟩ := bd_ok h
        refine go_i (callV_run (As := [.int (μ5.1 v0 10)]) (rest := [.int ((μ5.1 v0 2) * (10 : Int32)), .ref (w.2.2.1 v0)]) C hl hP (hS.wide hJ).2.1 (iw hw (fi_9 hk0)) hk0 (m_X9_signAt l w hJ hw v0 (μ5.1 v0 10) hk0 μ5 h11) mv_X9_79 ⟨rfl, rfl, by decide, by decide⟩ rfl rfl (Nat.le_of_ble_eq_true rfl) ⟨Nat.zero_le _, Nat.zero_le _⟩ dX9_cutNumber_38) hS (fun H locs hP hS => ?_)
        refine lv_iadd hx hb dX9_cutNumber_41 ?_
        refine lv_bipush (v := (48)) hx hb dX9_cutNumber_42 (by decide) ?_
        refine lv_isub hx hb dX9_cutNumber_44 ?_
        refine lv_ldc hx hb hown (hts _ ct_X9_100) dX9_cutNumber_45 ?_
        refine b_mmin (rest := [.ref (w.2.2.1 v0)]) C hl mm_X9_58 (by decide) (Nat.le_of_ble_eq_true rfl) dX9_cutNumber_47 ?_
        refine r_putI C hP hS (iw hw (fi_9 hk0)) hk0 fp_X9_18 rfl dX9_cutNumber_50 (fun H locs hP hS => ?_)
        obtain ⟨μ12, eμ12, h⟩ := vl_ex h
        have hP : fP w μ12 H := by rw [eμ12]; exact hP
        refine lv_aload_n hx hb dX9_cutNumber_53 rfl (lv_at hl 0 rfl) ?_
        refine lv_dup hx hb dX9_cutNumber_54 rfl ?_
        refine r_getI C hP (iw hw (fi_9 hk0)) hk0 fl_X9_43 (Or.inl rfl) dX9_cutNumber_55 ?_
        refine lv_iconst (v := (1)) hx hb dX9_cutNumber_58 (by decide) ?_
        refine lv_iadd hx hb dX9_cutNumber_59 ?_
        refine r_putI C hP hS (iw hw (fi_9 hk0)) hk0 fp_X9_43 rfl dX9_cutNumber_60 (fun H locs hP hS => ?_)
        obtain ⟨μ13, eμ13, h⟩ := vl_ex h
        have hP : fP w μ13 H := by rw [eμ13]; exact hP
        refine lv_goto (tgt := 0) hx hb dX9_cutNumber_63 (by decide) ?_
        obtain ⟨rfl, rfl⟩ := leaf h
        exact hP0_0 rfl _ _ _ hP hS (lv_sub hl [0] rfl)
  · skip
    intro H locs ls hP hS hl
    have hP : fP w q15 H := hP
    have hl : lv_has ls 1 [(0, .ref (w.2.2.1 v0))] := hl
    try dsimp only at h
    refine lv_aload_n hx hb dX9_cutNumber_66 rfl (lv_at hl 0 rfl) ?_
    refine lv_bipush (v := (21)) hx hb dX9_cutNumber_67 (by decide) ?_
    refine r_putI C hP hS (iw hw (fi_9 hk0)) hk0 fp_X9_9 rfl dX9_cutNumber_69 (fun H locs hP hS => ?_)
    obtain ⟨μ17, eμ17, h⟩ := vl_ex h
    have hP : fP w μ17 H := by rw [eμ17]; exact hP
    exact r_vret C hr hP hS h dX9_cutNumber_72

def f_X9_joins (v0 : Nat) (v1 : Int32) (μ : fMem) : Option (Int32 × fMem) :=
  bd (f_X9_signAt v0 (μ.1 v0 10) μ) fun r2 μ1 => if r2 = v1 then vl (sI μ1 v0 10 ((μ1.1 v0 10) + (1 : Int32))) fun μ5 => gd (bl (1 : Int32)) (some ((1 : Int32), μ5)) else gd (bl (0 : Int32)) (some ((0 : Int32), μ1))
def rm_X9_joins : Room := { frames := 1, cells := 0, slots := 0, locals := 21 }
set_option maxHeartbeats 4000000 in
set_option maxRecDepth 100000 in
theorem m_X9_joins (l : Launch) (w : fW) (hJ : fJ w) (hw : w.2.2.2 = sd 0) (v0 : Nat) (v1 : Int32) (hk0 : kd v0 = (4, 9)) (μ : fMem) {r : Int32} {μr : fMem} (h : f_X9_joins v0 v1 μ = some (r, μr)) : Met l yX9_joins (.code yX9_joins cX9_joins 2 (some .boolean) :: gw) rm_X9_joins (fPc w [.ref (w.2.2.1 v0), .int v1] μ) (fQi w r μr) 0 0 (fA w) := by
  refine met_of hJ (by decide) ?_ (Nat.le_of_ble_eq_true rfl)
  generalize ([.ref (w.2.2.1 v0), .int v1] : List Value).toArray = args
  intro p e s m below meth c ls C hr hP hl hS
  obtain ⟨hx, hb, hml, hown, hts, hK, -, hlk, hT⟩ := id C
  have hl : lv_has ls 2 [(0, .ref (w.2.2.1 v0)), (1, .int v1)] := hl
  unfold f_X9_joins at h
  refine lv_aload_n hx hb dX9_joins_0 rfl (lv_at hl 0 rfl) ?_
  refine lv_aload_n hx hb dX9_joins_1 rfl (lv_at hl 0 rfl) ?_
  refine r_getI C hP (iw hw (fi_9 hk0)) hk0 fl_X9_43 (Or.inl rfl) dX9_joins_2 ?_
  obtain ⟨r2, μ1, h3, h⟩ := bd_ok h
  refine go_i (callV_run (As := [.int (μ.1 v0 10)]) (rest := []) C hl hP (hS.wide hJ).2.1 (iw hw (fi_9 hk0)) hk0 (m_X9_signAt l w hJ hw v0 (μ.1 v0 10) hk0 μ h3) mv_X9_79 ⟨rfl, rfl, by decide, by decide⟩ rfl rfl (Nat.le_of_ble_eq_true rfl) ⟨Nat.zero_le _, Nat.zero_le _⟩ dX9_joins_5) hS (fun H locs hP hS => ?_)
  refine lv_iload_n hx hb dX9_joins_8 rfl (lv_at hl 1 rfl) ?_
  refine lv_icmp_eq (tgt := 14) hx hb dX9_joins_9 (by decide) (fun c4 => ?_) (fun c4 => ?_)
  · replace h := if_t c4 h
    refine lv_aload_n hx hb dX9_joins_14 rfl (lv_at hl 0 rfl) ?_
    refine lv_dup hx hb dX9_joins_15 rfl ?_
    refine r_getI C hP (iw hw (fi_9 hk0)) hk0 fl_X9_43 (Or.inl rfl) dX9_joins_16 ?_
    refine lv_iconst (v := (1)) hx hb dX9_joins_19 (by decide) ?_
    refine lv_iadd hx hb dX9_joins_20 ?_
    refine r_putI C hP hS (iw hw (fi_9 hk0)) hk0 fp_X9_43 rfl dX9_joins_21 (fun H locs hP hS => ?_)
    obtain ⟨μ5, eμ5, h⟩ := vl_ex h
    have hP : fP w μ5 H := by rw [eμ5]; exact hP
    refine lv_iconst (v := (1)) hx hb dX9_joins_24 (by decide) ?_
    exact r_zret C hr hP hS h dX9_joins_25
  · replace h := if_f c4 h
    refine lv_iconst (v := (0)) hx hb dX9_joins_12 (by decide) ?_
    exact r_zret C hr hP hS h dX9_joins_13

def f_X9_cutSign (v0 : Nat) (v1 : Int32) (μ : fMem) : Option (Unit × fMem) :=
  vl (sI μ v0 10 ((μ.1 v0 10) + (1 : Int32))) fun μ1 => if v1 = 40 then vl (sI μ1 v0 0 (25 : Int32)) fun μ3 => some ((), μ3) else if v1 = 41 then vl (sI μ1 v0 0 (26 : Int32)) fun μ5 => some ((), μ5) else if v1 = 42 then vl (sI μ1 v0 0 (35 : Int32)) fun μ7 => some ((), μ7) else if v1 = 43 then vl (sI μ1 v0 0 (33 : Int32)) fun μ9 => some ((), μ9) else if v1 = 44 then vl (sI μ1 v0 0 (23 : Int32)) fun μ11 => some ((), μ11) else if v1 = 45 then vl (sI μ1 v0 0 (34 : Int32)) fun μ13 => some ((), μ13) else if v1 = 46 then vl (sI μ1 v0 0 (23 : Int32)) fun μ15 => some ((), μ15) else if v1 = 47 then vl (sI μ1 v0 0 (36 : Int32)) fun μ17 => some ((), μ17) else if v1 = 48 then vl (sI μ1 v0 0 (23 : Int32)) fun μ19 => some ((), μ19) else if v1 = 49 then vl (sI μ1 v0 0 (23 : Int32)) fun μ21 => some ((), μ21) else if v1 = 50 then vl (sI μ1 v0 0 (23 : Int32)) fun μ23 => some ((), μ23) else if v1 = 51 then vl (sI μ1 v0 0 (23 : Int32)) fun μ25 => some ((), μ25) else if v1 = 52 then vl (sI μ1 v0 0 (23 : Int32)) fun μ27 => some ((), μ27) else if v1 = 53 then vl (sI μ1 v0 0 (23 : Int32)) fun μ29 => some ((), μ29) else if v1 = 54 then vl (sI μ1 v0 0 (23 : Int32)) fun μ31 => some ((), μ31) else if v1 = 55 then vl (sI μ1 v0 0 (23 : Int32)) fun μ33 => some ((), μ33) else if v1 = 56 then vl (sI μ1 v0 0 (23 : Int32)) fun μ35 => some ((), μ35) else if v1 = 57 then vl (sI μ1 v0 0 (23 : Int32)) fun μ37 => some ((), μ37) else if v1 = 58 then vl (sI μ1 v0 0 (23 : Int32)) fun μ39 => some ((), μ39) else if v1 = 59 then vl (sI μ1 v0 0 (24 : Int32)) fun μ41 => some ((), μ41) else if v1 = 60 then bd (f_X9_joins v0 (61 : Int32) μ1) fun r44 μ43 => if r44 = 0 then bd (f_X9_joins v0 (62 : Int32) μ43) fun r48 μ47 => if r48 = 0 then vl (sI μ47 v0 0 (27 : Int32)) fun μ51 => some ((), μ51) else vl (sI μ47 v0 0 (30 : Int32)) fun μ52 => some ((), μ52) else vl (sI μ43 v0 0 (28 : Int32)) fun μ53 => some ((), μ53) else if v1 = 61 then vl (sI μ1 v0 0 (29 : Int32)) fun μ55 => some ((), μ55) else if v1 = 62 then bd (f_X9_joins v0 (61 : Int32) μ1) fun r58 μ57 => if r58 = 0 then vl (sI μ57 v0 0 (32 : Int32)) fun μ61 => some ((), μ61) else vl (sI μ57 v0 0 (31 : Int32)) fun μ62 => some ((), μ62) else vl (sI μ1 v0 0 (23 : Int32)) fun μ63 => some ((), μ63)
def rm_X9_cutSign : Room := { frames := 2, cells := 0, slots := 0, locals := 42 }
set_option maxHeartbeats 4000000 in
set_option maxRecDepth 100000 in
theorem m_X9_cutSign (l : Launch) (w : fW) (hJ : fJ w) (hw : w.2.2.2 = sd 0) (v0 : Nat) (v1 : Int32) (hk0 : kd v0 = (4, 9)) (μ : fMem) {r : Unit} {μr : fMem} (h : f_X9_cutSign v0 v1 μ = some (r, μr)) : Met l yX9_cutSign (.code yX9_cutSign cX9_cutSign 2 none :: gw) rm_X9_cutSign (fPc w [.ref (w.2.2.1 v0), .int v1] μ) (fQv w μr) 0 0 (fA w) := by
  refine met_of hJ (by decide) ?_ (Nat.le_of_ble_eq_true rfl)
  generalize ([.ref (w.2.2.1 v0), .int v1] : List Value).toArray = args
  intro p e s m below meth c ls C hr hP hl hS
  obtain ⟨hx, hb, hml, hown, hts, hK, -, hlk, hT⟩ := id C
  have hl : lv_has ls 2 [(0, .ref (w.2.2.1 v0)), (1, .int v1)] := hl
  unfold f_X9_cutSign at h
  refine lv_aload_n hx hb dX9_cutSign_0 rfl (lv_at hl 0 rfl) ?_
  refine lv_dup hx hb dX9_cutSign_1 rfl ?_
  refine r_getI C hP (iw hw (fi_9 hk0)) hk0 fl_X9_43 (Or.inl rfl) dX9_cutSign_2 ?_
  refine lv_iconst (v := (1)) hx hb dX9_cutSign_5 (by decide) ?_
  refine lv_iadd hx hb dX9_cutSign_6 ?_
  refine r_putI C hP hS (iw hw (fi_9 hk0)) hk0 fp_X9_43 rfl dX9_cutSign_7 (fun H locs hP hS => ?_)
  obtain ⟨μ1, eμ1, h⟩ := vl_ex h
  have hP : fP w μ1 H := by rw [eμ1]; exact hP
  refine lv_iload_n hx hb dX9_cutSign_10 rfl (lv_at hl 1 rfl) ?_
  by_cases c2 : v1 = 40
  · replace h := if_t c2 h
    refine lv_tableIn (off := 114) (tgt := 125) hx hb dX9_cutSign_11 (by rw [c2]; decide) (by rw [c2]; decide) (by rw [c2]; rfl) (by decide) ?_
    refine lv_aload_n hx hb dX9_cutSign_125 rfl (lv_at hl 0 rfl) ?_
    refine lv_bipush (v := (25)) hx hb dX9_cutSign_126 (by decide) ?_
    refine r_putI C hP hS (iw hw (fi_9 hk0)) hk0 fp_X9_9 rfl dX9_cutSign_128 (fun H locs hP hS => ?_)
    obtain ⟨μ3, eμ3, h⟩ := vl_ex h
    have hP : fP w μ3 H := by rw [eμ3]; exact hP
    refine lv_goto (tgt := 254) hx hb dX9_cutSign_131 (by decide) ?_
    exact r_vret C hr hP hS h dX9_cutSign_254
  replace h := if_f c2 h
  by_cases c4 : v1 = 41
  · replace h := if_t c4 h
    refine lv_tableIn (off := 123) (tgt := 134) hx hb dX9_cutSign_11 (by rw [c4]; decide) (by rw [c4]; decide) (by rw [c4]; rfl) (by decide) ?_
    refine lv_aload_n hx hb dX9_cutSign_134 rfl (lv_at hl 0 rfl) ?_
    refine lv_bipush (v := (26)) hx hb dX9_cutSign_135 (by decide) ?_
    refine r_putI C hP hS (iw hw (fi_9 hk0)) hk0 fp_X9_9 rfl dX9_cutSign_137 (fun H locs hP hS => ?_)
    obtain ⟨μ5, eμ5, h⟩ := vl_ex h
    have hP : fP w μ5 H := by rw [eμ5]; exact hP
    refine lv_goto (tgt := 254) hx hb dX9_cutSign_140 (by decide) ?_
    exact r_vret C hr hP hS h dX9_cutSign_254
  replace h := if_f c4 h
  by_cases c6 : v1 = 42
  · replace h := if_t c6 h
    refine lv_tableIn (off := 159) (tgt := 170) hx hb dX9_cutSign_11 (by rw [c6]; decide) (by rw [c6]; decide) (by rw [c6]; rfl) (by decide) ?_
    refine lv_aload_n hx hb dX9_cutSign_170 rfl (lv_at hl 0 rfl) ?_
    refine lv_bipush (v := (35)) hx hb dX9_cutSign_171 (by decide) ?_
    refine r_putI C hP hS (iw hw (fi_9 hk0)) hk0 fp_X9_9 rfl dX9_cutSign_173 (fun H locs hP hS => ?_)
    obtain ⟨μ7, eμ7, h⟩ := vl_ex h
    have hP : fP w μ7 H := by rw [eμ7]; exact hP
    refine lv_goto (tgt := 254) hx hb dX9_cutSign_176 (by decide) ?_
    exact r_vret C hr hP hS h dX9_cutSign_254
  replace h := if_f c6 h
  by_cases c8 : v1 = 43
  · replace h := if_t c8 h
    refine lv_tableIn (off := 141) (tgt := 152) hx hb dX9_cutSign_11 (by rw [c8]; decide) (by rw [c8]; decide) (by rw [c8]; rfl) (by decide) ?_
    refine lv_aload_n hx hb dX9_cutSign_152 rfl (lv_at hl 0 rfl) ?_
    refine lv_bipush (v := (33)) hx hb dX9_cutSign_153 (by decide) ?_
    refine r_putI C hP hS (iw hw (fi_9 hk0)) hk0 fp_X9_9 rfl dX9_cutSign_155 (fun H locs hP hS => ?_)
    obtain ⟨μ9, eμ9, h⟩ := vl_ex h
    have hP : fP w μ9 H := by rw [eμ9]; exact hP
    refine lv_goto (tgt := 254) hx hb dX9_cutSign_158 (by decide) ?_
    exact r_vret C hr hP hS h dX9_cutSign_254
  replace h := if_f c8 h
  by_cases c10 : v1 = 44
  · replace h := if_t c10 h
    refine lv_tableIn (off := 237) (tgt := 248) hx hb dX9_cutSign_11 (by rw [c10]; decide) (by rw [c10]; decide) (by rw [c10]; rfl) (by decide) ?_
    refine lv_aload_n hx hb dX9_cutSign_248 rfl (lv_at hl 0 rfl) ?_
    refine lv_bipush (v := (23)) hx hb dX9_cutSign_249 (by decide) ?_
    refine r_putI C hP hS (iw hw (fi_9 hk0)) hk0 fp_X9_9 rfl dX9_cutSign_251 (fun H locs hP hS => ?_)
    obtain ⟨μ11, eμ11, h⟩ := vl_ex h
    have hP : fP w μ11 H := by rw [eμ11]; exact hP
    exact r_vret C hr hP hS h dX9_cutSign_254
  replace h := if_f c10 h
  by_cases c12 : v1 = 45
  · replace h := if_t c12 h
    refine lv_tableIn (off := 150) (tgt := 161) hx hb dX9_cutSign_11 (by rw [c12]; decide) (by rw [c12]; decide) (by rw [c12]; rfl) (by decide) ?_
    refine lv_aload_n hx hb dX9_cutSign_161 rfl (lv_at hl 0 rfl) ?_
    refine lv_bipush (v := (34)) hx hb dX9_cutSign_162 (by decide) ?_
    refine r_putI C hP hS (iw hw (fi_9 hk0)) hk0 fp_X9_9 rfl dX9_cutSign_164 (fun H locs hP hS => ?_)
    obtain ⟨μ13, eμ13, h⟩ := vl_ex h
    have hP : fP w μ13 H := by rw [eμ13]; exact hP
    refine lv_goto (tgt := 254) hx hb dX9_cutSign_167 (by decide) ?_
    exact r_vret C hr hP hS h dX9_cutSign_254
  replace h := if_f c12 h
  by_cases c14 : v1 = 46
  · replace h := if_t c14 h
    refine lv_tableIn (off := 237) (tgt := 248) hx hb dX9_cutSign_11 (by rw [c14]; decide) (by rw [c14]; decide) (by rw [c14]; rfl) (by decide) ?_
    refine lv_aload_n hx hb dX9_cutSign_248 rfl (lv_at hl 0 rfl) ?_
    refine lv_bipush (v := (23)) hx hb dX9_cutSign_249 (by decide) ?_
    refine r_putI C hP hS (iw hw (fi_9 hk0)) hk0 fp_X9_9 rfl dX9_cutSign_251 (fun H locs hP hS => ?_)
    obtain ⟨μ15, eμ15, h⟩ := vl_ex h
    have hP : fP w μ15 H := by rw [eμ15]; exact hP
    exact r_vret C hr hP hS h dX9_cutSign_254
  replace h := if_f c14 h
  by_cases c16 : v1 = 47
  · replace h := if_t c16 h
    refine lv_tableIn (off := 168) (tgt := 179) hx hb dX9_cutSign_11 (by rw [c16]; decide) (by rw [c16]; decide) (by rw [c16]; rfl) (by decide) ?_
    refine lv_aload_n hx hb dX9_cutSign_179 rfl (lv_at hl 0 rfl) ?_
    refine lv_bipush (v := (36)) hx hb dX9_cutSign_180 (by decide) ?_
    refine r_putI C hP hS (iw hw (fi_9 hk0)) hk0 fp_X9_9 rfl dX9_cutSign_182 (fun H locs hP hS => ?_)
    obtain ⟨μ17, eμ17, h⟩ := vl_ex h
    have hP : fP w μ17 H := by rw [eμ17]; exact hP
    refine lv_goto (tgt := 254) hx hb dX9_cutSign_185 (by decide) ?_
    exact r_vret C hr hP hS h dX9_cutSign_254
  replace h := if_f c16 h
  by_cases c18 : v1 = 48
  · replace h := if_t c18 h
    refine lv_tableIn (off := 237) (tgt := 248) hx hb dX9_cutSign_11 (by rw [c18]; decide) (by rw [c18]; decide) (by rw [c18]; rfl) (by decide) ?_
    refine lv_aload_n hx hb dX9_cutSign_248 rfl (lv_at hl 0 rfl) ?_
    refine lv_bipush (v := (23)) hx hb dX9_cutSign_249 (by decide) ?_
    refine r_putI C hP hS (iw hw (fi_9 hk0)) hk0 fp_X9_9 rfl dX9_cutSign_251 (fun H locs hP hS => ?_)
    obtain ⟨μ19, eμ19, h⟩ := vl_ex h
    have hP : fP w μ19 H := by rw [eμ19]; exact hP
    exact r_vret C hr hP hS h dX9_cutSign_254
  replace h := if_f c18 h
  by_cases c20 : v1 = 49
  · replace h := if_t c20 h
    refine lv_tableIn (off := 237) (tgt := 248) hx hb dX9_cutSign_11 (by rw [c20]; decide) (by rw [c20]; decide) (by rw [c20]; rfl) (by decide) ?_
    refine lv_aload_n hx hb dX9_cutSign_248 rfl (lv_at hl 0 rfl) ?_
    refine lv_bipush (v := (23)) hx hb dX9_cutSign_249 (by decide) ?_
    refine r_putI C hP hS (iw hw (fi_9 hk0)) hk0 fp_X9_9 rfl dX9_cutSign_251 (fun H locs hP hS => ?_)
    obtain ⟨μ21, eμ21, h⟩ := vl_ex h
    have hP : fP w μ21 H := by rw [eμ21]; exact hP
    exact r_vret C hr hP hS h dX9_cutSign_254
  replace h := if_f c20 h
  by_cases c22 : v1 = 50
  · replace h := if_t c22 h
    refine lv_tableIn (off := 237) (tgt := 248) hx hb dX9_cutSign_11 (by rw [c22]; decide) (by rw [c22]; decide) (by rw [c22]; rfl) (by decide) ?_
    refine lv_aload_n hx hb dX9_cutSign_248 rfl (lv_at hl 0 rfl) ?_
    refine lv_bipush (v := (23)) hx hb dX9_cutSign_249 (by decide) ?_
    refine r_putI C hP hS (iw hw (fi_9 hk0)) hk0 fp_X9_9 rfl dX9_cutSign_251 (fun H locs hP hS => ?_)
    obtain ⟨μ23, eμ23, h⟩ := vl_ex h
    have hP : fP w μ23 H := by rw [eμ23]; exact hP
    exact r_vret C hr hP hS h dX9_cutSign_254
  replace h := if_f c22 h
  by_cases c24 : v1 = 51
  · replace h := if_t c24 h
    refine lv_tableIn (off := 237) (tgt := 248) hx hb dX9_cutSign_11 (by rw [c24]; decide) (by rw [c24]; decide) (by rw [c24]; rfl) (by decide) ?_
    refine lv_aload_n hx hb dX9_cutSign_248 rfl (lv_at hl 0 rfl) ?_
    refine lv_bipush (v := (23)) hx hb dX9_cutSign_249 (by decide) ?_
    refine r_putI C hP hS (iw hw (fi_9 hk0)) hk0 fp_X9_9 rfl dX9_cutSign_251 (fun H locs hP hS => ?_)
    obtain ⟨μ25, eμ25, h⟩ := vl_ex h
    have hP : fP w μ25 H := by rw [eμ25]; exact hP
    exact r_vret C hr hP hS h dX9_cutSign_254
  replace h := if_f c24 h
  by_cases c26 : v1 = 52
  · replace h := if_t c26 h
    refine lv_tableIn (off := 237) (tgt := 248) hx hb dX9_cutSign_11 (by rw [c26]; decide) (by rw [c26]; decide) (by rw [c26]; rfl) (by decide) ?_
    refine lv_aload_n hx hb dX9_cutSign_248 rfl (lv_at hl 0 rfl) ?_
    refine lv_bipush (v := (23)) hx hb dX9_cutSign_249 (by decide) ?_
    refine r_putI C hP hS (iw hw (fi_9 hk0)) hk0 fp_X9_9 rfl dX9_cutSign_251 (fun H locs hP hS => ?_)
    obtain ⟨μ27, eμ27, h⟩ := vl_ex h
    have hP : fP w μ27 H := by rw [eμ27]; exact hP
    exact r_vret C hr hP hS h dX9_cutSign_254
  replace h := if_f c26 h
  by_cases c28 : v1 = 53
  · replace h := if_t c28 h
    refine lv_tableIn (off := 237) (tgt := 248) hx hb dX9_cutSign_11 (by rw [c28]; decide) (by rw [c28]; decide) (by rw [c28]; rfl) (by decide) ?_
    refine lv_aload_n hx hb dX9_cutSign_248 rfl (lv_at hl 0 rfl) ?_
    refine lv_bipush (v := (23)) hx hb dX9_cutSign_249 (by decide) ?_
    refine r_putI C hP hS (iw hw (fi_9 hk0)) hk0 fp_X9_9 rfl dX9_cutSign_251 (fun H locs hP hS => ?_)
    obtain ⟨μ29, eμ29, h⟩ := vl_ex h
    have hP : fP w μ29 H := by rw [eμ29]; exact hP
    exact r_vret C hr hP hS h dX9_cutSign_254
  replace h := if_f c28 h
  by_cases c30 : v1 = 54
  · replace h := if_t c30 h
    refine lv_tableIn (off := 237) (tgt := 248) hx hb dX9_cutSign_11 (by rw [c30]; decide) (by rw [c30]; decide) (by rw [c30]; rfl) (by decide) ?_
    refine lv_aload_n hx hb dX9_cutSign_248 rfl (lv_at hl 0 rfl) ?_
    refine lv_bipush (v := (23)) hx hb dX9_cutSign_249 (by decide) ?_
    refine r_putI C hP hS (iw hw (fi_9 hk0)) hk0 fp_X9_9 rfl dX9_cutSign_251 (fun H locs hP hS => ?_)
    obtain ⟨μ31, eμ31, h⟩ := vl_ex h
    have hP : fP w μ31 H := by rw [eμ31]; exact hP
    exact r_vret C hr hP hS h dX9_cutSign_254
  replace h := if_f c30 h
  by_cases c32 : v1 = 55
  · replace h := if_t c32 h
    refine lv_tableIn (off := 237) (tgt := 248) hx hb dX9_cutSign_11 (by rw [c32]; decide) (by rw [c32]; decide) (by rw [c32]; rfl) (by decide) ?_
    refine lv_aload_n hx hb dX9_cutSign_248 rfl (lv_at hl 0 rfl) ?_
    refine lv_bipush (v := (23)) hx hb dX9_cutSign_249 (by decide) ?_
    refine r_putI C hP hS (iw hw (fi_9 hk0)) hk0 fp_X9_9 rfl dX9_cutSign_251 (fun H locs hP hS => ?_)
    obtain ⟨μ33, eμ33, h⟩ := vl_ex h
    have hP : fP w μ33 H := by rw [eμ33]; exact hP
    exact r_vret C hr hP hS h dX9_cutSign_254
  replace h := if_f c32 h
  by_cases c34 : v1 = 56
  · replace h := if_t c34 h
    refine lv_tableIn (off := 237) (tgt := 248) hx hb dX9_cutSign_11 (by rw [c34]; decide) (by rw [c34]; decide) (by rw [c34]; rfl) (by decide) ?_
    refine lv_aload_n hx hb dX9_cutSign_248 rfl (lv_at hl 0 rfl) ?_
    refine lv_bipush (v := (23)) hx hb dX9_cutSign_249 (by decide) ?_
    refine r_putI C hP hS (iw hw (fi_9 hk0)) hk0 fp_X9_9 rfl dX9_cutSign_251 (fun H locs hP hS => ?_)
    obtain ⟨μ35, eμ35, h⟩ := vl_ex h
    have hP : fP w μ35 H := by rw [eμ35]; exact hP
    exact r_vret C hr hP hS h dX9_cutSign_254
  replace h := if_f c34 h
  by_cases c36 : v1 = 57
  · replace h := if_t c36 h
    refine lv_tableIn (off := 237) (tgt := 248) hx hb dX9_cutSign_11 (by rw [c36]; decide) (by rw [c36]; decide) (by rw [c36]; rfl) (by decide) ?_
    refine lv_aload_n hx hb dX9_cutSign_248 rfl (lv_at hl 0 rfl) ?_
    refine lv_bipush (v := (23)) hx hb dX9_cutSign_249 (by decide) ?_
    refine r_putI C hP hS (iw hw (fi_9 hk0)) hk0 fp_X9_9 rfl dX9_cutSign_251 (fun H locs hP hS => ?_)
    obtain ⟨μ37, eμ37, h⟩ := vl_ex h
    have hP : fP w μ37 H := by rw [eμ37]; exact hP
    exact r_vret C hr hP hS h dX9_cutSign_254
  replace h := if_f c36 h
  by_cases c38 : v1 = 58
  · replace h := if_t c38 h
    refine lv_tableIn (off := 237) (tgt := 248) hx hb dX9_cutSign_11 (by rw [c38]; decide) (by rw [c38]; decide) (by rw [c38]; rfl) (by decide) ?_
    refine lv_aload_n hx hb dX9_cutSign_248 rfl (lv_at hl 0 rfl) ?_
    refine lv_bipush (v := (23)) hx hb dX9_cutSign_249 (by decide) ?_
    refine r_putI C hP hS (iw hw (fi_9 hk0)) hk0 fp_X9_9 rfl dX9_cutSign_251 (fun H locs hP hS => ?_)
    obtain ⟨μ39, eμ39, h⟩ := vl_ex h
    have hP : fP w μ39 H := by rw [eμ39]; exact hP
    exact r_vret C hr hP hS h dX9_cutSign_254
  replace h := if_f c38 h
  by_cases c40 : v1 = 59
  · replace h := if_t c40 h
    refine lv_tableIn (off := 105) (tgt := 116) hx hb dX9_cutSign_11 (by rw [c40]; decide) (by rw [c40]; decide) (by rw [c40]; rfl) (by decide) ?_
    refine lv_aload_n hx hb dX9_cutSign_116 rfl (lv_at hl 0 rfl) ?_
    refine lv_bipush (v := (24)) hx hb dX9_cutSign_117 (by decide) ?_
    refine r_putI C hP hS (iw hw (fi_9 hk0)) hk0 fp_X9_9 rfl dX9_cutSign_119 (fun H locs hP hS => ?_)
    obtain ⟨μ41, eμ41, h⟩ := vl_ex h
    have hP : fP w μ41 H := by rw [eμ41]; exact hP
    refine lv_goto (tgt := 254) hx hb dX9_cutSign_122 (by decide) ?_
    exact r_vret C hr hP hS h dX9_cutSign_254
  replace h := if_f c40 h
  by_cases c42 : v1 = 60
  · replace h := if_t c42 h
    refine lv_tableIn (off := 177) (tgt := 188) hx hb dX9_cutSign_11 (by rw [c42]; decide) (by rw [c42]; decide) (by rw [c42]; rfl) (by decide) ?_
    refine lv_aload_n hx hb dX9_cutSign_188 rfl (lv_at hl 0 rfl) ?_
    refine lv_aload_n hx hb dX9_cutSign_189 rfl (lv_at hl 0 rfl) ?_
    refine lv_bipush (v := (61)) hx hb dX9_cutSign_190 (by decide) ?_
    obtain ⟨r44, μ43, h45, h⟩ := bd_ok h
    refine go_i (callV_run (As := [.int (61 : Int32)]) (rest := [.ref (w.2.2.1 v0)]) C hl hP (hS.wide hJ).2.1 (iw hw (fi_9 hk0)) hk0 (m_X9_joins l w hJ hw v0 (61 : Int32) hk0 μ1 h45) mv_X9_101 ⟨rfl, rfl, by decide, by decide⟩ rfl rfl (Nat.le_of_ble_eq_true rfl) ⟨Nat.zero_le _, Nat.zero_le _⟩ dX9_cutSign_192) hS (fun H locs hP hS => ?_)
    refine lv_if_eq (tgt := 203) hx hb dX9_cutSign_195 (by decide) (fun c46 => ?_) (fun c46 => ?_)
    · replace h := if_t c46 h
      refine lv_aload_n hx hb dX9_cutSign_203 rfl (lv_at hl 0 rfl) ?_
      refine lv_bipush (v := (62)) hx hb dX9_cutSign_204 (by decide) ?_
      obtain ⟨r48, μ47, h49, h⟩ := bd_ok h
      refine go_i (callV_run (As := [.int (62 : Int32)]) (rest := [.ref (w.2.2.1 v0)]) C hl hP (hS.wide hJ).2.1 (iw hw (fi_9 hk0)) hk0 (m_X9_joins l w hJ hw v0 (62 : Int32) hk0 μ43 h49) mv_X9_101 ⟨rfl, rfl, by decide, by decide⟩ rfl rfl (Nat.le_of_ble_eq_true rfl) ⟨Nat.zero_le _, Nat.zero_le _⟩ dX9_cutSign_206) hS (fun H locs hP hS => ?_)
      refine lv_if_eq (tgt := 217) hx hb dX9_cutSign_209 (by decide) (fun c50 => ?_) (fun c50 => ?_)
      · replace h := if_t c50 h
        refine lv_bipush (v := (27)) hx hb dX9_cutSign_217 (by decide) ?_
        refine r_putI C hP hS (iw hw (fi_9 hk0)) hk0 fp_X9_9 rfl dX9_cutSign_219 (fun H locs hP hS => ?_)
        obtain ⟨μ51, eμ51, h⟩ := vl_ex h
        have hP : fP w μ51 H := by rw [eμ51]; exact hP
        refine lv_goto (tgt := 254) hx hb dX9_cutSign_222 (by decide) ?_
        exact r_vret C hr hP hS h dX9_cutSign_254
      · replace h := if_f c50 h
        refine lv_bipush (v := (30)) hx hb dX9_cutSign_212 (by decide) ?_
        refine lv_goto (tgt := 219) hx hb dX9_cutSign_214 (by decide) ?_
        refine r_putI C hP hS (iw hw (fi_9 hk0)) hk0 fp_X9_9 rfl dX9_cutSign_219 (fun H locs hP hS => ?_)
        obtain ⟨μ52, eμ52, h⟩ := vl_ex h
        have hP : fP w μ52 H := by rw [eμ52]; exact hP
        refine lv_goto (tgt := 254) hx hb dX9_cutSign_222 (by decide) ?_
        exact r_vret C hr hP hS h dX9_cutSign_254
    · replace h := if_f c46 h
      refine lv_bipush (v := (28)) hx hb dX9_cutSign_198 (by decide) ?_
      refine lv_goto (tgt := 219) hx hb dX9_cutSign_200 (by decide) ?_
      refine r_putI C hP hS (iw hw (fi_9 hk0)) hk0 fp_X9_9 rfl dX9_cutSign_219 (fun H locs hP hS => ?_)
      obtain ⟨μ53, eμ53, h⟩ := vl_ex h
      have hP : fP w μ53 H := by rw [eμ53]; exact hP
      refine lv_goto (tgt := 254) hx hb dX9_cutSign_222 (by decide) ?_
      exact r_vret C hr hP hS h dX9_cutSign_254
  replace h := if_f c42 h
  by_cases c54 : v1 = 61
  · replace h := if_t c54 h
    refine lv_tableIn (off := 132) (tgt := 143) hx hb dX9_cutSign_11 (by rw [c54]; decide) (by rw [c54]; decide) (by rw [c54]; rfl) (by decide) ?_
    refine lv_aload_n hx hb dX9_cutSign_143 rfl (lv_at hl 0 rfl) ?_
    refine lv_bipush (v := (29)) hx hb dX9_cutSign_144 (by decide) ?_
    refine r_putI C hP hS (iw hw (fi_9 hk0)) hk0 fp_X9_9 rfl dX9_cutSign_146 (fun H locs hP hS => ?_)
    obtain ⟨μ55, eμ55, h⟩ := vl_ex h
    have hP : fP w μ55 H := by rw [eμ55]; exact hP
    refine lv_goto (tgt := 254) hx hb dX9_cutSign_149 (by decide) ?_
    exact r_vret C hr hP hS h dX9_cutSign_254
  replace h := if_f c54 h
  by_cases c56 : v1 = 62
  · replace h := if_t c56 h
    refine lv_tableIn (off := 214) (tgt := 225) hx hb dX9_cutSign_11 (by rw [c56]; decide) (by rw [c56]; decide) (by rw [c56]; rfl) (by decide) ?_
    refine lv_aload_n hx hb dX9_cutSign_225 rfl (lv_at hl 0 rfl) ?_
    refine lv_aload_n hx hb dX9_cutSign_226 rfl (lv_at hl 0 rfl) ?_
    refine lv_bipush (v := (61)) hx hb dX9_cutSign_227 (by decide) ?_
    obtain ⟨r58, μ57, h59, h⟩ := bd_ok h
    refine go_i (callV_run (As := [.int (61 : Int32)]) (rest := [.ref (w.2.2.1 v0)]) C hl hP (hS.wide hJ).2.1 (iw hw (fi_9 hk0)) hk0 (m_X9_joins l w hJ hw v0 (61 : Int32) hk0 μ1 h59) mv_X9_101 ⟨rfl, rfl, by decide, by decide⟩ rfl rfl (Nat.le_of_ble_eq_true rfl) ⟨Nat.zero_le _, Nat.zero_le _⟩ dX9_cutSign_229) hS (fun H locs hP hS => ?_)
    refine lv_if_eq (tgt := 240) hx hb dX9_cutSign_232 (by decide) (fun c60 => ?_) (fun c60 => ?_)
    · replace h := if_t c60 h
      refine lv_bipush (v := (32)) hx hb dX9_cutSign_240 (by decide) ?_
      refine r_putI C hP hS (iw hw (fi_9 hk0)) hk0 fp_X9_9 rfl dX9_cutSign_242 (fun H locs hP hS => ?_)
      obtain ⟨μ61, eμ61, h⟩ := vl_ex h
      have hP : fP w μ61 H := by rw [eμ61]; exact hP
      refine lv_goto (tgt := 254) hx hb dX9_cutSign_245 (by decide) ?_
      exact r_vret C hr hP hS h dX9_cutSign_254
    · replace h := if_f c60 h
      refine lv_bipush (v := (31)) hx hb dX9_cutSign_235 (by decide) ?_
      refine lv_goto (tgt := 242) hx hb dX9_cutSign_237 (by decide) ?_
      refine r_putI C hP hS (iw hw (fi_9 hk0)) hk0 fp_X9_9 rfl dX9_cutSign_242 (fun H locs hP hS => ?_)
      obtain ⟨μ62, eμ62, h⟩ := vl_ex h
      have hP : fP w μ62 H := by rw [eμ62]; exact hP
      refine lv_goto (tgt := 254) hx hb dX9_cutSign_245 (by decide) ?_
      exact r_vret C hr hP hS h dX9_cutSign_254
  replace h := if_f c56 h
  have ho : Int32.toInt v1 < 40 ∨ 62 < Int32.toInt v1 := tb_out _ _ _ (fun v h1 h2 => by
    rcases (show v = 40 ∨ v = 41 ∨ v = 42 ∨ v = 43 ∨ v = 44 ∨ v = 45 ∨ v = 46 ∨ v = 47 ∨ v = 48 ∨ v = 49 ∨ v = 50 ∨ v = 51 ∨ v = 52 ∨ v = 53 ∨ v = 54 ∨ v = 55 ∨ v = 56 ∨ v = 57 ∨ v = 58 ∨ v = 59 ∨ v = 60 ∨ v = 61 ∨ v = 62 by omega) with rfl | rfl | rfl | rfl | rfl | rfl | rfl | rfl | rfl | rfl | rfl | rfl | rfl | rfl | rfl | rfl | rfl | rfl | rfl | rfl | rfl | rfl | rfl
    · exact c2
    · exact c4
    · exact c6
    · exact c8
    · exact c10
    · exact c12
    · exact c14
    · exact c16
    · exact c18
    · exact c20
    · exact c22
    · exact c24
    · exact c26
    · exact c28
    · exact c30
    · exact c32
    · exact c34
    · exact c36
    · exact c38
    · exact c40
    · exact c42
    · exact c54
    · exact c56)
  refine lv_tableOut (tgt := 248) hx hb dX9_cutSign_11 ho (by decide) ?_
  refine lv_aload_n hx hb dX9_cutSign_248 rfl (lv_at hl 0 rfl) ?_
  refine lv_bipush (v := (23)) hx hb dX9_cutSign_249 (by decide) ?_
  refine r_putI C hP hS (iw hw (fi_9 hk0)) hk0 fp_X9_9 rfl dX9_cutSign_251 (fun H locs hP hS => ?_)
  obtain ⟨μ63, eμ63, h⟩ := vl_ex h
  have hP : fP w μ63 H := by rw [eμ63]; exact hP
  exact r_vret C hr hP hS h dX9_cutSign_254

def f_X9_cutOne_j37 (v0 : Nat) (μ : fMem) : Option (Nat × (fMem)) :=
  vl (sI μ v0 10 ((μ.1 v0 10) + (1 : Int32))) fun μ10 => some (0, (μ10))
def f_X9_cutOne_L0 (v0 : Nat)  (μ : fMem) : Option (Nat × (fMem)) :=
  if (μ.1 v0 9) ≤ (μ.1 v0 10) then some (1, (μ)) else bd (f_X9_signAt v0 (μ.1 v0 10) μ) fun r3 μ2 => if r3 = (10 : Int32) then f_X9_cutOne_j37 v0 μ2 else bd (f_X9_signAt v0 (μ2.1 v0 10) μ2) fun r7 μ6 => if r7 = (32 : Int32) then f_X9_cutOne_j37 v0 μ6 else some (1, (μ6))
def f_X9_cutOne (v0 : Nat) (μ : fMem) : Option (Unit × fMem) :=
  bd (lpn (fun (q : fMem) => f_X9_cutOne_L0 v0 q) fuel (μ)) fun t11 q12 => (fun  (q12 : fMem) => vl (sI q12 v0 1 (q12.1 v0 10)) fun μ14 => vl (sI μ14 v0 2 (0 : Int32)) fun μ15 => bd (f_X9_signAt v0 (μ15.1 v0 10) μ15) fun r17 μ16 => if (μ16.1 v0 10) < (μ16.1 v0 9) then bd (f_X9_isLetter r17 μ16) fun r21 μ20 => if r21 = 0 then bd (f_X9_isDigit r17 μ20) fun r25 μ24 => if r25 = 0 then bd (f_X9_cutSign v0 r17 μ24) fun r29 μ28 => some ((), μ28) else bd (f_X9_cutNumber v0 μ24) fun r32 μ31 => some ((), μ31) else bd (f_X9_cutWord v0 μ20) fun r35 μ34 => some ((), μ34) else vl (sI μ16 v0 0 (22 : Int32)) fun μ37 => some ((), μ37)) q12
def rm_X9_cutOne : Room := { frames := 3, cells := 0, slots := 0, locals := 100 }
set_option maxHeartbeats 4000000 in
set_option maxRecDepth 100000 in
theorem m_X9_cutOne (l : Launch) (w : fW) (hJ : fJ w) (hw : w.2.2.2 = sd 0) (v0 : Nat) (hk0 : kd v0 = (4, 9)) (μ : fMem) {r : Unit} {μr : fMem} (h : f_X9_cutOne v0 μ = some (r, μr)) : Met l yX9_cutOne (.code yX9_cutOne cX9_cutOne 2 none :: gw) rm_X9_cutOne (fPc w [.ref (w.2.2.1 v0)] μ) (fQv w μr) 0 0 (fA w) := by
  refine met_of hJ (by decide) ?_ (Nat.le_of_ble_eq_true rfl)
  generalize ([.ref (w.2.2.1 v0)] : List Value).toArray = args
  intro p e s m below meth c ls C hr hP hl hS
  obtain ⟨hx, hb, hml, hown, hts, hK, -, hlk, hT⟩ := id C
  have hl : lv_has ls 2 [(0, .ref (w.2.2.1 v0))] := hl
  unfold f_X9_cutOne at h
  obtain ⟨t11, q12, h38, h⟩ := bd_ok h
  refine lpn_ind (b := (fun (q : fMem) => f_X9_cutOne_L0 v0 q)) (P := fun (q : fMem) => WW p l e rm_X9_cutOne s m args below meth c (MQ below (fQv w μr) args s 0 0 (fA w)) w q 2 0 [] [(0, .ref (w.2.2.1 v0))]) (K := fun _ (q : fMem) => WW p l e rm_X9_cutOne s m args below meth c (MQ below (fQv w μr) args s 0 0 (fA w)) w q 2 50 [] [(0, .ref (w.2.2.1 v0))]) ?_ fuel (μ) t11 q12 h38 ?_ _ _ _ hP hS (lv_sub hl [0] rfl)
  · intro μ tz0 sz0 h hP0_0 hK0_0 H locs ls hP hS hl
    have hP : fP w μ H := hP
    have hl : lv_has ls 2 [(0, .ref (w.2.2.1 v0))] := hl
    have h : f_X9_cutOne_L0 v0  μ = some (tz0, sz0) := h
    unfold f_X9_cutOne_L0 at h
    have J37 : ∀  (μ : fMem), f_X9_cutOne_j37 v0 μ = some (tz0, sz0) → WW p l e rm_X9_cutOne s m args below meth c (MQ below (fQv w μr) args s 0 0 (fA w)) w μ 2 37 [] [(0, .ref (w.2.2.1 v0))] := by
      intro  μ  h H locs ls hP hS hl
      unfold f_X9_cutOne_j37 at h
      refine lv_aload_n hx hb dX9_cutOne_37 rfl (lv_at hl 0 rfl) ?_
      refine lv_dup hx hb dX9_cutOne_38 rfl ?_
      refine r_getI C hP (iw hw (fi_9 hk0)) hk0 fl_X9_43 (Or.inl rfl) dX9_cutOne_39 ?_
      refine lv_iconst (v := (1)) hx hb dX9_cutOne_42 (by decide) ?_
      refine lv_iadd hx hb dX9_cutOne_43 ?_
      refine r_putI C hP hS (iw hw (fi_9 hk0)) hk0 fp_X9_43 rfl dX9_cutOne_44 (fun H locs hP hS => ?_)
      obtain ⟨μ10, eμ10, h⟩ := vl_ex h
      have hP : fP w μ10 H := by rw [eμ10]; exact hP
      refine lv_goto (tgt := 0) hx hb dX9_cutOne_47 (by decide) ?_
      obtain ⟨rfl, rfl⟩ := leaf h
      exact hP0_0 rfl _ _ _ hP hS (lv_sub hl [0] rfl)
    refine lv_aload_n hx hb dX9_cutOne_0 rfl (lv_at hl 0 rfl) ?_
    refine r_getI C hP (iw hw (fi_9 hk0)) hk0 fl_X9_43 (Or.inl rfl) dX9_cutOne_1 ?_
    refine lv_aload_n hx hb dX9_cutOne_4 rfl (lv_at hl 0 rfl) ?_
    refine r_getI C hP (iw hw (fi_9 hk0)) hk0 fl_X9_40 (Or.inl rfl) dX9_cutOne_5 ?_
    refine lv_icmp_ge (tgt := 50) hx hb dX9_cutOne_8 (by decide) (fun c1 => ?_) (fun c1 => ?_)
    · replace h := if_t c1 h
      obtain ⟨rfl, rfl⟩ := leaf h
      exact (hK0_0 0 rfl) _ _ _ hP hS (lv_sub hl [0] rfl)
    · replace h := if_f c1 h
      refine lv_aload_n hx hb dX9_cutOne_11 rfl (lv_at hl 0 rfl) ?_
      refine lv_aload_n hx hb dX9_cutOne_12 rfl (lv_at hl 0 rfl) ?_
      refine r_getI C hP (iw hw (fi_9 hk0)) hk0 fl_X9_43 (Or.inl rfl) dX9_cutOne_13 ?_
      obtain ⟨r3, μ2, h4, h⟩ := bd_ok h
      refine go_i (callV_run (As := [.int (μ.1 v0 10)]) (rest := []) C hl hP (hS.wide hJ).2.1 (iw hw (fi_9 hk0)) hk0 (m_X9_signAt l w hJ hw v0 (μ.1 v0 10) hk0 μ h4) mv_X9_79 ⟨rfl, rfl, by decide, by decide⟩ rfl rfl (Nat.le_of_ble_eq_true rfl) ⟨Nat.zero_le _, Nat.zero_le _⟩ dX9_cutOne_16) hS (fun H locs hP hS => ?_)
      refine lv_bipush (v := (10)) hx hb dX9_cutOne_19 (by decide) ?_
      refine lv_icmp_eq (tgt := 37) hx hb dX9_cutOne_21 (by decide) (fun c5 => ?_) (fun c5 => ?_)
      · replace h := if_t c5 h
        exact J37  μ2  h _ _ _ hP hS (lv_sub hl [0] rfl)
      · replace h := if_f c5 h
        refine lv_aload_n hx hb dX9_cutOne_24 rfl (lv_at hl 0 rfl) ?_
        refine lv_aload_n hx hb dX9_cutOne_25 rfl (lv_at hl 0 rfl) ?_
        refine r_getI C hP (iw hw (fi_9 hk0)) hk0 fl_X9_43 (Or.inl rfl) dX9_cutOne_26 ?_
        obtain ⟨r7, μ6, h8, h⟩ := bd_ok h
        refine go_i (callV_run (As := [.int (μ2.1 v0 10)]) (rest := []) C hl hP (hS.wide hJ).2.1 (iw hw (fi_9 hk0)) hk0 (m_X9_signAt l w hJ hw v0 (μ2.1 v0 10) hk0 μ2 h8) mv_X9_79 ⟨rfl, rfl, by decide, by decide⟩ rfl rfl (Nat.le_of_ble_eq_true rfl) ⟨Nat.zero_le _, Nat.zero_le _⟩ dX9_cutOne_29) hS (fun H locs hP hS => ?_)
        refine lv_bipush (v := (32)) hx hb dX9_cutOne_32 (by decide) ?_
        refine lv_icmp_ne (tgt := 50) hx hb dX9_cutOne_34 (by decide) (fun c9 => ?_) (fun c9 => ?_)
        · replace h := if_f c9 h
          obtain ⟨rfl, rfl⟩ := leaf h
          exact (hK0_0 0 rfl) _ _ _ hP hS (lv_sub hl [0] rfl)
        · replace h := if_t c9 h
          exact J37  μ6  h _ _ _ hP hS (lv_sub hl [0] rfl)
  · skip
    intro H locs ls hP hS hl
    have hP : fP w q12 H := hP
    have hl : lv_has ls 2 [(0, .ref (w.2.2.1 v0))] := hl
    try dsimp only at h
    refine lv_aload_n hx hb dX9_cutOne_50 rfl (lv_at hl 0 rfl) ?_
    refine lv_aload_n hx hb dX9_cutOne_51 rfl (lv_at hl 0 rfl) ?_
    refine r_getI C hP (iw hw (fi_9 hk0)) hk0 fl_X9_43 (Or.inl rfl) dX9_cutOne_52 ?_
    refine r_putI C hP hS (iw hw (fi_9 hk0)) hk0 fp_X9_15 rfl dX9_cutOne_55 (fun H locs hP hS => ?_)
    obtain ⟨μ14, eμ14, h⟩ := vl_ex h
    have hP : fP w μ14 H := by rw [eμ14]; exact hP
    refine lv_aload_n hx hb dX9_cutOne_58 rfl (lv_at hl 0 rfl) ?_
    refine lv_iconst (v := (0)) hx hb dX9_cutOne_59 (by decide) ?_
    refine r_putI C hP hS (iw hw (fi_9 hk0)) hk0 fp_X9_18 rfl dX9_cutOne_60 (fun H locs hP hS => ?_)
    obtain ⟨μ15, eμ15, h⟩ := vl_ex h
    have hP : fP w μ15 H := by rw [eμ15]; exact hP
    refine lv_aload_n hx hb dX9_cutOne_63 rfl (lv_at hl 0 rfl) ?_
    refine lv_aload_n hx hb dX9_cutOne_64 rfl (lv_at hl 0 rfl) ?_
    refine r_getI C hP (iw hw (fi_9 hk0)) hk0 fl_X9_43 (Or.inl rfl) dX9_cutOne_65 ?_
    obtain ⟨r17, μ16, h18, h⟩ := bd_ok h
    refine go_i (callV_run (As := [.int (μ15.1 v0 10)]) (rest := []) C hl hP (hS.wide hJ).2.1 (iw hw (fi_9 hk0)) hk0 (m_X9_signAt l w hJ hw v0 (μ15.1 v0 10) hk0 μ15 h18) mv_X9_79 ⟨rfl, rfl, by decide, by decide⟩ rfl rfl (Nat.le_of_ble_eq_true rfl) ⟨Nat.zero_le _, Nat.zero_le _⟩ dX9_cutOne_68) hS (fun H locs hP hS => ?_)
    refine lv_istore_n (lv' := [(1, .int r17), (0, .ref (w.2.2.1 v0))]) hx hb dX9_cutOne_71 rfl hl (by decide) rfl (fun ls hl => ?_)
    refine lv_aload_n hx hb dX9_cutOne_72 rfl (lv_at hl 1 rfl) ?_
    refine r_getI C hP (iw hw (fi_9 hk0)) hk0 fl_X9_43 (Or.inl rfl) dX9_cutOne_73 ?_
    refine lv_aload_n hx hb dX9_cutOne_76 rfl (lv_at hl 1 rfl) ?_
    refine r_getI C hP (iw hw (fi_9 hk0)) hk0 fl_X9_40 (Or.inl rfl) dX9_cutOne_77 ?_
    refine lv_icmp_lt (tgt := 92) hx hb dX9_cutOne_80 (by decide) (fun c19 => ?_) (fun c19 => ?_)
    · replace h := if_t c19 h
      refine lv_iload_n hx hb dX9_cutOne_92 rfl (lv_at hl 0 rfl) ?_
      obtain ⟨r21, μ20, h22, h⟩ := bd_ok h
      refine go_i (callS_run (As := [.int r17]) (rest := []) C hl hP (hS.wide hJ).2.1 (m_X9_isLetter l w hJ hw r17  μ16 h22) ms_X9_83 ⟨rfl, rfl, by decide, by decide⟩ rfl rfl (Nat.le_of_ble_eq_true rfl) ⟨Nat.zero_le _, Nat.zero_le _⟩ dX9_cutOne_93) hS (fun H locs hP hS => ?_)
      refine lv_if_eq (tgt := 106) hx hb dX9_cutOne_96 (by decide) (fun c23 => ?_) (fun c23 => ?_)
      · replace h := if_t c23 h
        refine lv_iload_n hx hb dX9_cutOne_106 rfl (lv_at hl 0 rfl) ?_
        obtain ⟨r25, μ24, h26, h⟩ := bd_ok h
        refine go_i (callS_run (As := [.int r17]) (rest := []) C hl hP (hS.wide hJ).2.1 (m_X9_isDigit l w hJ hw r17  μ20 h26) ms_X9_90 ⟨rfl, rfl, by decide, by decide⟩ rfl rfl (Nat.le_of_ble_eq_true rfl) ⟨Nat.zero_le _, Nat.zero_le _⟩ dX9_cutOne_107) hS (fun H locs hP hS => ?_)
        refine lv_if_eq (tgt := 120) hx hb dX9_cutOne_110 (by decide) (fun c27 => ?_) (fun c27 => ?_)
        · replace h := if_t c27 h
          refine lv_aload_n hx hb dX9_cutOne_120 rfl (lv_at hl 1 rfl) ?_
          refine lv_iload_n hx hb dX9_cutOne_121 rfl (lv_at hl 0 rfl) ?_
          obtain ⟨r29, μ28, h30, h⟩ := bd_ok h
          refine go_v (callV_run (As := [.int r17]) (rest := []) C hl hP (hS.wide hJ).2.1 (iw hw (fi_9 hk0)) hk0 (m_X9_cutSign l w hJ hw v0 r17 hk0 μ24 h30) mv_X9_96 ⟨rfl, rfl, by decide, by decide⟩ rfl rfl (Nat.le_of_ble_eq_true rfl) ⟨Nat.zero_le _, Nat.zero_le _⟩ dX9_cutOne_122) hS (fun H locs hP hS => ?_)
          exact r_vret C hr hP hS h dX9_cutOne_125
        · replace h := if_f c27 h
          refine lv_aload_n hx hb dX9_cutOne_113 rfl (lv_at hl 1 rfl) ?_
          obtain ⟨r32, μ31, h33, h⟩ := bd_ok h
          refine go_v (callV_run (As := []) (rest := []) C hl hP (hS.wide hJ).2.1 (iw hw (fi_9 hk0)) hk0 (m_X9_cutNumber l w hJ hw v0 hk0 μ24 h33) mv_X9_93 ⟨rfl, rfl, by decide, by decide⟩ rfl rfl (Nat.le_of_ble_eq_true rfl) ⟨Nat.zero_le _, Nat.zero_le _⟩ dX9_cutOne_114) hS (fun H locs hP hS => ?_)
          refine lv_goto (tgt := 125) hx hb dX9_cutOne_117 (by decide) ?_
          exact r_vret C hr hP hS h dX9_cutOne_125
      · replace h := if_f c23 h
        refine lv_aload_n hx hb dX9_cutOne_99 rfl (lv_at hl 1 rfl) ?_
        obtain ⟨r35, μ34, h36, h⟩ := bd_ok h
        refine go_v (callV_run (As := []) (rest := []) C hl hP (hS.wide hJ).2.1 (iw hw (fi_9 hk0)) hk0 (m_X9_cutWord l w hJ hw v0 hk0 μ20 h36) mv_X9_87 ⟨rfl, rfl, by decide, by decide⟩ rfl rfl (Nat.le_of_ble_eq_true rfl) ⟨Nat.zero_le _, Nat.zero_le _⟩ dX9_cutOne_100) hS (fun H locs hP hS => ?_)
        refine lv_goto (tgt := 125) hx hb dX9_cutOne_103 (by decide) ?_
        exact r_vret C hr hP hS h dX9_cutOne_125
    · replace h := if_f c19 h
      refine lv_aload_n hx hb dX9_cutOne_83 rfl (lv_at hl 1 rfl) ?_
      refine lv_bipush (v := (22)) hx hb dX9_cutOne_84 (by decide) ?_
      refine r_putI C hP hS (iw hw (fi_9 hk0)) hk0 fp_X9_9 rfl dX9_cutOne_86 (fun H locs hP hS => ?_)
      obtain ⟨μ37, eμ37, h⟩ := vl_ex h
      have hP : fP w μ37 H := by rw [eμ37]; exact hP
      refine lv_goto (tgt := 125) hx hb dX9_cutOne_89 (by decide) ?_
      exact r_vret C hr hP hS h dX9_cutOne_125

def f_X9_next (v0 : Nat) (μ : fMem) : Option (Unit × fMem) :=
  if (μ.1 v0 7) < ((701 : Int32) - (1 : Int32)) then vl (sI μ v0 7 ((μ.1 v0 7) + (1 : Int32))) fun μ2 => gd (ixo (μ2.1 v0 7) 701) (vl (sI μ2 v0 0 (μ2.1 (v0 + 2) (Int32.toNatClampNeg (μ2.1 v0 7)))) fun μ4 => gd (ixo (μ4.1 v0 7) 701) (vl (sI μ4 v0 1 (μ4.1 (v0 + 3) (Int32.toNatClampNeg (μ4.1 v0 7)))) fun μ6 => gd (ixo (μ6.1 v0 7) 701) (vl (sI μ6 v0 2 (μ6.1 (v0 + 4) (Int32.toNatClampNeg (μ6.1 v0 7)))) fun μ8 => some ((), μ8)))) else some ((), μ)
def rm_X9_next : Room := { frames := 0, cells := 0, slots := 0, locals := 0 }
set_option maxHeartbeats 4000000 in
set_option maxRecDepth 100000 in
theorem m_X9_next (l : Launch) (w : fW) (hJ : fJ w) (hw : w.2.2.2 = sd 0) (v0 : Nat) (hk0 : kd v0 = (4, 9)) (μ : fMem) {r : Unit} {μr : fMem} (h : f_X9_next v0 μ = some (r, μr)) : Met l yX9_next (.code yX9_next cX9_next 1 none :: gw) rm_X9_next (fPc w [.ref (w.2.2.1 v0)] μ) (fQv w μr) 0 0 (fA w) := by
  refine met_of hJ (by decide) ?_ (Nat.le_of_ble_eq_true rfl)
  generalize ([.ref (w.2.2.1 v0)] : List Value).toArray = args
  intro p e s m below meth c ls C hr hP hl hS
  obtain ⟨hx, hb, hml, hown, hts, hK, -, hlk, hT⟩ := id C
  have hl : lv_has ls 1 [(0, .ref (w.2.2.1 v0))] := hl
  unfold f_X9_next at h
  refine lv_aload_n hx hb dX9_next_0 rfl (lv_at hl 0 rfl) ?_
  refine r_getI C hP (iw hw (fi_9 hk0)) hk0 fl_X9_34 (Or.inl rfl) dX9_next_1 ?_
  refine lv_aload_n hx hb dX9_next_4 rfl (lv_at hl 0 rfl) ?_
  refine r_getF (off := 2) C hP (iw hw (fi_9 hk0)) hk0 fl_X9_25 rfl rfl (zw hw) dX9_next_5 ?_
  refine r_alen (v := 701) C hP (iw hw (ff_9_4 hk0).2) (Or.inl (ff_9_4 hk0).1) (by decide) dX9_next_8 ?_
  refine lv_iconst (v := (1)) hx hb dX9_next_9 (by decide) ?_
  refine lv_isub hx hb dX9_next_10 ?_
  refine lv_icmp_lt (tgt := 15) hx hb dX9_next_11 (by decide) (fun c1 => ?_) (fun c1 => ?_)
  · replace h := if_t c1 h
    refine lv_aload_n hx hb dX9_next_15 rfl (lv_at hl 0 rfl) ?_
    refine lv_dup hx hb dX9_next_16 rfl ?_
    refine r_getI C hP (iw hw (fi_9 hk0)) hk0 fl_X9_34 (Or.inl rfl) dX9_next_17 ?_
    refine lv_iconst (v := (1)) hx hb dX9_next_20 (by decide) ?_
    refine lv_iadd hx hb dX9_next_21 ?_
    refine r_putI C hP hS (iw hw (fi_9 hk0)) hk0 fp_X9_34 rfl dX9_next_22 (fun H locs hP hS => ?_)
    obtain ⟨μ2, eμ2, h⟩ := vl_ex h
    have hP : fP w μ2 H := by rw [eμ2]; exact hP
    refine lv_aload_n hx hb dX9_next_25 rfl (lv_at hl 0 rfl) ?_
    refine lv_aload_n hx hb dX9_next_26 rfl (lv_at hl 0 rfl) ?_
    refine r_getF (off := 2) C hP (iw hw (fi_9 hk0)) hk0 fl_X9_25 rfl rfl (zw hw) dX9_next_27 ?_
    refine lv_aload_n hx hb dX9_next_30 rfl (lv_at hl 0 rfl) ?_
    refine r_getI C hP (iw hw (fi_9 hk0)) hk0 fl_X9_34 (Or.inl rfl) dX9_next_31 ?_
    obtain ⟨g3, h⟩ := gd_ok h
    refine r_iald C hP (iw hw (ff_9_4 hk0).2) (ff_9_4 hk0).1 g3 dX9_next_34 ?_
    refine r_putI C hP hS (iw hw (fi_9 hk0)) hk0 fp_X9_9 rfl dX9_next_35 (fun H locs hP hS => ?_)
    obtain ⟨μ4, eμ4, h⟩ := vl_ex h
    have hP : fP w μ4 H := by rw [eμ4]; exact hP
    refine lv_aload_n hx hb dX9_next_38 rfl (lv_at hl 0 rfl) ?_
    refine lv_aload_n hx hb dX9_next_39 rfl (lv_at hl 0 rfl) ?_
    refine r_getF (off := 3) C hP (iw hw (fi_9 hk0)) hk0 fl_X9_28 rfl rfl (zw hw) dX9_next_40 ?_
    refine lv_aload_n hx hb dX9_next_43 rfl (lv_at hl 0 rfl) ?_
    refine r_getI C hP (iw hw (fi_9 hk0)) hk0 fl_X9_34 (Or.inl rfl) dX9_next_44 ?_
    obtain ⟨g5, h⟩ := gd_ok h
    refine r_iald C hP (iw hw (ff_9_5 hk0).2) (ff_9_5 hk0).1 g5 dX9_next_47 ?_
    refine r_putI C hP hS (iw hw (fi_9 hk0)) hk0 fp_X9_15 rfl dX9_next_48 (fun H locs hP hS => ?_)
    obtain ⟨μ6, eμ6, h⟩ := vl_ex h
    have hP : fP w μ6 H := by rw [eμ6]; exact hP
    refine lv_aload_n hx hb dX9_next_51 rfl (lv_at hl 0 rfl) ?_
    refine lv_aload_n hx hb dX9_next_52 rfl (lv_at hl 0 rfl) ?_
    refine r_getF (off := 4) C hP (iw hw (fi_9 hk0)) hk0 fl_X9_31 rfl rfl (zw hw) dX9_next_53 ?_
    refine lv_aload_n hx hb dX9_next_56 rfl (lv_at hl 0 rfl) ?_
    refine r_getI C hP (iw hw (fi_9 hk0)) hk0 fl_X9_34 (Or.inl rfl) dX9_next_57 ?_
    obtain ⟨g7, h⟩ := gd_ok h
    refine r_iald C hP (iw hw (ff_9_6 hk0).2) (ff_9_6 hk0).1 g7 dX9_next_60 ?_
    refine r_putI C hP hS (iw hw (fi_9 hk0)) hk0 fp_X9_18 rfl dX9_next_61 (fun H locs hP hS => ?_)
    obtain ⟨μ8, eμ8, h⟩ := vl_ex h
    have hP : fP w μ8 H := by rw [eμ8]; exact hP
    exact r_vret C hr hP hS h dX9_next_64
  · replace h := if_f c1 h
    exact r_vret C hr hP hS h dX9_next_14

def f_X9_cut_L49 (v0 : Nat) (v3 : Int32) (μ : fMem) : Option (Nat × (Int32 × fMem)) :=
  if (701 : Int32) ≤ v3 then some (1, (v3, μ)) else if (μ.1 v0 0) = (22 : Int32) then some (1, (v3, μ)) else bd (f_X9_cutOne v0 μ) fun r9 μ8 => gd (ixo v3 701) (vl (sI μ8 (v0 + 2) (Int32.toNatClampNeg v3) (μ8.1 v0 0)) fun μ11 => gd (ixo v3 701) (vl (sI μ11 (v0 + 3) (Int32.toNatClampNeg v3) (μ11.1 v0 1)) fun μ13 => gd (ixo v3 701) (vl (sI μ13 (v0 + 4) (Int32.toNatClampNeg v3) (μ13.1 v0 2)) fun μ15 => vl (v3 + (1 : Int32)) fun x17 => some (0, (x17, μ15)))))
def f_X9_cut (v0 : Nat) (v1 : Nat) (v2 : Int32) (μ : fMem) : Option (Unit × fMem) :=
  vl (sI μ v0 9 (imx (0 : Int32) (imn v2 (imn (Int32.ofNat (kd v1).2) (700 : Int32))))) fun μ1 => gd (cpo (0 : Int32) (0 : Int32) (μ1.1 v0 9) (kd v1).2 700) (vl (cpy μ1 v1 (0 : Int32) (v0 + 5) (0 : Int32) (μ1.1 v0 9)) fun μ2 => vl (sI μ2 v0 10 (0 : Int32)) fun μ4 => vl (sI μ4 v0 0 (23 : Int32)) fun μ5 => bd (lpn (fun (q : Int32 × fMem) => f_X9_cut_L49 v0 q.1 q.2) fuel ((0 : Int32), μ5)) fun t18 q19 => (fun (x20 : Int32) (μ21 : fMem) => vl (sI μ21 v0 7 (-1 : Int32)) fun μ22 => bd (f_X9_next v0 μ22) fun r24 μ23 => some ((), μ23)) q19.1 q19.2)
def rm_X9_cut : Room := { frames := 4, cells := 0, slots := 0, locals := 121 }
set_option maxHeartbeats 4000000 in
set_option maxRecDepth 100000 in
theorem m_X9_cut (l : Launch) (w : fW) (hJ : fJ w) (hw : w.2.2.2 = sd 0) (v0 : Nat) (v1 : Nat) (v2 : Int32) (hk0 : kd v0 = (4, 9)) (hk1 : kd v1 = (0, (kd v1).2)) (hi1 : inW w.2.2.2 v1) (μ : fMem) {r : Unit} {μr : fMem} (h : f_X9_cut v0 v1 v2 μ = some (r, μr)) : Met l yX9_cut (.code yX9_cut cX9_cut 4 none :: gw) rm_X9_cut (fPc w [.ref (w.2.2.1 v0), .ref (w.2.2.1 v1), .int v2] μ) (fQv w μr) 0 0 (fA w) := by
  refine met_of hJ (by decide) ?_ (Nat.le_of_ble_eq_true rfl)
  generalize ([.ref (w.2.2.1 v0), .ref (w.2.2.1 v1), .int v2] : List Value).toArray = args
  intro p e s m below meth c ls C hr hP hl hS
  obtain ⟨hx, hb, hml, hown, hts, hK, -, hlk, hT⟩ := id C
  have hl : lv_has ls 4 [(0, .ref (w.2.2.1 v0)), (1, .ref (w.2.2.1 v1)), (2, .int v2)] := hl
  unfold f_X9_cut at h
  refine lv_aload_n hx hb dX9_cut_0 rfl (lv_at hl 0 rfl) ?_
  refine lv_iconst (v := (0)) hx hb dX9_cut_1 (by decide) ?_
  refine lv_iload_n hx hb dX9_cut_2 rfl (lv_at hl 2 rfl) ?_
  refine lv_aload_n hx hb dX9_cut_3 rfl (lv_at hl 1 rfl) ?_
  refine r_alen C hP hi1 (Or.inl hk1) rfl dX9_cut_4 ?_
  refine lv_aload_n hx hb dX9_cut_5 rfl (lv_at hl 0 rfl) ?_
  refine r_getF (off := 5) C hP (iw hw (fi_9 hk0)) hk0 fl_X9_37 rfl rfl (zw hw) dX9_cut_6 ?_
  refine r_alen (v := 700) C hP (iw hw (ff_9_8 hk0).2) (Or.inl (ff_9_8 hk0).1) (by decide) dX9_cut_9 ?_
  refine b_mmin (rest := [.int v2, .int (0 : Int32), .ref (w.2.2.1 v0)]) C hl mm_X9_58 (by decide) (Nat.le_of_ble_eq_true rfl) dX9_cut_10 ?_
  refine b_mmin (rest := [.int (0 : Int32), .ref (w.2.2.1 v0)]) C hl mm_X9_58 (by decide) (Nat.le_of_ble_eq_true rfl) dX9_cut_13 ?_
  refine b_mmax (rest := [.ref (w.2.2.1 v0)]) C hl mm_X9_64 (by decide) (Nat.le_of_ble_eq_true rfl) dX9_cut_16 ?_
  refine r_putI C hP hS (iw hw (fi_9 hk0)) hk0 fp_X9_40 rfl dX9_cut_19 (fun H locs hP hS => ?_)
  obtain ⟨μ1, eμ1, h⟩ := vl_ex h
  have hP : fP w μ1 H := by rw [eμ1]; exact hP
  refine lv_aload_n hx hb dX9_cut_22 rfl (lv_at hl 1 rfl) ?_
  refine lv_iconst (v := (0)) hx hb dX9_cut_23 (by decide) ?_
  refine lv_aload_n hx hb dX9_cut_24 rfl (lv_at hl 0 rfl) ?_
  refine r_getF (off := 5) C hP (iw hw (fi_9 hk0)) hk0 fl_X9_37 rfl rfl (zw hw) dX9_cut_25 ?_
  refine lv_iconst (v := (0)) hx hb dX9_cut_28 (by decide) ?_
  refine lv_aload_n hx hb dX9_cut_29 rfl (lv_at hl 0 rfl) ?_
  refine r_getI C hP (iw hw (fi_9 hk0)) hk0 fl_X9_40 (Or.inl rfl) dX9_cut_30 ?_
  obtain ⟨g3, h⟩ := gd_ok h
  refine r_copy C hl hP hS mc_X9_67 mc_all hi1 hk1 (iw hw (ff_9_8 hk0).2) (ff_9_8 hk0).1 g3 (by decide) (Nat.le_of_ble_eq_true rfl) dX9_cut_33 (fun H locs hP hS => ?_)
  obtain ⟨μ2, eμ2, h⟩ := vl_ex h
  have hP : fP w μ2 H := by rw [eμ2]; exact hP
  refine lv_aload_n hx hb dX9_cut_36 rfl (lv_at hl 0 rfl) ?_
  refine lv_iconst (v := (0)) hx hb dX9_cut_37 (by decide) ?_
  refine r_putI C hP hS (iw hw (fi_9 hk0)) hk0 fp_X9_43 rfl dX9_cut_38 (fun H locs hP hS => ?_)
  obtain ⟨μ4, eμ4, h⟩ := vl_ex h
  have hP : fP w μ4 H := by rw [eμ4]; exact hP
  refine lv_aload_n hx hb dX9_cut_41 rfl (lv_at hl 0 rfl) ?_
  refine lv_bipush (v := (23)) hx hb dX9_cut_42 (by decide) ?_
  refine r_putI C hP hS (iw hw (fi_9 hk0)) hk0 fp_X9_9 rfl dX9_cut_44 (fun H locs hP hS => ?_)
  obtain ⟨μ5, eμ5, h⟩ := vl_ex h
  have hP : fP w μ5 H := by rw [eμ5]; exact hP
  refine lv_iconst (v := (0)) hx hb dX9_cut_47 (by decide) ?_
  refine lv_istore_n (lv' := [(3, .int (0 : Int32)), (0, .ref (w.2.2.1 v0)), (1, .ref (w.2.2.1 v1)), (2, .int v2)]) hx hb dX9_cut_48 rfl hl (by decide) rfl (fun ls hl => ?_)
  obtain ⟨t18, q19, h26, h⟩ := bd_ok h
  refine lpn_ind (b := (fun (q : Int32 × fMem) => f_X9_cut_L49 v0 q.1 q.2)) (P := fun (q : Int32 × fMem) => WW p l e rm_X9_cut s m args below meth c (MQ below (fQv w μr) args s 0 0 (fA w)) w q.2 4 49 [] [(0, .ref (w.2.2.1 v0)), (3, .int q.1)]) (K := fun _ (q : Int32 × fMem) => WW p l e rm_X9_cut s m args below meth c (MQ below (fQv w μr) args s 0 0 (fA w)) w q.2 4 107 [] [(0, .ref (w.2.2.1 v0))]) ?_ fuel ((0 : Int32), μ5) t18 q19 h26 ?_ _ _ _ hP hS (lv_sub hl [1, 0] rfl)
  · intro q tz49 sz49 h hP0_49 hK0_49 H locs ls hP hS hl
    obtain ⟨v3, μ⟩ := q
    have hP : fP w μ H := hP
    have hl : lv_has ls 4 [(0, .ref (w.2.2.1 v0)), (3, .int v3)] := hl
    have h : f_X9_cut_L49 v0 v3 μ = some (tz49, sz49) := h
    unfold f_X9_cut_L49 at h
    refine lv_iload_n hx hb dX9_cut_49 rfl (lv_at hl 1 rfl) ?_
    refine lv_aload_n hx hb dX9_cut_50 rfl (lv_at hl 0 rfl) ?_
    refine r_getF (off := 2) C hP (iw hw (fi_9 hk0)) hk0 fl_X9_25 rfl rfl (zw hw) dX9_cut_51 ?_
    refine r_alen (v := 701) C hP (iw hw (ff_9_4 hk0).2) (Or.inl (ff_9_4 hk0).1) (by decide) dX9_cut_54 ?_
    refine lv_icmp_ge (tgt := 107) hx hb dX9_cut_55 (by decide) (fun c6 => ?_) (fun c6 => ?_)
    · replace h := if_t c6 h
      obtain ⟨rfl, rfl⟩ := leaf h
      exact (hK0_49 0 rfl) _ _ _ hP hS (lv_sub hl [0] rfl)
    · replace h := if_f c6 h
      refine lv_aload_n hx hb dX9_cut_58 rfl (lv_at hl 0 rfl) ?_
      refine r_getI C hP (iw hw (fi_9 hk0)) hk0 fl_X9_9 (Or.inl rfl) dX9_cut_59 ?_
      refine lv_bipush (v := (22)) hx hb dX9_cut_62 (by decide) ?_
      refine lv_icmp_eq (tgt := 107) hx hb dX9_cut_64 (by decide) (fun c7 => ?_) (fun c7 => ?_)
      · replace h := if_t c7 h
        obtain ⟨rfl, rfl⟩ := leaf h
        exact (hK0_49 0 rfl) _ _ _ hP hS (lv_sub hl [0] rfl)
      · replace h := if_f c7 h
        refine lv_aload_n hx hb dX9_cut_67 rfl (lv_at hl 0 rfl) ?_
        obtain ⟨r9, μ8, h10, h⟩ := bd_ok h
        refine go_v (callV_run (As := []) (rest := []) C hl hP (hS.wide hJ).2.1 (iw hw (fi_9 hk0)) hk0 (m_X9_cutOne l w hJ hw v0 hk0 μ h10) mv_X9_73 ⟨rfl, rfl, by decide, by decide⟩ rfl rfl (Nat.le_of_ble_eq_true rfl) ⟨Nat.zero_le _, Nat.zero_le _⟩ dX9_cut_68) hS (fun H locs hP hS => ?_)
        refine lv_aload_n hx hb dX9_cut_71 rfl (lv_at hl 0 rfl) ?_
        refine r_getF (off := 2) C hP (iw hw (fi_9 hk0)) hk0 fl_X9_25 rfl rfl (zw hw) dX9_cut_72 ?_
        refine lv_iload_n hx hb dX9_cut_75 rfl (lv_at hl 1 rfl) ?_
        refine lv_aload_n hx hb dX9_cut_76 rfl (lv_at hl 0 rfl) ?_
        refine r_getI C hP (iw hw (fi_9 hk0)) hk0 fl_X9_9 (Or.inl rfl) dX9_cut_77 ?_
        obtain ⟨g12, h⟩ := gd_ok h
        refine r_iast C hP hS (iw hw (ff_9_4 hk0).2) (ff_9_4 hk0).1 g12 dX9_cut_80 (fun H locs hP hS => ?_)
        obtain ⟨μ11, eμ11, h⟩ := vl_ex h
        have hP : fP w μ11 H := by rw [eμ11]; exact hP
        refine lv_aload_n hx hb dX9_cut_81 rfl (lv_at hl 0 rfl) ?_
        refine r_getF (off := 3) C hP (iw hw (fi_9 hk0)) hk0 fl_X9_28 rfl rfl (zw hw) dX9_cut_82 ?_
        refine lv_iload_n hx hb dX9_cut_85 rfl (lv_at hl 1 rfl) ?_
        refine lv_aload_n hx hb dX9_cut_86 rfl (lv_at hl 0 rfl) ?_
        refine r_getI C hP (iw hw (fi_9 hk0)) hk0 fl_X9_15 (Or.inl rfl) dX9_cut_87 ?_
        obtain ⟨g14, h⟩ := gd_ok h
        refine r_iast C hP hS (iw hw (ff_9_5 hk0).2) (ff_9_5 hk0).1 g14 dX9_cut_90 (fun H locs hP hS => ?_)
        obtain ⟨μ13, eμ13, h⟩ := vl_ex h
        have hP : fP w μ13 H := by rw [eμ13]; exact hP
        refine lv_aload_n hx hb dX9_cut_91 rfl (lv_at hl 0 rfl) ?_
        refine r_getF (off := 4) C hP (iw hw (fi_9 hk0)) hk0 fl_X9_31 rfl rfl (zw hw) dX9_cut_92 ?_
        refine lv_iload_n hx hb dX9_cut_95 rfl (lv_at hl 1 rfl) ?_
        refine lv_aload_n hx hb dX9_cut_96 rfl (lv_at hl 0 rfl) ?_
        refine r_getI C hP (iw hw (fi_9 hk0)) hk0 fl_X9_18 (Or.inl rfl) dX9_cut_97 ?_
        obtain ⟨g16, h⟩ := gd_ok h
        refine r_iast C hP hS (iw hw (ff_9_6 hk0).2) (ff_9_6 hk0).1 g16 dX9_cut_100 (fun H locs hP hS => ?_)
        obtain ⟨μ15, eμ15, h⟩ := vl_ex h
        have hP : fP w μ15 H := by rw [eμ15]; exact hP
        obtain ⟨x17, ex17⟩ : ∃ y : Int32, y = (v3 + (1 : Int32)) := ⟨_, rfl⟩
        replace h := vl_ok ex17 h
        refine lv_iinc (v := x17) (lv' := [(3, .int x17), (0, .ref (w.2.2.1 v0))]) hx hb dX9_cut_101 hl (k := 1) rfl (by rw [ex17]; rfl) (by decide) rfl (fun ls hl => ?_)
        refine lv_goto (tgt := 49) hx hb dX9_cut_104 (by decide) ?_
        obtain ⟨rfl, rfl⟩ := leaf h
        exact hP0_49 rfl _ _ _ hP hS (lv_sub hl [1, 0] rfl)
  · obtain ⟨x20, μ21⟩ := q19
    intro H locs ls hP hS hl
    have hP : fP w μ21 H := hP
    have hl : lv_has ls 4 [(0, .ref (w.2.2.1 v0))] := hl
    try dsimp only at h
    refine lv_aload_n hx hb dX9_cut_107 rfl (lv_at hl 0 rfl) ?_
    refine lv_iconst (v := (-1)) hx hb dX9_cut_108 (by decide) ?_
    refine r_putI C hP hS (iw hw (fi_9 hk0)) hk0 fp_X9_34 rfl dX9_cut_109 (fun H locs hP hS => ?_)
    obtain ⟨μ22, eμ22, h⟩ := vl_ex h
    have hP : fP w μ22 H := by rw [eμ22]; exact hP
    refine lv_aload_n hx hb dX9_cut_112 rfl (lv_at hl 0 rfl) ?_
    obtain ⟨r24, μ23, h25, h⟩ := bd_ok h
    refine go_v (callV_run (As := []) (rest := []) C hl hP (hS.wide hJ).2.1 (iw hw (fi_9 hk0)) hk0 (m_X9_next l w hJ hw v0 hk0 μ22 h25) mv_X9_76 ⟨rfl, rfl, by decide, by decide⟩ rfl rfl (Nat.le_of_ble_eq_true rfl) ⟨Nat.zero_le _, Nat.zero_le _⟩ dX9_cut_113) hS (fun H locs hP hS => ?_)
    exact r_vret C hr hP hS h dX9_cut_116

def f_X5_fail (v0 : Nat) (v1 : Int32) (μ : fMem) : Option (Int32 × fMem) :=
  vl (sI μ v0 0 v1) fun μ1 => vl (sI μ1 v0 1 (μ1.1 (v0 + 1) 1)) fun μ2 => gd (bl (0 : Int32)) (some ((0 : Int32), μ2))
def rm_X5_fail : Room := { frames := 0, cells := 0, slots := 0, locals := 0 }
set_option maxHeartbeats 4000000 in
set_option maxRecDepth 100000 in
theorem m_X5_fail (l : Launch) (w : fW) (hJ : fJ w) (hw : w.2.2.2 = sd 0) (v0 : Nat) (v1 : Int32) (hk0 : kd v0 = (4, 5)) (μ : fMem) {r : Int32} {μr : fMem} (h : f_X5_fail v0 v1 μ = some (r, μr)) : Met l yX5_fail (.code yX5_fail cX5_fail 2 (some .boolean) :: gw) rm_X5_fail (fPc w [.ref (w.2.2.1 v0), .int v1] μ) (fQi w r μr) 0 0 (fA w) := by
  refine met_of hJ (by decide) ?_ (Nat.le_of_ble_eq_true rfl)
  generalize ([.ref (w.2.2.1 v0), .int v1] : List Value).toArray = args
  intro p e s m below meth c ls C hr hP hl hS
  obtain ⟨hx, hb, hml, hown, hts, hK, -, hlk, hT⟩ := id C
  have hl : lv_has ls 2 [(0, .ref (w.2.2.1 v0)), (1, .int v1)] := hl
  unfold f_X5_fail at h
  refine lv_aload_n hx hb dX5_fail_0 rfl (lv_at hl 0 rfl) ?_
  refine lv_iload_n hx hb dX5_fail_1 rfl (lv_at hl 1 rfl) ?_
  refine r_putI C hP hS (iw hw (fi_5 hk0)) hk0 fp_X5_9 rfl dX5_fail_2 (fun H locs hP hS => ?_)
  obtain ⟨μ1, eμ1, h⟩ := vl_ex h
  have hP : fP w μ1 H := by rw [eμ1]; exact hP
  refine lv_aload_n hx hb dX5_fail_5 rfl (lv_at hl 0 rfl) ?_
  refine lv_aload_n hx hb dX5_fail_6 rfl (lv_at hl 0 rfl) ?_
  refine r_getF (off := 1) C hP (iw hw (fi_5 hk0)) hk0 fl_X5_21 rfl rfl (zw hw) dX5_fail_7 ?_
  refine r_getI C hP (iw hw (ff_5_2 hk0).2) (ff_5_2 hk0).1 fl_X5_69 (Or.inl rfl) dX5_fail_10 ?_
  refine r_putI C hP hS (iw hw (fi_5 hk0)) hk0 fp_X5_15 rfl dX5_fail_13 (fun H locs hP hS => ?_)
  obtain ⟨μ2, eμ2, h⟩ := vl_ex h
  have hP : fP w μ2 H := by rw [eμ2]; exact hP
  refine lv_iconst (v := (0)) hx hb dX5_fail_16 (by decide) ?_
  exact r_zret C hr hP hS h dX5_fail_17

def f_X5_latest (v0 : Nat) (μ : fMem) : Option (Int32 × fMem) :=
  if (μ.1 v0 6) ≤ 0 then some ((25 : Int32), μ) else if (72 : Int32) < (μ.1 v0 6) then some ((25 : Int32), μ) else gd (ixo ((μ.1 v0 6) - (1 : Int32)) 72) (some ((μ.1 (v0 + 35) (Int32.toNatClampNeg ((μ.1 v0 6) - (1 : Int32)))), μ))
def rm_X5_latest : Room := { frames := 0, cells := 0, slots := 0, locals := 0 }
set_option maxHeartbeats 4000000 in
set_option maxRecDepth 100000 in
theorem m_X5_latest (l : Launch) (w : fW) (hJ : fJ w) (hw : w.2.2.2 = sd 0) (v0 : Nat) (hk0 : kd v0 = (4, 5)) (μ : fMem) {r : Int32} {μr : fMem} (h : f_X5_latest v0 μ = some (r, μr)) : Met l yX5_latest (.code yX5_latest cX5_latest 1 (some .int) :: gw) rm_X5_latest (fPc w [.ref (w.2.2.1 v0)] μ) (fQi w r μr) 0 0 (fA w) := by
  refine met_of hJ (by decide) ?_ (Nat.le_of_ble_eq_true rfl)
  generalize ([.ref (w.2.2.1 v0)] : List Value).toArray = args
  intro p e s m below meth c ls C hr hP hl hS
  obtain ⟨hx, hb, hml, hown, hts, hK, -, hlk, hT⟩ := id C
  have hl : lv_has ls 1 [(0, .ref (w.2.2.1 v0))] := hl
  unfold f_X5_latest at h
  refine lv_aload_n hx hb dX5_latest_0 rfl (lv_at hl 0 rfl) ?_
  refine r_getI C hP (iw hw (fi_5 hk0)) hk0 fl_X5_39 (Or.inl rfl) dX5_latest_1 ?_
  refine lv_if_le (tgt := 33) hx hb dX5_latest_4 (by decide) (fun c1 => ?_) (fun c1 => ?_)
  · replace h := if_t c1 h
    refine lv_bipush (v := (25)) hx hb dX5_latest_33 (by decide) ?_
    exact r_iret C hr hP hS h dX5_latest_35
  · replace h := if_f c1 h
    refine lv_aload_n hx hb dX5_latest_7 rfl (lv_at hl 0 rfl) ?_
    refine r_getI C hP (iw hw (fi_5 hk0)) hk0 fl_X5_39 (Or.inl rfl) dX5_latest_8 ?_
    refine lv_aload_n hx hb dX5_latest_11 rfl (lv_at hl 0 rfl) ?_
    refine r_getF (off := 35) C hP (iw hw (fi_5 hk0)) hk0 fl_X5_35 rfl rfl (zw hw) dX5_latest_12 ?_
    refine r_alen (v := 72) C hP (iw hw (ff_5_5 hk0).2) (Or.inl (ff_5_5 hk0).1) (by decide) dX5_latest_15 ?_
    refine lv_icmp_gt (tgt := 33) hx hb dX5_latest_16 (by decide) (fun c2 => ?_) (fun c2 => ?_)
    · replace h := if_t c2 h
      refine lv_bipush (v := (25)) hx hb dX5_latest_33 (by decide) ?_
      exact r_iret C hr hP hS h dX5_latest_35
    · replace h := if_f c2 h
      refine lv_aload_n hx hb dX5_latest_19 rfl (lv_at hl 0 rfl) ?_
      refine r_getF (off := 35) C hP (iw hw (fi_5 hk0)) hk0 fl_X5_35 rfl rfl (zw hw) dX5_latest_20 ?_
      refine lv_aload_n hx hb dX5_latest_23 rfl (lv_at hl 0 rfl) ?_
      refine r_getI C hP (iw hw (fi_5 hk0)) hk0 fl_X5_39 (Or.inl rfl) dX5_latest_24 ?_
      refine lv_iconst (v := (1)) hx hb dX5_latest_27 (by decide) ?_
      refine lv_isub hx hb dX5_latest_28 ?_
      obtain ⟨g3, h⟩ := gd_ok h
      refine r_iald C hP (iw hw (ff_5_5 hk0).2) (ff_5_5 hk0).1 g3 dX5_latest_29 ?_
      refine lv_goto (tgt := 35) hx hb dX5_latest_30 (by decide) ?_
      exact r_iret C hr hP hS h dX5_latest_35

def f_X5_rank (v0 : Int32) (μ : fMem) : Option (Int32 × fMem) :=
  if v0 = 10 then some ((1 : Int32), μ) else if v0 = 11 then some ((2 : Int32), μ) else if v0 = 12 then some ((3 : Int32), μ) else if v0 = 13 then some ((0 : Int32), μ) else if v0 = 14 then some ((0 : Int32), μ) else if v0 = 15 then some ((0 : Int32), μ) else if v0 = 16 then some ((0 : Int32), μ) else if v0 = 17 then some ((0 : Int32), μ) else if v0 = 18 then some ((0 : Int32), μ) else if v0 = 19 then some ((0 : Int32), μ) else if v0 = 20 then some ((0 : Int32), μ) else if v0 = 21 then some ((0 : Int32), μ) else if v0 = 22 then some ((0 : Int32), μ) else if v0 = 23 then some ((0 : Int32), μ) else if v0 = 24 then some ((0 : Int32), μ) else if v0 = 25 then some ((0 : Int32), μ) else if v0 = 26 then some ((0 : Int32), μ) else if v0 = 27 then some ((4 : Int32), μ) else if v0 = 28 then some ((4 : Int32), μ) else if v0 = 29 then some ((4 : Int32), μ) else if v0 = 30 then some ((4 : Int32), μ) else if v0 = 31 then some ((4 : Int32), μ) else if v0 = 32 then some ((4 : Int32), μ) else if v0 = 33 then some ((5 : Int32), μ) else if v0 = 34 then some ((5 : Int32), μ) else if v0 = 35 then some ((6 : Int32), μ) else if v0 = 36 then some ((6 : Int32), μ) else some ((0 : Int32), μ)
def rm_X5_rank : Room := { frames := 0, cells := 0, slots := 0, locals := 0 }
set_option maxHeartbeats 4000000 in
set_option maxRecDepth 100000 in
theorem m_X5_rank (l : Launch) (w : fW) (hJ : fJ w) (hw : w.2.2.2 = sd 0) (v0 : Int32) (μ : fMem) {r : Int32} {μr : fMem} (h : f_X5_rank v0 μ = some (r, μr)) : Met l yX5_rank (.code yX5_rank cX5_rank 1 (some .int) :: gw) rm_X5_rank (fPc w [.int v0] μ) (fQi w r μr) 0 0 (fA w) := by
  refine met_of hJ (by decide) ?_ (Nat.le_of_ble_eq_true rfl)
  generalize ([.int v0] : List Value).toArray = args
  intro p e s m below meth c ls C hr hP hl hS
  obtain ⟨hx, hb, hml, hown, hts, hK, -, hlk, hT⟩ := id C
  have hl : lv_has ls 1 [(0, .int v0)] := hl
  unfold f_X5_rank at h
  refine lv_iload_n hx hb dX5_rank_0 rfl (lv_at hl 0 rfl) ?_
  by_cases c1 : v0 = 10
  · replace h := if_t c1 h
    refine lv_tableIn (off := 123) (tgt := 124) hx hb dX5_rank_1 (by rw [c1]; decide) (by rw [c1]; decide) (by rw [c1]; rfl) (by decide) ?_
    refine lv_iconst (v := (1)) hx hb dX5_rank_124 (by decide) ?_
    exact r_iret C hr hP hS h dX5_rank_125
  replace h := if_f c1 h
  by_cases c2 : v0 = 11
  · replace h := if_t c2 h
    refine lv_tableIn (off := 125) (tgt := 126) hx hb dX5_rank_1 (by rw [c2]; decide) (by rw [c2]; decide) (by rw [c2]; rfl) (by decide) ?_
    refine lv_iconst (v := (2)) hx hb dX5_rank_126 (by decide) ?_
    exact r_iret C hr hP hS h dX5_rank_127
  replace h := if_f c2 h
  by_cases c3 : v0 = 12
  · replace h := if_t c3 h
    refine lv_tableIn (off := 127) (tgt := 128) hx hb dX5_rank_1 (by rw [c3]; decide) (by rw [c3]; decide) (by rw [c3]; rfl) (by decide) ?_
    refine lv_iconst (v := (3)) hx hb dX5_rank_128 (by decide) ?_
    exact r_iret C hr hP hS h dX5_rank_129
  replace h := if_f c3 h
  by_cases c4 : v0 = 13
  · replace h := if_t c4 h
    refine lv_tableIn (off := 136) (tgt := 137) hx hb dX5_rank_1 (by rw [c4]; decide) (by rw [c4]; decide) (by rw [c4]; rfl) (by decide) ?_
    refine lv_iconst (v := (0)) hx hb dX5_rank_137 (by decide) ?_
    exact r_iret C hr hP hS h dX5_rank_138
  replace h := if_f c4 h
  by_cases c5 : v0 = 14
  · replace h := if_t c5 h
    refine lv_tableIn (off := 136) (tgt := 137) hx hb dX5_rank_1 (by rw [c5]; decide) (by rw [c5]; decide) (by rw [c5]; rfl) (by decide) ?_
    refine lv_iconst (v := (0)) hx hb dX5_rank_137 (by decide) ?_
    exact r_iret C hr hP hS h dX5_rank_138
  replace h := if_f c5 h
  by_cases c6 : v0 = 15
  · replace h := if_t c6 h
    refine lv_tableIn (off := 136) (tgt := 137) hx hb dX5_rank_1 (by rw [c6]; decide) (by rw [c6]; decide) (by rw [c6]; rfl) (by decide) ?_
    refine lv_iconst (v := (0)) hx hb dX5_rank_137 (by decide) ?_
    exact r_iret C hr hP hS h dX5_rank_138
  replace h := if_f c6 h
  by_cases c7 : v0 = 16
  · replace h := if_t c7 h
    refine lv_tableIn (off := 136) (tgt := 137) hx hb dX5_rank_1 (by rw [c7]; decide) (by rw [c7]; decide) (by rw [c7]; rfl) (by decide) ?_
    refine lv_iconst (v := (0)) hx hb dX5_rank_137 (by decide) ?_
    exact r_iret C hr hP hS h dX5_rank_138
  replace h := if_f c7 h
  by_cases c8 : v0 = 17
  · replace h := if_t c8 h
    refine lv_tableIn (off := 136) (tgt := 137) hx hb dX5_rank_1 (by rw [c8]; decide) (by rw [c8]; decide) (by rw [c8]; rfl) (by decide) ?_
    refine lv_iconst (v := (0)) hx hb dX5_rank_137 (by decide) ?_
    exact r_iret C hr hP hS h dX5_rank_138
  replace h := if_f c8 h
  by_cases c9 : v0 = 18
  · replace h := if_t c9 h
    refine lv_tableIn (off := 136) (tgt := 137) hx hb dX5_rank_1 (by rw [c9]; decide) (by rw [c9]; decide) (by rw [c9]; rfl) (by decide) ?_
    refine lv_iconst (v := (0)) hx hb dX5_rank_137 (by decide) ?_
    exact r_iret C hr hP hS h dX5_rank_138
  replace h := if_f c9 h
  by_cases c10 : v0 = 19
  · replace h := if_t c10 h
    refine lv_tableIn (off := 136) (tgt := 137) hx hb dX5_rank_1 (by rw [c10]; decide) (by rw [c10]; decide) (by rw [c10]; rfl) (by decide) ?_
    refine lv_iconst (v := (0)) hx hb dX5_rank_137 (by decide) ?_
    exact r_iret C hr hP hS h dX5_rank_138
  replace h := if_f c10 h
  by_cases c11 : v0 = 20
  · replace h := if_t c11 h
    refine lv_tableIn (off := 136) (tgt := 137) hx hb dX5_rank_1 (by rw [c11]; decide) (by rw [c11]; decide) (by rw [c11]; rfl) (by decide) ?_
    refine lv_iconst (v := (0)) hx hb dX5_rank_137 (by decide) ?_
    exact r_iret C hr hP hS h dX5_rank_138
  replace h := if_f c11 h
  by_cases c12 : v0 = 21
  · replace h := if_t c12 h
    refine lv_tableIn (off := 136) (tgt := 137) hx hb dX5_rank_1 (by rw [c12]; decide) (by rw [c12]; decide) (by rw [c12]; rfl) (by decide) ?_
    refine lv_iconst (v := (0)) hx hb dX5_rank_137 (by decide) ?_
    exact r_iret C hr hP hS h dX5_rank_138
  replace h := if_f c12 h
  by_cases c13 : v0 = 22
  · replace h := if_t c13 h
    refine lv_tableIn (off := 136) (tgt := 137) hx hb dX5_rank_1 (by rw [c13]; decide) (by rw [c13]; decide) (by rw [c13]; rfl) (by decide) ?_
    refine lv_iconst (v := (0)) hx hb dX5_rank_137 (by decide) ?_
    exact r_iret C hr hP hS h dX5_rank_138
  replace h := if_f c13 h
  by_cases c14 : v0 = 23
  · replace h := if_t c14 h
    refine lv_tableIn (off := 136) (tgt := 137) hx hb dX5_rank_1 (by rw [c14]; decide) (by rw [c14]; decide) (by rw [c14]; rfl) (by decide) ?_
    refine lv_iconst (v := (0)) hx hb dX5_rank_137 (by decide) ?_
    exact r_iret C hr hP hS h dX5_rank_138
  replace h := if_f c14 h
  by_cases c15 : v0 = 24
  · replace h := if_t c15 h
    refine lv_tableIn (off := 136) (tgt := 137) hx hb dX5_rank_1 (by rw [c15]; decide) (by rw [c15]; decide) (by rw [c15]; rfl) (by decide) ?_
    refine lv_iconst (v := (0)) hx hb dX5_rank_137 (by decide) ?_
    exact r_iret C hr hP hS h dX5_rank_138
  replace h := if_f c15 h
  by_cases c16 : v0 = 25
  · replace h := if_t c16 h
    refine lv_tableIn (off := 136) (tgt := 137) hx hb dX5_rank_1 (by rw [c16]; decide) (by rw [c16]; decide) (by rw [c16]; rfl) (by decide) ?_
    refine lv_iconst (v := (0)) hx hb dX5_rank_137 (by decide) ?_
    exact r_iret C hr hP hS h dX5_rank_138
  replace h := if_f c16 h
  by_cases c17 : v0 = 26
  · replace h := if_t c17 h
    refine lv_tableIn (off := 136) (tgt := 137) hx hb dX5_rank_1 (by rw [c17]; decide) (by rw [c17]; decide) (by rw [c17]; rfl) (by decide) ?_
    refine lv_iconst (v := (0)) hx hb dX5_rank_137 (by decide) ?_
    exact r_iret C hr hP hS h dX5_rank_138
  replace h := if_f c17 h
  by_cases c18 : v0 = 27
  · replace h := if_t c18 h
    refine lv_tableIn (off := 129) (tgt := 130) hx hb dX5_rank_1 (by rw [c18]; decide) (by rw [c18]; decide) (by rw [c18]; rfl) (by decide) ?_
    refine lv_iconst (v := (4)) hx hb dX5_rank_130 (by decide) ?_
    exact r_iret C hr hP hS h dX5_rank_131
  replace h := if_f c18 h
  by_cases c19 : v0 = 28
  · replace h := if_t c19 h
    refine lv_tableIn (off := 129) (tgt := 130) hx hb dX5_rank_1 (by rw [c19]; decide) (by rw [c19]; decide) (by rw [c19]; rfl) (by decide) ?_
    refine lv_iconst (v := (4)) hx hb dX5_rank_130 (by decide) ?_
    exact r_iret C hr hP hS h dX5_rank_131
  replace h := if_f c19 h
  by_cases c20 : v0 = 29
  · replace h := if_t c20 h
    refine lv_tableIn (off := 129) (tgt := 130) hx hb dX5_rank_1 (by rw [c20]; decide) (by rw [c20]; decide) (by rw [c20]; rfl) (by decide) ?_
    refine lv_iconst (v := (4)) hx hb dX5_rank_130 (by decide) ?_
    exact r_iret C hr hP hS h dX5_rank_131
  replace h := if_f c20 h
  by_cases c21 : v0 = 30
  · replace h := if_t c21 h
    refine lv_tableIn (off := 129) (tgt := 130) hx hb dX5_rank_1 (by rw [c21]; decide) (by rw [c21]; decide) (by rw [c21]; rfl) (by decide) ?_
    refine lv_iconst (v := (4)) hx hb dX5_rank_130 (by decide) ?_
    exact r_iret C hr hP hS h dX5_rank_131
  replace h := if_f c21 h
  by_cases c22 : v0 = 31
  · replace h := if_t c22 h
    refine lv_tableIn (off := 129) (tgt := 130) hx hb dX5_rank_1 (by rw [c22]; decide) (by rw [c22]; decide) (by rw [c22]; rfl) (by decide) ?_
    refine lv_iconst (v := (4)) hx hb dX5_rank_130 (by decide) ?_
    exact r_iret C hr hP hS h dX5_rank_131
  replace h := if_f c22 h
  by_cases c23 : v0 = 32
  · replace h := if_t c23 h
    refine lv_tableIn (off := 129) (tgt := 130) hx hb dX5_rank_1 (by rw [c23]; decide) (by rw [c23]; decide) (by rw [c23]; rfl) (by decide) ?_
    refine lv_iconst (v := (4)) hx hb dX5_rank_130 (by decide) ?_
    exact r_iret C hr hP hS h dX5_rank_131
  replace h := if_f c23 h
  by_cases c24 : v0 = 33
  · replace h := if_t c24 h
    refine lv_tableIn (off := 131) (tgt := 132) hx hb dX5_rank_1 (by rw [c24]; decide) (by rw [c24]; decide) (by rw [c24]; rfl) (by decide) ?_
    refine lv_iconst (v := (5)) hx hb dX5_rank_132 (by decide) ?_
    exact r_iret C hr hP hS h dX5_rank_133
  replace h := if_f c24 h
  by_cases c25 : v0 = 34
  · replace h := if_t c25 h
    refine lv_tableIn (off := 131) (tgt := 132) hx hb dX5_rank_1 (by rw [c25]; decide) (by rw [c25]; decide) (by rw [c25]; rfl) (by decide) ?_
    refine lv_iconst (v := (5)) hx hb dX5_rank_132 (by decide) ?_
    exact r_iret C hr hP hS h dX5_rank_133
  replace h := if_f c25 h
  by_cases c26 : v0 = 35
  · replace h := if_t c26 h
    refine lv_tableIn (off := 133) (tgt := 134) hx hb dX5_rank_1 (by rw [c26]; decide) (by rw [c26]; decide) (by rw [c26]; rfl) (by decide) ?_
    refine lv_bipush (v := (6)) hx hb dX5_rank_134 (by decide) ?_
    exact r_iret C hr hP hS h dX5_rank_136
  replace h := if_f c26 h
  by_cases c27 : v0 = 36
  · replace h := if_t c27 h
    refine lv_tableIn (off := 133) (tgt := 134) hx hb dX5_rank_1 (by rw [c27]; decide) (by rw [c27]; decide) (by rw [c27]; rfl) (by decide) ?_
    refine lv_bipush (v := (6)) hx hb dX5_rank_134 (by decide) ?_
    exact r_iret C hr hP hS h dX5_rank_136
  replace h := if_f c27 h
  have ho : Int32.toInt v0 < 10 ∨ 36 < Int32.toInt v0 := tb_out _ _ _ (fun v h1 h2 => by
    rcases (show v = 10 ∨ v = 11 ∨ v = 12 ∨ v = 13 ∨ v = 14 ∨ v = 15 ∨ v = 16 ∨ v = 17 ∨ v = 18 ∨ v = 19 ∨ v = 20 ∨ v = 21 ∨ v = 22 ∨ v = 23 ∨ v = 24 ∨ v = 25 ∨ v = 26 ∨ v = 27 ∨ v = 28 ∨ v = 29 ∨ v = 30 ∨ v = 31 ∨ v = 32 ∨ v = 33 ∨ v = 34 ∨ v = 35 ∨ v = 36 by omega) with rfl | rfl | rfl | rfl | rfl | rfl | rfl | rfl | rfl | rfl | rfl | rfl | rfl | rfl | rfl | rfl | rfl | rfl | rfl | rfl | rfl | rfl | rfl | rfl | rfl | rfl | rfl
    · exact c1
    · exact c2
    · exact c3
    · exact c4
    · exact c5
    · exact c6
    · exact c7
    · exact c8
    · exact c9
    · exact c10
    · exact c11
    · exact c12
    · exact c13
    · exact c14
    · exact c15
    · exact c16
    · exact c17
    · exact c18
    · exact c19
    · exact c20
    · exact c21
    · exact c22
    · exact c23
    · exact c24
    · exact c25
    · exact c26
    · exact c27)
  refine lv_tableOut (tgt := 137) hx hb dX5_rank_1 ho (by decide) ?_
  refine lv_iconst (v := (0)) hx hb dX5_rank_137 (by decide) ?_
  exact r_iret C hr hP hS h dX5_rank_138

def f_X5_settle_L2 (v0 : Nat) (v1 : Nat) (v2 : Int32) (v3 : Int32) (μ : fMem) : Option (Nat × (Int32 × fMem)) :=
  if (72 : Int32) ≤ v3 then some (1, (v3, μ)) else if (μ.1 v0 6) ≤ 0 then some (1, (v3, μ)) else bd (f_X5_latest v0 μ) fun r4 μ3 => bd (f_X5_rank r4 μ3) fun r7 μ6 => if r7 < v2 then some (1, (v3, μ6)) else bd (f_X5_latest v0 μ6) fun r11 μ10 => bd (f_X3_add v1 r11 (0 : Int32) μ10) fun r14 μ13 => vl (sI μ13 v0 6 ((μ13.1 v0 6) - (1 : Int32))) fun μ16 => vl (v3 + (1 : Int32)) fun x17 => some (0, (x17, μ16))
def f_X5_settle (v0 : Nat) (v1 : Nat) (v2 : Int32) (μ : fMem) : Option (Unit × fMem) :=
  bd (lpn (fun (q : Int32 × fMem) => f_X5_settle_L2 v0 v1 v2 q.1 q.2) fuel ((0 : Int32), μ)) fun t18 q19 => (fun (x20 : Int32) (μ21 : fMem) => some ((), μ21)) q19.1 q19.2
def rm_X5_settle : Room := { frames := 1, cells := 0, slots := 0, locals := 22 }
set_option maxHeartbeats 4000000 in
set_option maxRecDepth 100000 in
theorem m_X5_settle (l : Launch) (w : fW) (hJ : fJ w) (hw : w.2.2.2 = sd 0) (v0 : Nat) (v1 : Nat) (v2 : Int32) (hk0 : kd v0 = (4, 5)) (hk1 : kd v1 = (4, 3)) (μ : fMem) {r : Unit} {μr : fMem} (h : f_X5_settle v0 v1 v2 μ = some (r, μr)) : Met l yX5_settle (.code yX5_settle cX5_settle 4 none :: gw) rm_X5_settle (fPc w [.ref (w.2.2.1 v0), .ref (w.2.2.1 v1), .int v2] μ) (fQv w μr) 0 0 (fA w) := by
  refine met_of hJ (by decide) ?_ (Nat.le_of_ble_eq_true rfl)
  generalize ([.ref (w.2.2.1 v0), .ref (w.2.2.1 v1), .int v2] : List Value).toArray = args
  intro p e s m below meth c ls C hr hP hl hS
  obtain ⟨hx, hb, hml, hown, hts, hK, -, hlk, hT⟩ := id C
  have hl : lv_has ls 4 [(0, .ref (w.2.2.1 v0)), (1, .ref (w.2.2.1 v1)), (2, .int v2)] := hl
  unfold f_X5_settle at h
  refine lv_iconst (v := (0)) hx hb dX5_settle_0 (by decide) ?_
  refine lv_istore_n (lv' := [(3, .int (0 : Int32)), (0, .ref (w.2.2.1 v0)), (1, .ref (w.2.2.1 v1)), (2, .int v2)]) hx hb dX5_settle_1 rfl hl (by decide) rfl (fun ls hl => ?_)
  obtain ⟨t18, q19, h22, h⟩ := bd_ok h
  refine lpn_ind (b := (fun (q : Int32 × fMem) => f_X5_settle_L2 v0 v1 v2 q.1 q.2)) (P := fun (q : Int32 × fMem) => WW p l e rm_X5_settle s m args below meth c (MQ below (fQv w μr) args s 0 0 (fA w)) w q.2 4 2 [] [(0, .ref (w.2.2.1 v0)), (1, .ref (w.2.2.1 v1)), (2, .int v2), (3, .int q.1)]) (K := fun _ (q : Int32 × fMem) => WW p l e rm_X5_settle s m args below meth c (MQ below (fQv w μr) args s 0 0 (fA w)) w q.2 4 54 [] []) ?_ fuel ((0 : Int32), μ) t18 q19 h22 ?_ _ _ _ hP hS (lv_sub hl [1, 2, 3, 0] rfl)
  · intro q tz2 sz2 h hP0_2 hK0_2 H locs ls hP hS hl
    obtain ⟨v3, μ⟩ := q
    have hP : fP w μ H := hP
    have hl : lv_has ls 4 [(0, .ref (w.2.2.1 v0)), (1, .ref (w.2.2.1 v1)), (2, .int v2), (3, .int v3)] := hl
    have h : f_X5_settle_L2 v0 v1 v2 v3 μ = some (tz2, sz2) := h
    unfold f_X5_settle_L2 at h
    refine lv_iload_n hx hb dX5_settle_2 rfl (lv_at hl 3 rfl) ?_
    refine lv_aload_n hx hb dX5_settle_3 rfl (lv_at hl 0 rfl) ?_
    refine r_getF (off := 35) C hP (iw hw (fi_5 hk0)) hk0 fl_X5_35 rfl rfl (zw hw) dX5_settle_4 ?_
    refine r_alen (v := 72) C hP (iw hw (ff_5_5 hk0).2) (Or.inl (ff_5_5 hk0).1) (by decide) dX5_settle_7 ?_
    refine lv_icmp_ge (tgt := 54) hx hb dX5_settle_8 (by decide) (fun c1 => ?_) (fun c1 => ?_)
    · replace h := if_t c1 h
      obtain ⟨rfl, rfl⟩ := leaf h
      exact (hK0_2 0 rfl) _ _ _ hP hS (lv_sub hl [] rfl)
    · replace h := if_f c1 h
      refine lv_aload_n hx hb dX5_settle_11 rfl (lv_at hl 0 rfl) ?_
      refine r_getI C hP (iw hw (fi_5 hk0)) hk0 fl_X5_39 (Or.inl rfl) dX5_settle_12 ?_
      refine lv_if_le (tgt := 54) hx hb dX5_settle_15 (by decide) (fun c2 => ?_) (fun c2 => ?_)
      · replace h := if_t c2 h
        obtain ⟨rfl, rfl⟩ := leaf h
        exact (hK0_2 0 rfl) _ _ _ hP hS (lv_sub hl [] rfl)
      · replace h := if_f c2 h
        refine lv_aload_n hx hb dX5_settle_18 rfl (lv_at hl 0 rfl) ?_
        obtain ⟨r4, μ3, h5, h⟩ := bd_ok h
        refine go_i (callV_run (As := []) (rest := []) C hl hP (hS.wide hJ).2.1 (iw hw (fi_5 hk0)) hk0 (m_X5_latest l w hJ hw v0 hk0 μ h5) mv_X5_178 ⟨rfl, rfl, by decide, by decide⟩ rfl rfl (Nat.le_of_ble_eq_true rfl) ⟨Nat.zero_le _, Nat.zero_le _⟩ dX5_settle_19) hS (fun H locs hP hS => ?_)
        obtain ⟨r7, μ6, h8, h⟩ := bd_ok h
        refine go_i (callS_run (As := [.int r4]) (rest := []) C hl hP (hS.wide hJ).2.1 (m_X5_rank l w hJ hw r4  μ3 h8) ms_X5_182 ⟨rfl, rfl, by decide, by decide⟩ rfl rfl (Nat.le_of_ble_eq_true rfl) ⟨Nat.zero_le _, Nat.zero_le _⟩ dX5_settle_22) hS (fun H locs hP hS => ?_)
        refine lv_iload_n hx hb dX5_settle_25 rfl (lv_at hl 2 rfl) ?_
        refine lv_icmp_lt (tgt := 54) hx hb dX5_settle_26 (by decide) (fun c9 => ?_) (fun c9 => ?_)
        · replace h := if_t c9 h
          obtain ⟨rfl, rfl⟩ := leaf h
          exact (hK0_2 0 rfl) _ _ _ hP hS (lv_sub hl [] rfl)
        · replace h := if_f c9 h
          refine lv_aload_n hx hb dX5_settle_29 rfl (lv_at hl 1 rfl) ?_
          refine lv_aload_n hx hb dX5_settle_30 rfl (lv_at hl 0 rfl) ?_
          obtain ⟨r11, μ10, h12, h⟩ := bd_ok h
          refine go_i (callV_run (As := []) (rest := [.ref (w.2.2.1 v1)]) C hl hP (hS.wide hJ).2.1 (iw hw (fi_5 hk0)) hk0 (m_X5_latest l w hJ hw v0 hk0 μ6 h12) mv_X5_178 ⟨rfl, rfl, by decide, by decide⟩ rfl rfl (Nat.le_of_ble_eq_true rfl) ⟨Nat.zero_le _, Nat.zero_le _⟩ dX5_settle_31) hS (fun H locs hP hS => ?_)
          refine lv_iconst (v := (0)) hx hb dX5_settle_34 (by decide) ?_
          obtain ⟨r14, μ13, h15, h⟩ := bd_ok h
          refine go_v (callV_run (As := [.int r11, .int (0 : Int32)]) (rest := []) C hl hP (hS.wide hJ).2.1 (iw hw (fi_3 hk1)) hk1 (m_X3_add l w hJ hw v1 r11 (0 : Int32) hk1 μ10 h15) mv_X5_188 ⟨rfl, rfl, by decide, by decide⟩ rfl rfl (Nat.le_of_ble_eq_true rfl) ⟨Nat.zero_le _, Nat.zero_le _⟩ dX5_settle_35) hS (fun H locs hP hS => ?_)
          refine lv_aload_n hx hb dX5_settle_38 rfl (lv_at hl 0 rfl) ?_
          refine lv_dup hx hb dX5_settle_39 rfl ?_
          refine r_getI C hP (iw hw (fi_5 hk0)) hk0 fl_X5_39 (Or.inl rfl) dX5_settle_40 ?_
          refine lv_iconst (v := (1)) hx hb dX5_settle_43 (by decide) ?_
          refine lv_isub hx hb dX5_settle_44 ?_
          refine r_putI C hP hS (iw hw (fi_5 hk0)) hk0 fp_X5_39 rfl dX5_settle_45 (fun H locs hP hS => ?_)
          obtain ⟨μ16, eμ16, h⟩ := vl_ex h
          have hP : fP w μ16 H := by rw [eμ16]; exact hP
          obtain ⟨x17, ex17⟩ : ∃ y : Int32, y = (v3 + (1 : Int32)) := ⟨_, rfl⟩
          replace h := vl_ok ex17 h
          refine lv_iinc (v := x17) (lv' := [(3, .int x17), (0, .ref (w.2.2.1 v0)), (1, .ref (w.2.2.1 v1)), (2, .int v2)]) hx hb dX5_settle_48 hl (k := 3) rfl (by rw [ex17]; rfl) (by decide) rfl (fun ls hl => ?_)
          refine lv_goto (tgt := 2) hx hb dX5_settle_51 (by decide) ?_
          obtain ⟨rfl, rfl⟩ := leaf h
          exact hP0_2 rfl _ _ _ hP hS (lv_sub hl [1, 2, 3, 0] rfl)
  · obtain ⟨x20, μ21⟩ := q19
    intro H locs ls hP hS hl
    have hP : fP w μ21 H := hP
    have hl : lv_has ls 4 [] := hl
    try dsimp only at h
    exact r_vret C hr hP hS h dX5_settle_54

def f_X5_countKnot (v0 : Nat) (μ : fMem) : Option (Int32 × fMem) :=
  vl (μ.2.2 v0 3) fun x1 => gd (kd x1 = (4, 2)) (if (μ.1 x1 2) < (64 : Int32) then vl (μ.2.2 v0 3) fun x4 => gd (kd x4 = (4, 2)) (vl (sI μ x4 2 ((μ.1 x4 2) + (1 : Int32))) fun μ6 => gd (bl (1 : Int32)) (some ((1 : Int32), μ6))) else bd (f_X5_fail v0 (2 : Int32) μ) fun r8 μ7 => gd (bl r8) (some (r8, μ7)))
def rm_X5_countKnot : Room := { frames := 1, cells := 0, slots := 0, locals := 21 }
set_option maxHeartbeats 4000000 in
set_option maxRecDepth 100000 in
theorem m_X5_countKnot (l : Launch) (w : fW) (hJ : fJ w) (hw : w.2.2.2 = sd 0) (v0 : Nat) (hk0 : kd v0 = (4, 5)) (μ : fMem) {r : Int32} {μr : fMem} (h : f_X5_countKnot v0 μ = some (r, μr)) : Met l yX5_countKnot (.code yX5_countKnot cX5_countKnot 1 (some .boolean) :: gw) rm_X5_countKnot (fPc w [.ref (w.2.2.1 v0)] μ) (fQi w r μr) 0 0 (fA w) := by
  refine met_of hJ (by decide) ?_ (Nat.le_of_ble_eq_true rfl)
  generalize ([.ref (w.2.2.1 v0)] : List Value).toArray = args
  intro p e s m below meth c ls C hr hP hl hS
  obtain ⟨hx, hb, hml, hown, hts, hK, -, hlk, hT⟩ := id C
  have hl : lv_has ls 1 [(0, .ref (w.2.2.1 v0))] := hl
  unfold f_X5_countKnot at h
  refine lv_aload_n hx hb dX5_countKnot_0 rfl (lv_at hl 0 rfl) ?_
  refine r_getRx C hP (iw hw (fi_5 hk0)) hk0 fl_X5_28 rfl (zw hw) dX5_countKnot_1 (fun x1 ex1 => ?_)
  replace h := vl_ok ex1 h
  obtain ⟨g2, h⟩ := gd_ok h
  refine r_getI C hP (iw hw (fi_2 g2)) g2 fl_X5_192 (Or.inl rfl) dX5_countKnot_4 ?_
  refine lv_bipush (v := (64)) hx hb dX5_countKnot_7 (by decide) ?_
  refine lv_icmp_lt (tgt := 18) hx hb dX5_countKnot_9 (by decide) (fun c3 => ?_) (fun c3 => ?_)
  · replace h := if_t c3 h
    refine lv_aload_n hx hb dX5_countKnot_18 rfl (lv_at hl 0 rfl) ?_
    refine r_getRx C hP (iw hw (fi_5 hk0)) hk0 fl_X5_28 rfl (zw hw) dX5_countKnot_19 (fun x4 ex4 => ?_)
    replace h := vl_ok ex4 h
    obtain ⟨g5, h⟩ := gd_ok h
    refine lv_dup hx hb dX5_countKnot_22 rfl ?_
    refine r_getI C hP (iw hw (fi_2 g5)) g5 fl_X5_192 (Or.inl rfl) dX5_countKnot_23 ?_
    refine lv_iconst (v := (1)) hx hb dX5_countKnot_26 (by decide) ?_
    refine lv_iadd hx hb dX5_countKnot_27 ?_
    refine r_putI C hP hS (iw hw (fi_2 g5)) g5 fp_X5_192 rfl dX5_countKnot_28 (fun H locs hP hS => ?_)
    obtain ⟨μ6, eμ6, h⟩ := vl_ex h
    have hP : fP w μ6 H := by rw [eμ6]; exact hP
    refine lv_iconst (v := (1)) hx hb dX5_countKnot_31 (by decide) ?_
    exact r_zret C hr hP hS h dX5_countKnot_32
  · replace h := if_f c3 h
    refine lv_aload_n hx hb dX5_countKnot_12 rfl (lv_at hl 0 rfl) ?_
    refine lv_iconst (v := (2)) hx hb dX5_countKnot_13 (by decide) ?_
    obtain ⟨r8, μ7, h9, h⟩ := bd_ok h
    refine go_i (callV_run (As := [.int (2 : Int32)]) (rest := []) C hl hP (hS.wide hJ).2.1 (iw hw (fi_5 hk0)) hk0 (m_X5_fail l w hJ hw v0 (2 : Int32) hk0 μ h9) mv_X5_59 ⟨rfl, rfl, by decide, by decide⟩ rfl rfl (Nat.le_of_ble_eq_true rfl) ⟨Nat.zero_le _, Nat.zero_le _⟩ dX5_countKnot_14) hS (fun H locs hP hS => ?_)
    exact r_zret C hr hP hS h dX5_countKnot_17

def f_X5_await_j19 (v0 : Nat) (μ : fMem) : Option (Int32 × fMem) :=
  bd (f_X5_fail v0 (2 : Int32) μ) fun r7 μ6 => gd (bl r7) (some (r7, μ6))
def f_X5_await (v0 : Nat) (v1 : Int32) (μ : fMem) : Option (Int32 × fMem) :=
  if (μ.1 v0 6) < 0 then f_X5_await_j19 v0 μ else if (μ.1 v0 6) < (72 : Int32) then gd (ixo (μ.1 v0 6) 72) (vl (sI μ (v0 + 35) (Int32.toNatClampNeg (μ.1 v0 6)) v1) fun μ3 => vl (sI μ3 v0 6 ((μ3.1 v0 6) + (1 : Int32))) fun μ5 => gd (bl (1 : Int32)) (some ((1 : Int32), μ5))) else f_X5_await_j19 v0 μ
def rm_X5_await : Room := { frames := 1, cells := 0, slots := 0, locals := 21 }
set_option maxHeartbeats 4000000 in
set_option maxRecDepth 100000 in
theorem m_X5_await (l : Launch) (w : fW) (hJ : fJ w) (hw : w.2.2.2 = sd 0) (v0 : Nat) (v1 : Int32) (hk0 : kd v0 = (4, 5)) (μ : fMem) {r : Int32} {μr : fMem} (h : f_X5_await v0 v1 μ = some (r, μr)) : Met l yX5_await (.code yX5_await cX5_await 2 (some .boolean) :: gw) rm_X5_await (fPc w [.ref (w.2.2.1 v0), .int v1] μ) (fQi w r μr) 0 0 (fA w) := by
  refine met_of hJ (by decide) ?_ (Nat.le_of_ble_eq_true rfl)
  generalize ([.ref (w.2.2.1 v0), .int v1] : List Value).toArray = args
  intro p e s m below meth c ls C hr hP hl hS
  obtain ⟨hx, hb, hml, hown, hts, hK, -, hlk, hT⟩ := id C
  have hl : lv_has ls 2 [(0, .ref (w.2.2.1 v0)), (1, .int v1)] := hl
  unfold f_X5_await at h
  have J19 : ∀  (μ : fMem), f_X5_await_j19 v0 μ = some (r, μr) → WW p l e rm_X5_await s m args below meth c (MQ below (fQi w r μr) args s 0 0 (fA w)) w μ 2 19 [] [(0, .ref (w.2.2.1 v0))] := by
    intro  μ  h H locs ls hP hS hl
    unfold f_X5_await_j19 at h
    refine lv_aload_n hx hb dX5_await_19 rfl (lv_at hl 0 rfl) ?_
    refine lv_iconst (v := (2)) hx hb dX5_await_20 (by decide) ?_
    obtain ⟨r7, μ6, h8, h⟩ := bd_ok h
    refine go_i (callV_run (As := [.int (2 : Int32)]) (rest := []) C hl hP (hS.wide hJ).2.1 (iw hw (fi_5 hk0)) hk0 (m_X5_fail l w hJ hw v0 (2 : Int32) hk0 μ h8) mv_X5_59 ⟨rfl, rfl, by decide, by decide⟩ rfl rfl (Nat.le_of_ble_eq_true rfl) ⟨Nat.zero_le _, Nat.zero_le _⟩ dX5_await_21) hS (fun H locs hP hS => ?_)
    exact r_zret C hr hP hS h dX5_await_24
  refine lv_aload_n hx hb dX5_await_0 rfl (lv_at hl 0 rfl) ?_
  refine r_getI C hP (iw hw (fi_5 hk0)) hk0 fl_X5_39 (Or.inl rfl) dX5_await_1 ?_
  refine lv_if_lt (tgt := 19) hx hb dX5_await_4 (by decide) (fun c1 => ?_) (fun c1 => ?_)
  · replace h := if_t c1 h
    exact J19  μ  h _ _ _ hP hS (lv_sub hl [0] rfl)
  · replace h := if_f c1 h
    refine lv_aload_n hx hb dX5_await_7 rfl (lv_at hl 0 rfl) ?_
    refine r_getI C hP (iw hw (fi_5 hk0)) hk0 fl_X5_39 (Or.inl rfl) dX5_await_8 ?_
    refine lv_aload_n hx hb dX5_await_11 rfl (lv_at hl 0 rfl) ?_
    refine r_getF (off := 35) C hP (iw hw (fi_5 hk0)) hk0 fl_X5_35 rfl rfl (zw hw) dX5_await_12 ?_
    refine r_alen (v := 72) C hP (iw hw (ff_5_5 hk0).2) (Or.inl (ff_5_5 hk0).1) (by decide) dX5_await_15 ?_
    refine lv_icmp_lt (tgt := 25) hx hb dX5_await_16 (by decide) (fun c2 => ?_) (fun c2 => ?_)
    · replace h := if_t c2 h
      refine lv_aload_n hx hb dX5_await_25 rfl (lv_at hl 0 rfl) ?_
      refine r_getF (off := 35) C hP (iw hw (fi_5 hk0)) hk0 fl_X5_35 rfl rfl (zw hw) dX5_await_26 ?_
      refine lv_aload_n hx hb dX5_await_29 rfl (lv_at hl 0 rfl) ?_
      refine r_getI C hP (iw hw (fi_5 hk0)) hk0 fl_X5_39 (Or.inl rfl) dX5_await_30 ?_
      refine lv_iload_n hx hb dX5_await_33 rfl (lv_at hl 1 rfl) ?_
      obtain ⟨g4, h⟩ := gd_ok h
      refine r_iast C hP hS (iw hw (ff_5_5 hk0).2) (ff_5_5 hk0).1 g4 dX5_await_34 (fun H locs hP hS => ?_)
      obtain ⟨μ3, eμ3, h⟩ := vl_ex h
      have hP : fP w μ3 H := by rw [eμ3]; exact hP
      refine lv_aload_n hx hb dX5_await_35 rfl (lv_at hl 0 rfl) ?_
      refine lv_dup hx hb dX5_await_36 rfl ?_
      refine r_getI C hP (iw hw (fi_5 hk0)) hk0 fl_X5_39 (Or.inl rfl) dX5_await_37 ?_
      refine lv_iconst (v := (1)) hx hb dX5_await_40 (by decide) ?_
      refine lv_iadd hx hb dX5_await_41 ?_
      refine r_putI C hP hS (iw hw (fi_5 hk0)) hk0 fp_X5_39 rfl dX5_await_42 (fun H locs hP hS => ?_)
      obtain ⟨μ5, eμ5, h⟩ := vl_ex h
      have hP : fP w μ5 H := by rw [eμ5]; exact hP
      refine lv_iconst (v := (1)) hx hb dX5_await_45 (by decide) ?_
      exact r_zret C hr hP hS h dX5_await_46
    · replace h := if_f c2 h
      exact J19  μ  h _ _ _ hP hS (lv_sub hl [0] rfl)

def f_X5_readBehindValue_j112 (v0 : Nat) (v2 : Int32) (μ : fMem) : Option (Int32 × fMem) :=
  bd (f_X5_countKnot v0 μ) fun r33 μ32 => if r33 = 0 then gd (bl (0 : Int32)) (some ((0 : Int32), μ32)) else bd (f_X5_await v0 v2 μ32) fun r37 μ36 => if r37 = 0 then gd (bl (0 : Int32)) (some ((0 : Int32), μ36)) else gd (bl (1 : Int32)) (some ((1 : Int32), μ36))
def f_X5_readBehindValue_j87 (v0 : Nat) (v2 : Int32) (v3 : Int32) (t0 : Nat) (t1 : Nat) (t2 : Int32) (μ : fMem) : Option (Int32 × fMem) :=
  bd (f_X5_settle t0 t1 t2 μ) fun r19 μ18 => if v3 = (4 : Int32) then bd (f_X5_latest v0 μ18) fun r23 μ22 => bd (f_X5_rank r23 μ22) fun r26 μ25 => if r26 = (4 : Int32) then bd (f_X5_fail v0 (1 : Int32) μ25) fun r30 μ29 => gd (bl r30) (some (r30, μ29)) else f_X5_readBehindValue_j112 v0 v2 μ25 else f_X5_readBehindValue_j112 v0 v2 μ18
def f_X5_readBehindValue_j69 (v0 : Nat) (μ : fMem) : Option (Int32 × fMem) :=
  bd (f_X5_fail v0 (1 : Int32) μ) fun r41 μ40 => gd (bl r41) (some (r41, μ40))
def f_X5_readBehindValue (v0 : Nat) (v1 : Nat) (v2 : Int32) (μ : fMem) : Option (Int32 × fMem) :=
  if v2 = (26 : Int32) then if 0 < (μ.1 v0 7) then vl (sI μ v0 7 ((μ.1 v0 7) - (1 : Int32))) fun μ9 => bd (f_X5_settle v0 v1 (1 : Int32) μ9) fun r11 μ10 => if (μ10.1 v0 6) ≤ 0 then gd (bl (1 : Int32)) (some ((1 : Int32), μ10)) else vl (sI μ10 v0 6 ((μ10.1 v0 6) - (1 : Int32))) fun μ14 => gd (bl (1 : Int32)) (some ((1 : Int32), μ14)) else bd (f_X5_fail v0 (1 : Int32) μ) fun r16 μ15 => gd (bl r16) (some (r16, μ15)) else bd (f_X5_rank v2 μ) fun r3 μ2 => if r3 = 0 then f_X5_readBehindValue_j69 v0 μ2 else if v2 = (12 : Int32) then f_X5_readBehindValue_j69 v0 μ2 else if r3 = (4 : Int32) then f_X5_readBehindValue_j87 v0 v2 r3 v0 v1 (5 : Int32) μ2 else f_X5_readBehindValue_j87 v0 v2 r3 v0 v1 r3 μ2
def rm_X5_readBehindValue : Room := { frames := 2, cells := 0, slots := 0, locals := 45 }
set_option maxHeartbeats 4000000 in
set_option maxRecDepth 100000 in
theorem m_X5_readBehindValue (l : Launch) (w : fW) (hJ : fJ w) (hw : w.2.2.2 = sd 0) (v0 : Nat) (v1 : Nat) (v2 : Int32) (hk0 : kd v0 = (4, 5)) (hk1 : kd v1 = (4, 3)) (μ : fMem) {r : Int32} {μr : fMem} (h : f_X5_readBehindValue v0 v1 v2 μ = some (r, μr)) : Met l yX5_readBehindValue (.code yX5_readBehindValue cX5_readBehindValue 4 (some .boolean) :: gw) rm_X5_readBehindValue (fPc w [.ref (w.2.2.1 v0), .ref (w.2.2.1 v1), .int v2] μ) (fQi w r μr) 0 0 (fA w) := by
  refine met_of hJ (by decide) ?_ (Nat.le_of_ble_eq_true rfl)
  generalize ([.ref (w.2.2.1 v0), .ref (w.2.2.1 v1), .int v2] : List Value).toArray = args
  intro p e s m below meth c ls C hr hP hl hS
  obtain ⟨hx, hb, hml, hown, hts, hK, -, hlk, hT⟩ := id C
  have hl : lv_has ls 4 [(0, .ref (w.2.2.1 v0)), (1, .ref (w.2.2.1 v1)), (2, .int v2)] := hl
  unfold f_X5_readBehindValue at h
  have J112 : ∀  (μ : fMem), f_X5_readBehindValue_j112 v0 v2 μ = some (r, μr) → WW p l e rm_X5_readBehindValue s m args below meth c (MQ below (fQi w r μr) args s 0 0 (fA w)) w μ 4 112 [] [(0, .ref (w.2.2.1 v0)), (2, .int v2)] := by
    intro  μ  h H locs ls hP hS hl
    unfold f_X5_readBehindValue_j112 at h
    refine lv_aload_n hx hb dX5_readBehindValue_112 rfl (lv_at hl 0 rfl) ?_
    obtain ⟨r33, μ32, h34, h⟩ := bd_ok h
    refine go_i (callV_run (As := []) (rest := []) C hl hP (hS.wide hJ).2.1 (iw hw (fi_5 hk0)) hk0 (m_X5_countKnot l w hJ hw v0 hk0 μ h34) mv_X5_185 ⟨rfl, rfl, by decide, by decide⟩ rfl rfl (Nat.le_of_ble_eq_true rfl) ⟨Nat.zero_le _, Nat.zero_le _⟩ dX5_readBehindValue_113) hS (fun H locs hP hS => ?_)
    refine lv_if_eq (tgt := 131) hx hb dX5_readBehindValue_116 (by decide) (fun c35 => ?_) (fun c35 => ?_)
    · replace h := if_t c35 h
      refine lv_iconst (v := (0)) hx hb dX5_readBehindValue_131 (by decide) ?_
      exact r_zret C hr hP hS h dX5_readBehindValue_132
    · replace h := if_f c35 h
      refine lv_aload_n hx hb dX5_readBehindValue_119 rfl (lv_at hl 0 rfl) ?_
      refine lv_iload_n hx hb dX5_readBehindValue_120 rfl (lv_at hl 1 rfl) ?_
      obtain ⟨r37, μ36, h38, h⟩ := bd_ok h
      refine go_i (callV_run (As := [.int v2]) (rest := []) C hl hP (hS.wide hJ).2.1 (iw hw (fi_5 hk0)) hk0 (m_X5_await l w hJ hw v0 v2 hk0 μ32 h38) mv_X5_175 ⟨rfl, rfl, by decide, by decide⟩ rfl rfl (Nat.le_of_ble_eq_true rfl) ⟨Nat.zero_le _, Nat.zero_le _⟩ dX5_readBehindValue_121) hS (fun H locs hP hS => ?_)
      refine lv_if_eq (tgt := 131) hx hb dX5_readBehindValue_124 (by decide) (fun c39 => ?_) (fun c39 => ?_)
      · replace h := if_t c39 h
        refine lv_iconst (v := (0)) hx hb dX5_readBehindValue_131 (by decide) ?_
        exact r_zret C hr hP hS h dX5_readBehindValue_132
      · replace h := if_f c39 h
        refine lv_iconst (v := (1)) hx hb dX5_readBehindValue_127 (by decide) ?_
        refine lv_goto (tgt := 132) hx hb dX5_readBehindValue_128 (by decide) ?_
        exact r_zret C hr hP hS h dX5_readBehindValue_132
  have J87 : ∀ (v3 : Int32) (t0 : Nat) (t1 : Nat) (t2 : Int32) (μ : fMem) (_ : kd t0 = (4, 5)) (_ : inW w.2.2.2 t0) (_ : kd t1 = (4, 3)) (_ : inW w.2.2.2 t1), f_X5_readBehindValue_j87 v0 v2 v3 t0 t1 t2 μ = some (r, μr) → WW p l e rm_X5_readBehindValue s m args below meth c (MQ below (fQi w r μr) args s 0 0 (fA w)) w μ 4 87 [.int t2, .ref (w.2.2.1 t1), .ref (w.2.2.1 t0)] [(0, .ref (w.2.2.1 v0)), (2, .int v2), (3, .int v3)] := by
    intro v3 t0 t1 t2 μ kt0 it0 kt1 it1 h H locs ls hP hS hl
    unfold f_X5_readBehindValue_j87 at h
    obtain ⟨r19, μ18, h20, h⟩ := bd_ok h
    refine go_v (callV_run (As := [.ref (w.2.2.1 t1), .int t2]) (rest := []) C hl hP (hS.wide hJ).2.1 it0 kt0 (m_X5_settle l w hJ hw t0 t1 t2 kt0 kt1 μ h20) mv_X5_171 ⟨rfl, rfl, by decide, by decide⟩ rfl rfl (Nat.le_of_ble_eq_true rfl) ⟨Nat.zero_le _, Nat.zero_le _⟩ dX5_readBehindValue_87) hS (fun H locs hP hS => ?_)
    refine lv_iload_n hx hb dX5_readBehindValue_90 rfl (lv_at hl 2 rfl) ?_
    refine lv_iconst (v := (4)) hx hb dX5_readBehindValue_91 (by decide) ?_
    refine lv_icmp_ne (tgt := 112) hx hb dX5_readBehindValue_92 (by decide) (fun c21 => ?_) (fun c21 => ?_)
    · replace h := if_f c21 h
      exact J112  μ18  h _ _ _ hP hS (lv_sub hl [0, 1] rfl)
    · replace h := if_t c21 h
      refine lv_aload_n hx hb dX5_readBehindValue_95 rfl (lv_at hl 0 rfl) ?_
      obtain ⟨r23, μ22, h24, h⟩ := bd_ok h
      refine go_i (callV_run (As := []) (rest := []) C hl hP (hS.wide hJ).2.1 (iw hw (fi_5 hk0)) hk0 (m_X5_latest l w hJ hw v0 hk0 μ18 h24) mv_X5_178 ⟨rfl, rfl, by decide, by decide⟩ rfl rfl (Nat.le_of_ble_eq_true rfl) ⟨Nat.zero_le _, Nat.zero_le _⟩ dX5_readBehindValue_96) hS (fun H locs hP hS => ?_)
      obtain ⟨r26, μ25, h27, h⟩ := bd_ok h
      refine go_i (callS_run (As := [.int r23]) (rest := []) C hl hP (hS.wide hJ).2.1 (m_X5_rank l w hJ hw r23  μ22 h27) ms_X5_182 ⟨rfl, rfl, by decide, by decide⟩ rfl rfl (Nat.le_of_ble_eq_true rfl) ⟨Nat.zero_le _, Nat.zero_le _⟩ dX5_readBehindValue_99) hS (fun H locs hP hS => ?_)
      refine lv_iconst (v := (4)) hx hb dX5_readBehindValue_102 (by decide) ?_
      refine lv_icmp_ne (tgt := 112) hx hb dX5_readBehindValue_103 (by decide) (fun c28 => ?_) (fun c28 => ?_)
      · replace h := if_f c28 h
        exact J112  μ25  h _ _ _ hP hS (lv_sub hl [0, 1] rfl)
      · replace h := if_t c28 h
        refine lv_aload_n hx hb dX5_readBehindValue_106 rfl (lv_at hl 0 rfl) ?_
        refine lv_iconst (v := (1)) hx hb dX5_readBehindValue_107 (by decide) ?_
        obtain ⟨r30, μ29, h31, h⟩ := bd_ok h
        refine go_i (callV_run (As := [.int (1 : Int32)]) (rest := []) C hl hP (hS.wide hJ).2.1 (iw hw (fi_5 hk0)) hk0 (m_X5_fail l w hJ hw v0 (1 : Int32) hk0 μ25 h31) mv_X5_59 ⟨rfl, rfl, by decide, by decide⟩ rfl rfl (Nat.le_of_ble_eq_true rfl) ⟨Nat.zero_le _, Nat.zero_le _⟩ dX5_readBehindValue_108) hS (fun H locs hP hS => ?_)
        exact r_zret C hr hP hS h dX5_readBehindValue_111
  have J69 : ∀  (μ : fMem), f_X5_readBehindValue_j69 v0 μ = some (r, μr) → WW p l e rm_X5_readBehindValue s m args below meth c (MQ below (fQi w r μr) args s 0 0 (fA w)) w μ 4 69 [] [(0, .ref (w.2.2.1 v0))] := by
    intro  μ  h H locs ls hP hS hl
    unfold f_X5_readBehindValue_j69 at h
    refine lv_aload_n hx hb dX5_readBehindValue_69 rfl (lv_at hl 0 rfl) ?_
    refine lv_iconst (v := (1)) hx hb dX5_readBehindValue_70 (by decide) ?_
    obtain ⟨r41, μ40, h42, h⟩ := bd_ok h
    refine go_i (callV_run (As := [.int (1 : Int32)]) (rest := []) C hl hP (hS.wide hJ).2.1 (iw hw (fi_5 hk0)) hk0 (m_X5_fail l w hJ hw v0 (1 : Int32) hk0 μ h42) mv_X5_59 ⟨rfl, rfl, by decide, by decide⟩ rfl rfl (Nat.le_of_ble_eq_true rfl) ⟨Nat.zero_le _, Nat.zero_le _⟩ dX5_readBehindValue_71) hS (fun H locs hP hS => ?_)
    exact r_zret C hr hP hS h dX5_readBehindValue_74
  refine lv_iload_n hx hb dX5_readBehindValue_0 rfl (lv_at hl 2 rfl) ?_
  refine lv_bipush (v := (26)) hx hb dX5_readBehindValue_1 (by decide) ?_
  refine lv_icmp_ne (tgt := 54) hx hb dX5_readBehindValue_3 (by decide) (fun c1 => ?_) (fun c1 => ?_)
  · replace h := if_f c1 h
    refine lv_iload_n hx hb dX5_readBehindValue_54 rfl (lv_at hl 2 rfl) ?_
    obtain ⟨r3, μ2, h4, h⟩ := bd_ok h
    refine go_i (callS_run (As := [.int v2]) (rest := []) C hl hP (hS.wide hJ).2.1 (m_X5_rank l w hJ hw v2  μ h4) ms_X5_182 ⟨rfl, rfl, by decide, by decide⟩ rfl rfl (Nat.le_of_ble_eq_true rfl) ⟨Nat.zero_le _, Nat.zero_le _⟩ dX5_readBehindValue_55) hS (fun H locs hP hS => ?_)
    refine lv_istore_n (lv' := [(3, .int r3), (0, .ref (w.2.2.1 v0)), (1, .ref (w.2.2.1 v1)), (2, .int v2)]) hx hb dX5_readBehindValue_58 rfl hl (by decide) rfl (fun ls hl => ?_)
    refine lv_iload_n hx hb dX5_readBehindValue_59 rfl (lv_at hl 0 rfl) ?_
    refine lv_if_eq (tgt := 69) hx hb dX5_readBehindValue_60 (by decide) (fun c5 => ?_) (fun c5 => ?_)
    · replace h := if_t c5 h
      exact J69  μ2  h _ _ _ hP hS (lv_sub hl [1] rfl)
    · replace h := if_f c5 h
      refine lv_iload_n hx hb dX5_readBehindValue_63 rfl (lv_at hl 3 rfl) ?_
      refine lv_bipush (v := (12)) hx hb dX5_readBehindValue_64 (by decide) ?_
      refine lv_icmp_ne (tgt := 75) hx hb dX5_readBehindValue_66 (by decide) (fun c6 => ?_) (fun c6 => ?_)
      · replace h := if_f c6 h
        refine lv_aload_n hx hb dX5_readBehindValue_75 rfl (lv_at hl 1 rfl) ?_
        refine lv_aload_n hx hb dX5_readBehindValue_76 rfl (lv_at hl 2 rfl) ?_
        refine lv_iload_n hx hb dX5_readBehindValue_77 rfl (lv_at hl 0 rfl) ?_
        refine lv_iconst (v := (4)) hx hb dX5_readBehindValue_78 (by decide) ?_
        refine lv_icmp_ne (tgt := 86) hx hb dX5_readBehindValue_79 (by decide) (fun c7 => ?_) (fun c7 => ?_)
        · replace h := if_f c7 h
          refine lv_iload_n hx hb dX5_readBehindValue_86 rfl (lv_at hl 0 rfl) ?_
          exact J87 r3 v0 v1 r3 μ2 hk0 (iw hw (fi_5 hk0)) hk1 (iw hw (fi_3 hk1)) h _ _ _ hP hS (lv_sub hl [1, 3, 0] rfl)
        · replace h := if_t c7 h
          refine lv_iconst (v := (5)) hx hb dX5_readBehindValue_82 (by decide) ?_
          refine lv_goto (tgt := 87) hx hb dX5_readBehindValue_83 (by decide) ?_
          exact J87 r3 v0 v1 (5 : Int32) μ2 hk0 (iw hw (fi_5 hk0)) hk1 (iw hw (fi_3 hk1)) h _ _ _ hP hS (lv_sub hl [1, 3, 0] rfl)
      · replace h := if_t c6 h
        exact J69  μ2  h _ _ _ hP hS (lv_sub hl [1] rfl)
  · replace h := if_t c1 h
    refine lv_aload_n hx hb dX5_readBehindValue_6 rfl (lv_at hl 0 rfl) ?_
    refine r_getI C hP (iw hw (fi_5 hk0)) hk0 fl_X5_42 (Or.inl rfl) dX5_readBehindValue_7 ?_
    refine lv_if_gt (tgt := 19) hx hb dX5_readBehindValue_10 (by decide) (fun c8 => ?_) (fun c8 => ?_)
    · replace h := if_t c8 h
      refine lv_aload_n hx hb dX5_readBehindValue_19 rfl (lv_at hl 0 rfl) ?_
      refine lv_dup hx hb dX5_readBehindValue_20 rfl ?_
      refine r_getI C hP (iw hw (fi_5 hk0)) hk0 fl_X5_42 (Or.inl rfl) dX5_readBehindValue_21 ?_
      refine lv_iconst (v := (1)) hx hb dX5_readBehindValue_24 (by decide) ?_
      refine lv_isub hx hb dX5_readBehindValue_25 ?_
      refine r_putI C hP hS (iw hw (fi_5 hk0)) hk0 fp_X5_42 rfl dX5_readBehindValue_26 (fun H locs hP hS => ?_)
      obtain ⟨μ9, eμ9, h⟩ := vl_ex h
      have hP : fP w μ9 H := by rw [eμ9]; exact hP
      refine lv_aload_n hx hb dX5_readBehindValue_29 rfl (lv_at hl 0 rfl) ?_
      refine lv_aload_n hx hb dX5_readBehindValue_30 rfl (lv_at hl 1 rfl) ?_
      refine lv_iconst (v := (1)) hx hb dX5_readBehindValue_31 (by decide) ?_
      obtain ⟨r11, μ10, h12, h⟩ := bd_ok h
      refine go_v (callV_run (As := [.ref (w.2.2.1 v1), .int (1 : Int32)]) (rest := []) C hl hP (hS.wide hJ).2.1 (iw hw (fi_5 hk0)) hk0 (m_X5_settle l w hJ hw v0 v1 (1 : Int32) hk0 hk1 μ9 h12) mv_X5_171 ⟨rfl, rfl, by decide, by decide⟩ rfl rfl (Nat.le_of_ble_eq_true rfl) ⟨Nat.zero_le _, Nat.zero_le _⟩ dX5_readBehindValue_32) hS (fun H locs hP hS => ?_)
      refine lv_aload_n hx hb dX5_readBehindValue_35 rfl (lv_at hl 0 rfl) ?_
      refine r_getI C hP (iw hw (fi_5 hk0)) hk0 fl_X5_39 (Or.inl rfl) dX5_readBehindValue_36 ?_
      refine lv_if_le (tgt := 52) hx hb dX5_readBehindValue_39 (by decide) (fun c13 => ?_) (fun c13 => ?_)
      · replace h := if_t c13 h
        refine lv_iconst (v := (1)) hx hb dX5_readBehindValue_52 (by decide) ?_
        exact r_zret C hr hP hS h dX5_readBehindValue_53
      · replace h := if_f c13 h
        refine lv_aload_n hx hb dX5_readBehindValue_42 rfl (lv_at hl 0 rfl) ?_
        refine lv_dup hx hb dX5_readBehindValue_43 rfl ?_
        refine r_getI C hP (iw hw (fi_5 hk0)) hk0 fl_X5_39 (Or.inl rfl) dX5_readBehindValue_44 ?_
        refine lv_iconst (v := (1)) hx hb dX5_readBehindValue_47 (by decide) ?_
        refine lv_isub hx hb dX5_readBehindValue_48 ?_
        refine r_putI C hP hS (iw hw (fi_5 hk0)) hk0 fp_X5_39 rfl dX5_readBehindValue_49 (fun H locs hP hS => ?_)
        obtain ⟨μ14, eμ14, h⟩ := vl_ex h
        have hP : fP w μ14 H := by rw [eμ14]; exact hP
        refine lv_iconst (v := (1)) hx hb dX5_readBehindValue_52 (by decide) ?_
        exact r_zret C hr hP hS h dX5_readBehindValue_53
    · replace h := if_f c8 h
      refine lv_aload_n hx hb dX5_readBehindValue_13 rfl (lv_at hl 0 rfl) ?_
      refine lv_iconst (v := (1)) hx hb dX5_readBehindValue_14 (by decide) ?_
      obtain ⟨r16, μ15, h17, h⟩ := bd_ok h
      refine go_i (callV_run (As := [.int (1 : Int32)]) (rest := []) C hl hP (hS.wide hJ).2.1 (iw hw (fi_5 hk0)) hk0 (m_X5_fail l w hJ hw v0 (1 : Int32) hk0 μ h17) mv_X5_59 ⟨rfl, rfl, by decide, by decide⟩ rfl rfl (Nat.le_of_ble_eq_true rfl) ⟨Nat.zero_le _, Nat.zero_le _⟩ dX5_readBehindValue_15) hS (fun H locs hP hS => ?_)
      exact r_zret C hr hP hS h dX5_readBehindValue_18

def f_X5_readValue_j158 (t0 : Nat) (t1 : Int32) (t2 : Int32) (μ : fMem) : Option (Int32 × fMem) :=
  bd (f_X3_add t0 t1 t2 μ) fun r43 μ42 => gd (bl (1 : Int32)) (some ((1 : Int32), μ42))
def f_X5_readValue_j139 (v0 : Nat) (v1 : Nat) (v2 : Int32) (μ : fMem) : Option (Int32 × fMem) :=
  if v2 = (21 : Int32) then f_X5_readValue_j158 v1 v2 (μ.1 (v0 + 1) 2) μ else f_X5_readValue_j158 v1 v2 (0 : Int32) μ
def f_X5_readValue_j105 (v0 : Nat) (v1 : Nat) (v2 : Int32) (μ : fMem) : Option (Int32 × fMem) :=
  bd (f_X5_countKnot v0 μ) fun r33 μ32 => if r33 = 0 then gd (bl (0 : Int32)) (some ((0 : Int32), μ32)) else if v2 = (21 : Int32) then if (μ32.1 (v0 + 1) 2) ≤ (9999 : Int32) then f_X5_readValue_j139 v0 v1 v2 μ32 else bd (f_X5_fail v0 (2 : Int32) μ32) fun r39 μ38 => gd (bl r39) (some (r39, μ38)) else f_X5_readValue_j139 v0 v1 v2 μ32
def f_X5_readValue_j99 (v0 : Nat) (μ : fMem) : Option (Int32 × fMem) :=
  bd (f_X5_fail v0 (1 : Int32) μ) fun r46 μ45 => gd (bl r46) (some (r46, μ45))
def f_X5_readValue_j81 (v0 : Nat) (v1 : Nat) (v2 : Int32) (μ : fMem) : Option (Int32 × fMem) :=
  if v2 = (21 : Int32) then f_X5_readValue_j105 v0 v1 v2 μ else if v2 < (13 : Int32) then f_X5_readValue_j99 v0 μ else if v2 ≤ (19 : Int32) then f_X5_readValue_j105 v0 v1 v2 μ else f_X5_readValue_j99 v0 μ
def f_X5_readValue (v0 : Nat) (v1 : Nat) (v2 : Int32) (μ : fMem) : Option (Int32 × fMem) :=
  if v2 = (25 : Int32) then if (μ.1 v0 7) < (8 : Int32) then vl (sI μ v0 7 ((μ.1 v0 7) + (1 : Int32))) fun μ22 => bd (f_X5_await v0 (25 : Int32) μ22) fun r24 μ23 => gd (bl r24) (some (r24, μ23)) else bd (f_X5_fail v0 (2 : Int32) μ) fun r27 μ26 => gd (bl r27) (some (r27, μ26)) else if v2 = (12 : Int32) then bd (f_X5_latest v0 μ) fun r4 μ3 => bd (f_X5_rank r4 μ3) fun r7 μ6 => bd (f_X5_rank (12 : Int32) μ6) fun r10 μ9 => if r10 < r7 then f_X5_readValue_j81 v0 v1 v2 μ9 else bd (f_X5_countKnot v0 μ9) fun r14 μ13 => if r14 = 0 then gd (bl (0 : Int32)) (some ((0 : Int32), μ13)) else bd (f_X5_await v0 (12 : Int32) μ13) fun r18 μ17 => if r18 = 0 then gd (bl (0 : Int32)) (some ((0 : Int32), μ17)) else gd (bl (1 : Int32)) (some ((1 : Int32), μ17)) else f_X5_readValue_j81 v0 v1 v2 μ
def rm_X5_readValue : Room := { frames := 2, cells := 0, slots := 0, locals := 42 }
set_option maxHeartbeats 4000000 in
set_option maxRecDepth 100000 in
theorem m_X5_readValue (l : Launch) (w : fW) (hJ : fJ w) (hw : w.2.2.2 = sd 0) (v0 : Nat) (v1 : Nat) (v2 : Int32) (hk0 : kd v0 = (4, 5)) (hk1 : kd v1 = (4, 3)) (μ : fMem) {r : Int32} {μr : fMem} (h : f_X5_readValue v0 v1 v2 μ = some (r, μr)) : Met l yX5_readValue (.code yX5_readValue cX5_readValue 3 (some .boolean) :: gw) rm_X5_readValue (fPc w [.ref (w.2.2.1 v0), .ref (w.2.2.1 v1), .int v2] μ) (fQi w r μr) 0 0 (fA w) := by
  refine met_of hJ (by decide) ?_ (Nat.le_of_ble_eq_true rfl)
  generalize ([.ref (w.2.2.1 v0), .ref (w.2.2.1 v1), .int v2] : List Value).toArray = args
  intro p e s m below meth c ls C hr hP hl hS
  obtain ⟨hx, hb, hml, hown, hts, hK, -, hlk, hT⟩ := id C
  have hl : lv_has ls 3 [(0, .ref (w.2.2.1 v0)), (1, .ref (w.2.2.1 v1)), (2, .int v2)] := hl
  unfold f_X5_readValue at h
  have J158 : ∀ (t0 : Nat) (t1 : Int32) (t2 : Int32) (μ : fMem) (_ : kd t0 = (4, 3)) (_ : inW w.2.2.2 t0), f_X5_readValue_j158 t0 t1 t2 μ = some (r, μr) → WW p l e rm_X5_readValue s m args below meth c (MQ below (fQi w r μr) args s 0 0 (fA w)) w μ 3 158 [.int t2, .int t1, .ref (w.2.2.1 t0)] [] := by
    intro t0 t1 t2 μ kt0 it0 h H locs ls hP hS hl
    unfold f_X5_readValue_j158 at h
    obtain ⟨r43, μ42, h44, h⟩ := bd_ok h
    refine go_v (callV_run (As := [.int t1, .int t2]) (rest := []) C hl hP (hS.wide hJ).2.1 it0 kt0 (m_X3_add l w hJ hw t0 t1 t2 kt0 μ h44) mv_X5_188 ⟨rfl, rfl, by decide, by decide⟩ rfl rfl (Nat.le_of_ble_eq_true rfl) ⟨Nat.zero_le _, Nat.zero_le _⟩ dX5_readValue_158) hS (fun H locs hP hS => ?_)
    refine lv_iconst (v := (1)) hx hb dX5_readValue_161 (by decide) ?_
    exact r_zret C hr hP hS h dX5_readValue_162
  have J139 : ∀  (μ : fMem), f_X5_readValue_j139 v0 v1 v2 μ = some (r, μr) → WW p l e rm_X5_readValue s m args below meth c (MQ below (fQi w r μr) args s 0 0 (fA w)) w μ 3 139 [] [(0, .ref (w.2.2.1 v0)), (1, .ref (w.2.2.1 v1)), (2, .int v2)] := by
    intro  μ  h H locs ls hP hS hl
    unfold f_X5_readValue_j139 at h
    refine lv_aload_n hx hb dX5_readValue_139 rfl (lv_at hl 1 rfl) ?_
    refine lv_iload_n hx hb dX5_readValue_140 rfl (lv_at hl 2 rfl) ?_
    refine lv_iload_n hx hb dX5_readValue_141 rfl (lv_at hl 2 rfl) ?_
    refine lv_bipush (v := (21)) hx hb dX5_readValue_142 (by decide) ?_
    refine lv_icmp_ne (tgt := 157) hx hb dX5_readValue_144 (by decide) (fun c41 => ?_) (fun c41 => ?_)
    · replace h := if_f c41 h
      refine lv_iconst (v := (0)) hx hb dX5_readValue_157 (by decide) ?_
      exact J158 v1 v2 (0 : Int32) μ hk1 (iw hw (fi_3 hk1)) h _ _ _ hP hS (lv_sub hl [] rfl)
    · replace h := if_t c41 h
      refine lv_aload_n hx hb dX5_readValue_147 rfl (lv_at hl 0 rfl) ?_
      refine r_getF (off := 1) C hP (iw hw (fi_5 hk0)) hk0 fl_X5_21 rfl rfl (zw hw) dX5_readValue_148 ?_
      refine r_getI C hP (iw hw (ff_5_2 hk0).2) (ff_5_2 hk0).1 fl_X5_110 (Or.inl rfl) dX5_readValue_151 ?_
      refine lv_goto (tgt := 158) hx hb dX5_readValue_154 (by decide) ?_
      exact J158 v1 v2 (μ.1 (v0 + 1) 2) μ hk1 (iw hw (fi_3 hk1)) h _ _ _ hP hS (lv_sub hl [] rfl)
  have J105 : ∀  (μ : fMem), f_X5_readValue_j105 v0 v1 v2 μ = some (r, μr) → WW p l e rm_X5_readValue s m args below meth c (MQ below (fQi w r μr) args s 0 0 (fA w)) w μ 3 105 [] [(0, .ref (w.2.2.1 v0)), (1, .ref (w.2.2.1 v1)), (2, .int v2)] := by
    intro  μ  h H locs ls hP hS hl
    unfold f_X5_readValue_j105 at h
    refine lv_aload_n hx hb dX5_readValue_105 rfl (lv_at hl 0 rfl) ?_
    obtain ⟨r33, μ32, h34, h⟩ := bd_ok h
    refine go_i (callV_run (As := []) (rest := []) C hl hP (hS.wide hJ).2.1 (iw hw (fi_5 hk0)) hk0 (m_X5_countKnot l w hJ hw v0 hk0 μ h34) mv_X5_185 ⟨rfl, rfl, by decide, by decide⟩ rfl rfl (Nat.le_of_ble_eq_true rfl) ⟨Nat.zero_le _, Nat.zero_le _⟩ dX5_readValue_106) hS (fun H locs hP hS => ?_)
    refine lv_if_ne (tgt := 114) hx hb dX5_readValue_109 (by decide) (fun c35 => ?_) (fun c35 => ?_)
    · replace h := if_f c35 h
      refine lv_iload_n hx hb dX5_readValue_114 rfl (lv_at hl 2 rfl) ?_
      refine lv_bipush (v := (21)) hx hb dX5_readValue_115 (by decide) ?_
      refine lv_icmp_ne (tgt := 139) hx hb dX5_readValue_117 (by decide) (fun c36 => ?_) (fun c36 => ?_)
      · replace h := if_f c36 h
        exact J139  μ32  h _ _ _ hP hS (lv_sub hl [0, 1, 2] rfl)
      · replace h := if_t c36 h
        refine lv_aload_n hx hb dX5_readValue_120 rfl (lv_at hl 0 rfl) ?_
        refine r_getF (off := 1) C hP (iw hw (fi_5 hk0)) hk0 fl_X5_21 rfl rfl (zw hw) dX5_readValue_121 ?_
        refine r_getI C hP (iw hw (ff_5_2 hk0).2) (ff_5_2 hk0).1 fl_X5_110 (Or.inl rfl) dX5_readValue_124 ?_
        refine lv_sipush (v := (9999)) hx hb dX5_readValue_127 (by decide) ?_
        refine lv_icmp_le (tgt := 139) hx hb dX5_readValue_130 (by decide) (fun c37 => ?_) (fun c37 => ?_)
        · replace h := if_t c37 h
          exact J139  μ32  h _ _ _ hP hS (lv_sub hl [0, 1, 2] rfl)
        · replace h := if_f c37 h
          refine lv_aload_n hx hb dX5_readValue_133 rfl (lv_at hl 0 rfl) ?_
          refine lv_iconst (v := (2)) hx hb dX5_readValue_134 (by decide) ?_
          obtain ⟨r39, μ38, h40, h⟩ := bd_ok h
          refine go_i (callV_run (As := [.int (2 : Int32)]) (rest := []) C hl hP (hS.wide hJ).2.1 (iw hw (fi_5 hk0)) hk0 (m_X5_fail l w hJ hw v0 (2 : Int32) hk0 μ32 h40) mv_X5_59 ⟨rfl, rfl, by decide, by decide⟩ rfl rfl (Nat.le_of_ble_eq_true rfl) ⟨Nat.zero_le _, Nat.zero_le _⟩ dX5_readValue_135) hS (fun H locs hP hS => ?_)
          exact r_zret C hr hP hS h dX5_readValue_138
    · replace h := if_t c35 h
      refine lv_iconst (v := (0)) hx hb dX5_readValue_112 (by decide) ?_
      exact r_zret C hr hP hS h dX5_readValue_113
  have J99 : ∀  (μ : fMem), f_X5_readValue_j99 v0 μ = some (r, μr) → WW p l e rm_X5_readValue s m args below meth c (MQ below (fQi w r μr) args s 0 0 (fA w)) w μ 3 99 [] [(0, .ref (w.2.2.1 v0))] := by
    intro  μ  h H locs ls hP hS hl
    unfold f_X5_readValue_j99 at h
    refine lv_aload_n hx hb dX5_readValue_99 rfl (lv_at hl 0 rfl) ?_
    refine lv_iconst (v := (1)) hx hb dX5_readValue_100 (by decide) ?_
    obtain ⟨r46, μ45, h47, h⟩ := bd_ok h
    refine go_i (callV_run (As := [.int (1 : Int32)]) (rest := []) C hl hP (hS.wide hJ).2.1 (iw hw (fi_5 hk0)) hk0 (m_X5_fail l w hJ hw v0 (1 : Int32) hk0 μ h47) mv_X5_59 ⟨rfl, rfl, by decide, by decide⟩ rfl rfl (Nat.le_of_ble_eq_true rfl) ⟨Nat.zero_le _, Nat.zero_le _⟩ dX5_readValue_101) hS (fun H locs hP hS => ?_)
    exact r_zret C hr hP hS h dX5_readValue_104
  have J81 : ∀  (μ : fMem), f_X5_readValue_j81 v0 v1 v2 μ = some (r, μr) → WW p l e rm_X5_readValue s m args below meth c (MQ below (fQi w r μr) args s 0 0 (fA w)) w μ 3 81 [] [(0, .ref (w.2.2.1 v0)), (1, .ref (w.2.2.1 v1)), (2, .int v2)] := by
    intro  μ  h H locs ls hP hS hl
    unfold f_X5_readValue_j81 at h
    refine lv_iload_n hx hb dX5_readValue_81 rfl (lv_at hl 2 rfl) ?_
    refine lv_bipush (v := (21)) hx hb dX5_readValue_82 (by decide) ?_
    refine lv_icmp_eq (tgt := 105) hx hb dX5_readValue_84 (by decide) (fun c29 => ?_) (fun c29 => ?_)
    · replace h := if_t c29 h
      exact J105  μ  h _ _ _ hP hS (lv_sub hl [0, 1, 2] rfl)
    · replace h := if_f c29 h
      refine lv_iload_n hx hb dX5_readValue_87 rfl (lv_at hl 2 rfl) ?_
      refine lv_bipush (v := (13)) hx hb dX5_readValue_88 (by decide) ?_
      refine lv_icmp_lt (tgt := 99) hx hb dX5_readValue_90 (by decide) (fun c30 => ?_) (fun c30 => ?_)
      · replace h := if_t c30 h
        exact J99  μ  h _ _ _ hP hS (lv_sub hl [0] rfl)
      · replace h := if_f c30 h
        refine lv_iload_n hx hb dX5_readValue_93 rfl (lv_at hl 2 rfl) ?_
        refine lv_bipush (v := (19)) hx hb dX5_readValue_94 (by decide) ?_
        refine lv_icmp_le (tgt := 105) hx hb dX5_readValue_96 (by decide) (fun c31 => ?_) (fun c31 => ?_)
        · replace h := if_t c31 h
          exact J105  μ  h _ _ _ hP hS (lv_sub hl [0, 1, 2] rfl)
        · replace h := if_f c31 h
          exact J99  μ  h _ _ _ hP hS (lv_sub hl [0] rfl)
  refine lv_iload_n hx hb dX5_readValue_0 rfl (lv_at hl 2 rfl) ?_
  refine lv_bipush (v := (25)) hx hb dX5_readValue_1 (by decide) ?_
  refine lv_icmp_ne (tgt := 38) hx hb dX5_readValue_3 (by decide) (fun c1 => ?_) (fun c1 => ?_)
  · replace h := if_f c1 h
    refine lv_iload_n hx hb dX5_readValue_38 rfl (lv_at hl 2 rfl) ?_
    refine lv_bipush (v := (12)) hx hb dX5_readValue_39 (by decide) ?_
    refine lv_icmp_ne (tgt := 81) hx hb dX5_readValue_41 (by decide) (fun c2 => ?_) (fun c2 => ?_)
    · replace h := if_f c2 h
      exact J81  μ  h _ _ _ hP hS (lv_sub hl [0, 1, 2] rfl)
    · replace h := if_t c2 h
      refine lv_aload_n hx hb dX5_readValue_44 rfl (lv_at hl 0 rfl) ?_
      obtain ⟨r4, μ3, h5, h⟩ := bd_ok h
      refine go_i (callV_run (As := []) (rest := []) C hl hP (hS.wide hJ).2.1 (iw hw (fi_5 hk0)) hk0 (m_X5_latest l w hJ hw v0 hk0 μ h5) mv_X5_178 ⟨rfl, rfl, by decide, by decide⟩ rfl rfl (Nat.le_of_ble_eq_true rfl) ⟨Nat.zero_le _, Nat.zero_le _⟩ dX5_readValue_45) hS (fun H locs hP hS => ?_)
      obtain ⟨r7, μ6, h8, h⟩ := bd_ok h
      refine go_i (callS_run (As := [.int r4]) (rest := []) C hl hP (hS.wide hJ).2.1 (m_X5_rank l w hJ hw r4  μ3 h8) ms_X5_182 ⟨rfl, rfl, by decide, by decide⟩ rfl rfl (Nat.le_of_ble_eq_true rfl) ⟨Nat.zero_le _, Nat.zero_le _⟩ dX5_readValue_48) hS (fun H locs hP hS => ?_)
      refine lv_bipush (v := (12)) hx hb dX5_readValue_51 (by decide) ?_
      obtain ⟨r10, μ9, h11, h⟩ := bd_ok h
      refine go_i (callS_run (As := [.int (12 : Int32)]) (rest := [.int r7]) C hl hP (hS.wide hJ).2.1 (m_X5_rank l w hJ hw (12 : Int32)  μ6 h11) ms_X5_182 ⟨rfl, rfl, by decide, by decide⟩ rfl rfl (Nat.le_of_ble_eq_true rfl) ⟨Nat.zero_le _, Nat.zero_le _⟩ dX5_readValue_53) hS (fun H locs hP hS => ?_)
      refine lv_icmp_gt (tgt := 81) hx hb dX5_readValue_56 (by decide) (fun c12 => ?_) (fun c12 => ?_)
      · replace h := if_t c12 h
        exact J81  μ9  h _ _ _ hP hS (lv_sub hl [0, 1, 2] rfl)
      · replace h := if_f c12 h
        refine lv_aload_n hx hb dX5_readValue_59 rfl (lv_at hl 0 rfl) ?_
        obtain ⟨r14, μ13, h15, h⟩ := bd_ok h
        refine go_i (callV_run (As := []) (rest := []) C hl hP (hS.wide hJ).2.1 (iw hw (fi_5 hk0)) hk0 (m_X5_countKnot l w hJ hw v0 hk0 μ9 h15) mv_X5_185 ⟨rfl, rfl, by decide, by decide⟩ rfl rfl (Nat.le_of_ble_eq_true rfl) ⟨Nat.zero_le _, Nat.zero_le _⟩ dX5_readValue_60) hS (fun H locs hP hS => ?_)
        refine lv_if_eq (tgt := 79) hx hb dX5_readValue_63 (by decide) (fun c16 => ?_) (fun c16 => ?_)
        · replace h := if_t c16 h
          refine lv_iconst (v := (0)) hx hb dX5_readValue_79 (by decide) ?_
          exact r_zret C hr hP hS h dX5_readValue_80
        · replace h := if_f c16 h
          refine lv_aload_n hx hb dX5_readValue_66 rfl (lv_at hl 0 rfl) ?_
          refine lv_bipush (v := (12)) hx hb dX5_readValue_67 (by decide) ?_
          obtain ⟨r18, μ17, h19, h⟩ := bd_ok h
          refine go_i (callV_run (As := [.int (12 : Int32)]) (rest := []) C hl hP (hS.wide hJ).2.1 (iw hw (fi_5 hk0)) hk0 (m_X5_await l w hJ hw v0 (12 : Int32) hk0 μ13 h19) mv_X5_175 ⟨rfl, rfl, by decide, by decide⟩ rfl rfl (Nat.le_of_ble_eq_true rfl) ⟨Nat.zero_le _, Nat.zero_le _⟩ dX5_readValue_69) hS (fun H locs hP hS => ?_)
          refine lv_if_eq (tgt := 79) hx hb dX5_readValue_72 (by decide) (fun c20 => ?_) (fun c20 => ?_)
          · replace h := if_t c20 h
            refine lv_iconst (v := (0)) hx hb dX5_readValue_79 (by decide) ?_
            exact r_zret C hr hP hS h dX5_readValue_80
          · replace h := if_f c20 h
            refine lv_iconst (v := (1)) hx hb dX5_readValue_75 (by decide) ?_
            refine lv_goto (tgt := 80) hx hb dX5_readValue_76 (by decide) ?_
            exact r_zret C hr hP hS h dX5_readValue_80
  · replace h := if_t c1 h
    refine lv_aload_n hx hb dX5_readValue_6 rfl (lv_at hl 0 rfl) ?_
    refine r_getI C hP (iw hw (fi_5 hk0)) hk0 fl_X5_42 (Or.inl rfl) dX5_readValue_7 ?_
    refine lv_bipush (v := (8)) hx hb dX5_readValue_10 (by decide) ?_
    refine lv_icmp_lt (tgt := 21) hx hb dX5_readValue_12 (by decide) (fun c21 => ?_) (fun c21 => ?_)
    · replace h := if_t c21 h
      refine lv_aload_n hx hb dX5_readValue_21 rfl (lv_at hl 0 rfl) ?_
      refine lv_dup hx hb dX5_readValue_22 rfl ?_
      refine r_getI C hP (iw hw (fi_5 hk0)) hk0 fl_X5_42 (Or.inl rfl) dX5_readValue_23 ?_
      refine lv_iconst (v := (1)) hx hb dX5_readValue_26 (by decide) ?_
      refine lv_iadd hx hb dX5_readValue_27 ?_
      refine r_putI C hP hS (iw hw (fi_5 hk0)) hk0 fp_X5_42 rfl dX5_readValue_28 (fun H locs hP hS => ?_)
      obtain ⟨μ22, eμ22, h⟩ := vl_ex h
      have hP : fP w μ22 H := by rw [eμ22]; exact hP
      refine lv_aload_n hx hb dX5_readValue_31 rfl (lv_at hl 0 rfl) ?_
      refine lv_bipush (v := (25)) hx hb dX5_readValue_32 (by decide) ?_
      obtain ⟨r24, μ23, h25, h⟩ := bd_ok h
      refine go_i (callV_run (As := [.int (25 : Int32)]) (rest := []) C hl hP (hS.wide hJ).2.1 (iw hw (fi_5 hk0)) hk0 (m_X5_await l w hJ hw v0 (25 : Int32) hk0 μ22 h25) mv_X5_175 ⟨rfl, rfl, by decide, by decide⟩ rfl rfl (Nat.le_of_ble_eq_true rfl) ⟨Nat.zero_le _, Nat.zero_le _⟩ dX5_readValue_34) hS (fun H locs hP hS => ?_)
      exact r_zret C hr hP hS h dX5_readValue_37
    · replace h := if_f c21 h
      refine lv_aload_n hx hb dX5_readValue_15 rfl (lv_at hl 0 rfl) ?_
      refine lv_iconst (v := (2)) hx hb dX5_readValue_16 (by decide) ?_
      obtain ⟨r27, μ26, h28, h⟩ := bd_ok h
      refine go_i (callV_run (As := [.int (2 : Int32)]) (rest := []) C hl hP (hS.wide hJ).2.1 (iw hw (fi_5 hk0)) hk0 (m_X5_fail l w hJ hw v0 (2 : Int32) hk0 μ h28) mv_X5_59 ⟨rfl, rfl, by decide, by decide⟩ rfl rfl (Nat.le_of_ble_eq_true rfl) ⟨Nat.zero_le _, Nat.zero_le _⟩ dX5_readValue_17) hS (fun H locs hP hS => ?_)
      exact r_zret C hr hP hS h dX5_readValue_20

