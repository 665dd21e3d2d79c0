def f_X7_isRoped (v0 : Nat) (v1 : Int32) (μ : fMem) : Option (Int32 × fMem) :=
  if ((μ.1 v0 5) &&& (shl (1 : Int32) v1)) = 0 then gd (bl (0 : Int32)) (some ((0 : Int32), μ)) else gd (bl (1 : Int32)) (some ((1 : Int32), μ))
def rm_X7_isRoped : Room := { frames := 0, cells := 0, slots := 0, locals := 0 }
set_option maxHeartbeats 4000000 in
set_option maxRecDepth 100000 in
theorem m_X7_isRoped (l : Launch) (w : fW) (hJ : fJ w) (hw : w.2.2.2 = sd 0) (v0 : Nat) (v1 : Int32) (hk0 : kd v0 = (4, 7)) (μ : fMem) {r : Int32} {μr : fMem} (h : f_X7_isRoped v0 v1 μ = some (r, μr)) : Met l yX7_isRoped (.code yX7_isRoped cX7_isRoped 2 (some .boolean) :: gw) rm_X7_isRoped (fPc w [.ref (w.2.2.1 v0), .int v1] μ) (fQi w r μr) 0 0 (fA w) := by
  refine met_of hJ (by decide) ?_ (Nat.le_of_ble_eq_true rfl)
  generalize ([.ref (w.2.2.1 v0), .int v1] : List Value).toArray = args
  intro p e s m below meth c ls C hr hP hl hS
  obtain ⟨hx, hb, hml, hown, hts, hK, -, hlk, hT⟩ := id C
  have hl : lv_has ls 2 [(0, .ref (w.2.2.1 v0)), (1, .int v1)] := hl
  unfold f_X7_isRoped at h
  refine lv_aload_n hx hb dX7_isRoped_0 rfl (lv_at hl 0 rfl) ?_
  refine r_getI C hP (iw hw (fi_7 hk0)) hk0 fl_X7_27 (Or.inl rfl) dX7_isRoped_1 ?_
  refine lv_iconst (v := (1)) hx hb dX7_isRoped_4 (by decide) ?_
  refine lv_iload_n hx hb dX7_isRoped_5 rfl (lv_at hl 1 rfl) ?_
  refine r_ishl hx hb dX7_isRoped_6 ?_
  refine lv_iand hx hb dX7_isRoped_7 ?_
  refine lv_if_eq (tgt := 15) hx hb dX7_isRoped_8 (by decide) (fun c1 => ?_) (fun c1 => ?_)
  · replace h := if_t c1 h
    refine lv_iconst (v := (0)) hx hb dX7_isRoped_15 (by decide) ?_
    exact r_zret C hr hP hS h dX7_isRoped_16
  · replace h := if_f c1 h
    refine lv_iconst (v := (1)) hx hb dX7_isRoped_11 (by decide) ?_
    refine lv_goto (tgt := 16) hx hb dX7_isRoped_12 (by decide) ?_
    exact r_zret C hr hP hS h dX7_isRoped_16

def f_X0_plainLiking (v0 : Nat) (v1 : Int32) (v2 : Int32) (μ : fMem) : Option (Int32 × fMem) :=
  vl (μ.2.2 v0 8) fun x1 => gd (kd x1 = (4, 2)) (gd (ixo v2 8) (bd (f_X0_tasteOf v0 v1 μ) fun r5 μ4 => vl (iab ((μ.1 (x1 + 10) (Int32.toNatClampNeg v2)) - r5)) fun x7 => vl (μ4.2.2 v0 8) fun x8 => gd (kd x8 = (4, 2)) (gd (ixo v2 8) (vl (μ4.2.2 v0 8) fun x11 => gd (kd x11 = (4, 2)) (gd (ixo v1 6) (if (μ4.1 (x8 + 9) (Int32.toNatClampNeg v2)) = (μ4.1 (x11 + 12) (Int32.toNatClampNeg v1)) then some ((((50 : Int32) - ((5 : Int32) * x7)) + (20 : Int32)), μ4) else some ((((50 : Int32) - ((5 : Int32) * x7)) + (0 : Int32)), μ4)))))))
def rm_X0_plainLiking : Room := { frames := 1, cells := 0, slots := 0, locals := 80 }
set_option maxHeartbeats 4000000 in
set_option maxRecDepth 100000 in
theorem m_X0_plainLiking (l : Launch) (w : fW) (hJ : fJ w) (hw : w.2.2.2 = sd 0) (v0 : Nat) (v1 : Int32) (v2 : Int32) (hk0 : kd v0 = (4, 0)) (μ : fMem) {r : Int32} {μr : fMem} (h : f_X0_plainLiking v0 v1 v2 μ = some (r, μr)) : Met l yX0_plainLiking (.code yX0_plainLiking cX0_plainLiking 4 (some .int) :: gw) rm_X0_plainLiking (fPc w [.ref (w.2.2.1 v0), .int v1, .int v2] μ) (fQi w r μr) 0 0 (fA w) := by
  refine met_of hJ (by decide) ?_ (Nat.le_of_ble_eq_true rfl)
  generalize ([.ref (w.2.2.1 v0), .int v1, .int v2] : List Value).toArray = args
  intro p e s m below meth c ls C hr hP hl hS
  obtain ⟨hx, hb, hml, hown, hts, hK, -, hlk, hT⟩ := id C
  have hl : lv_has ls 4 [(0, .ref (w.2.2.1 v0)), (1, .int v1), (2, .int v2)] := hl
  unfold f_X0_plainLiking at h
  refine lv_aload_n hx hb dX0_plainLiking_0 rfl (lv_at hl 0 rfl) ?_
  refine r_getRx C hP (iw hw (fi_0 hk0)) hk0 fl_X0_41 rfl (zw hw) dX0_plainLiking_1 (fun x1 ex1 => ?_)
  replace h := vl_ok ex1 h
  obtain ⟨g2, h⟩ := gd_ok h
  refine r_getF (off := 10) C hP (iw hw (fi_2 g2)) g2 fl_X0_200 rfl rfl (zw hw) dX0_plainLiking_4 ?_
  refine lv_iload_n hx hb dX0_plainLiking_7 rfl (lv_at hl 2 rfl) ?_
  obtain ⟨g3, h⟩ := gd_ok h
  refine r_iald C hP (iw hw (ff_2_7 g2).2) (ff_2_7 g2).1 g3 dX0_plainLiking_8 ?_
  refine lv_aload_n hx hb dX0_plainLiking_9 rfl (lv_at hl 0 rfl) ?_
  refine lv_iload_n hx hb dX0_plainLiking_10 rfl (lv_at hl 1 rfl) ?_
  obtain ⟨r5, μ4, h6, h⟩ := bd_ok h
  refine go_i (callV_run (As := [.int v1]) (rest := [.int (μ.1 (x1 + 10) (Int32.toNatClampNeg v2))]) C hl hP (hS.wide hJ).2.1 (iw hw (fi_0 hk0)) hk0 (m_X0_tasteOf l w hJ hw v0 v1 hk0 μ h6) mv_X0_185 ⟨rfl, rfl, by decide, by decide⟩ rfl rfl (Nat.le_of_ble_eq_true rfl) ⟨Nat.zero_le _, Nat.zero_le _⟩ dX0_plainLiking_11) hS (fun H locs hP hS => ?_)
  refine lv_isub hx hb dX0_plainLiking_14 ?_
  refine b_mabs (rest := []) C hl mm_X0_203 (by decide) (Nat.le_of_ble_eq_true rfl) dX0_plainLiking_15 ?_
  refine lv_topi (fun x7 ex7 => ?_)
  replace h := vl_ok ex7 h
  refine lv_istore_n (lv' := [(3, .int x7), (0, .ref (w.2.2.1 v0)), (1, .int v1), (2, .int v2)]) hx hb dX0_plainLiking_18 rfl hl (by decide) rfl (fun ls hl => ?_)
  refine lv_bipush (v := (50)) hx hb dX0_plainLiking_19 (by decide) ?_
  refine lv_iconst (v := (5)) hx hb dX0_plainLiking_21 (by decide) ?_
  refine lv_iload_n hx hb dX0_plainLiking_22 rfl (lv_at hl 0 rfl) ?_
  refine lv_imul hx hb dX0_plainLiking_23 ?_
  refine lv_isub hx hb dX0_plainLiking_24 ?_
  refine lv_aload_n hx hb dX0_plainLiking_25 rfl (lv_at hl 1 rfl) ?_
  refine r_getRx C hP (iw hw (fi_0 hk0)) hk0 fl_X0_41 rfl (zw hw) dX0_plainLiking_26 (fun x8 ex8 => ?_)
  replace h := vl_ok ex8 h
  obtain ⟨g9, h⟩ := gd_ok h
  refine r_getF (off := 9) C hP (iw hw (fi_2 g9)) g9 fl_X0_208 rfl rfl (zw hw) dX0_plainLiking_29 ?_
  refine lv_iload_n hx hb dX0_plainLiking_32 rfl (lv_at hl 3 rfl) ?_
  obtain ⟨g10, h⟩ := gd_ok h
  refine r_iald C hP (iw hw (ff_2_6 g9).2) (ff_2_6 g9).1 g10 dX0_plainLiking_33 ?_
  refine lv_aload_n hx hb dX0_plainLiking_34 rfl (lv_at hl 1 rfl) ?_
  refine r_getRx C hP (iw hw (fi_0 hk0)) hk0 fl_X0_41 rfl (zw hw) dX0_plainLiking_35 (fun x11 ex11 => ?_)
  replace h := vl_ok ex11 h
  obtain ⟨g12, h⟩ := gd_ok h
  refine r_getF (off := 12) C hP (iw hw (fi_2 g12)) g12 fl_X0_211 rfl rfl (zw hw) dX0_plainLiking_38 ?_
  refine lv_iload_n hx hb dX0_plainLiking_41 rfl (lv_at hl 2 rfl) ?_
  obtain ⟨g13, h⟩ := gd_ok h
  refine r_iald C hP (iw hw (ff_2_9 g12).2) (ff_2_9 g12).1 g13 dX0_plainLiking_42 ?_
  refine lv_icmp_ne (tgt := 51) hx hb dX0_plainLiking_43 (by decide) (fun c14 => ?_) (fun c14 => ?_)
  · replace h := if_f c14 h
    refine lv_iconst (v := (0)) hx hb dX0_plainLiking_51 (by decide) ?_
    refine lv_iadd hx hb dX0_plainLiking_52 ?_
    exact r_iret C hr hP hS h dX0_plainLiking_53
  · replace h := if_t c14 h
    refine lv_bipush (v := (20)) hx hb dX0_plainLiking_46 (by decide) ?_
    refine lv_goto (tgt := 52) hx hb dX0_plainLiking_48 (by decide) ?_
    refine lv_iadd hx hb dX0_plainLiking_52 ?_
    exact r_iret C hr hP hS h dX0_plainLiking_53

def f_X0_within (v0 : Int64) (v2 : Int32) (μ : fMem) : Option (Int32 × fMem) :=
  some ((Int64.toInt32 (lmx (0 : Int64) (lmn (v2.toInt64) v0))), μ)
def rm_X0_within : Room := { frames := 1, cells := 0, slots := 0, locals := 80 }
set_option maxHeartbeats 4000000 in
set_option maxRecDepth 100000 in
theorem m_X0_within (l : Launch) (w : fW) (hJ : fJ w) (hw : w.2.2.2 = sd 0) (v0 : Int64) (v2 : Int32) (μ : fMem) {r : Int32} {μr : fMem} (h : f_X0_within v0 v2 μ = some (r, μr)) : Met l yX0_within (.code yX0_within cX0_within 3 (some .int) :: gw) rm_X0_within (fPc w [.long v0, .int v2] μ) (fQi w r μr) 0 0 (fA w) := by
  refine met_of hJ (by decide) ?_ (Nat.le_of_ble_eq_true rfl)
  generalize ([.long v0, .int v2] : List Value).toArray = args
  intro p e s m below meth c ls C hr hP hl hS
  obtain ⟨hx, hb, hml, hown, hts, hK, -, hlk, hT⟩ := id C
  have hl : lv_has ls 3 [(0, .long v0), (2, .int v2)] := hl
  unfold f_X0_within at h
  refine lv_lconst (v := 0) hx hb dX0_within_0 (by decide) ?_
  refine lv_iload_n hx hb dX0_within_1 rfl (lv_at hl 1 rfl) ?_
  refine lv_i2l hx hb dX0_within_2 rfl ?_
  refine lv_lload_n hx hb dX0_within_3 rfl (lv_at hl 0 rfl) ?_
  refine b_lmin (rest := [.long (0 : Int64)]) C hl mm_X0_217 (by decide) (Nat.le_of_ble_eq_true rfl) dX0_within_4 ?_
  refine b_lmax (rest := []) C hl mm_X0_221 (by decide) (Nat.le_of_ble_eq_true rfl) dX0_within_7 ?_
  refine lv_l2i hx hb dX0_within_10 rfl ?_
  exact r_iret C hr hP hS h dX0_within_11

def f_X0_likes_j142 (v0 : Nat) (v4 : Int32) (μ : fMem) : Option (Int32 × fMem) :=
  gd (ixo v4 48) (some ((μ.1 (v0 + 38) (Int32.toNatClampNeg v4)), μ))
def f_X0_likes_j132 (v0 : Nat) (v4 : Int32) (v5 : Int64) (t0 : Nat) (t1 : Int32) (t2 : Int32) (μ : fMem) : Option (Int32 × fMem) :=
  gd (ixo t1 48) (vl (sI μ t0 (Int32.toNatClampNeg t1) t2) fun μ32 => gd (ixo v4 48) (vl (sL μ32 (v0 + 37) (Int32.toNatClampNeg v4) v5) fun μ34 => f_X0_likes_j142 v0 v4 μ34))
def f_X0_likes_j62 (v0 : Nat) (v1 : Int32) (v2 : Int32) (v3 : Int32) (v4 : Int32) (t0 : Int64) (t1 : Int64) (μ : fMem) : Option (Int32 × fMem) :=
  vl (t0 + t1) fun x13 => gd (ixo v4 48) (if (lg_cmp (μ.2.1 (v0 + 37) (Int32.toNatClampNeg v4)) x13) = 0 then f_X0_likes_j142 v0 v4 μ else bd (f_X0_tellNames v0 v1 v2 v3 μ) fun r17 μ16 => vl (μ16.2.2 v0 8) fun x19 => gd (kd x19 = (4, 2)) (bd (f_X3_work (x19 + 16) (v0 + 35) μ16) fun r22 μ21 => if (lg_cmp r22 (-9223372036854775808 : Int64)) = 0 then bd (f_X0_plainLiking v0 v1 v2 μ21) fun r29 μ28 => f_X0_likes_j132 v0 v4 x13 (v0 + 38) v4 r29 μ28 else bd (f_X0_within r22 (99 : Int32) μ21) fun r26 μ25 => f_X0_likes_j132 v0 v4 x13 (v0 + 38) v4 r26 μ25))
def f_X0_likes (v0 : Nat) (v1 : Int32) (v2 : Int32) (v3 : Int32) (μ : fMem) : Option (Int32 × fMem) :=
  if v1 < 0 then some ((0 : Int32), μ) else if (6 : Int32) ≤ v1 then some ((0 : Int32), μ) else if v2 < 0 then some ((0 : Int32), μ) else if v2 < (8 : Int32) then vl ((v1 * (8 : Int32)) + v2) fun x5 => bd (f_X0_tasteOf v0 v1 μ) fun r7 μ6 => if (μ6.1 v0 16) = 0 then f_X0_likes_j62 v0 v1 v2 v3 x5 ((μ.2.1 v0 15) + (r7.toInt64)) (0 : Int64) μ6 else bd (f_X0_warmth v0 v3 μ6) fun r11 μ10 => f_X0_likes_j62 v0 v1 v2 v3 x5 ((μ.2.1 v0 15) + (r7.toInt64)) ((r11.toInt64) * (33554432 : Int64)) μ10 else some ((0 : Int32), μ)
def rm_X0_likes : Room := { frames := 2, cells := 0, slots := 0, locals := 103 }
set_option maxHeartbeats 4000000 in
set_option maxRecDepth 100000 in
theorem m_X0_likes (l : Launch) (w : fW) (hJ : fJ w) (hw : w.2.2.2 = sd 0) (v0 : Nat) (v1 : Int32) (v2 : Int32) (v3 : Int32) (hk0 : kd v0 = (4, 0)) (μ : fMem) {r : Int32} {μr : fMem} (h : f_X0_likes v0 v1 v2 v3 μ = some (r, μr)) : Met l yX0_likes (.code yX0_likes cX0_likes 9 (some .int) :: gw) rm_X0_likes (fPc w [.ref (w.2.2.1 v0), .int v1, .int v2, .int v3] μ) (fQi w r μr) 0 0 (fA w) := by
  refine met_of hJ (by decide) ?_ (Nat.le_of_ble_eq_true rfl)
  generalize ([.ref (w.2.2.1 v0), .int v1, .int v2, .int v3] : List Value).toArray = args
  intro p e s m below meth c ls C hr hP hl hS
  obtain ⟨hx, hb, hml, hown, hts, hK, -, hlk, hT⟩ := id C
  have hl : lv_has ls 9 [(0, .ref (w.2.2.1 v0)), (1, .int v1), (2, .int v2), (3, .int v3)] := hl
  unfold f_X0_likes at h
  have J142 : ∀ (v4 : Int32) (μ : fMem), f_X0_likes_j142 v0 v4 μ = some (r, μr) → WW p l e rm_X0_likes s m args below meth c (MQ below (fQi w r μr) args s 0 0 (fA w)) w μ 9 142 [] [(0, .ref (w.2.2.1 v0)), (4, .int v4)] := by
    intro v4 μ  h H locs ls hP hS hl
    unfold f_X0_likes_j142 at h
    refine lv_aload_n hx hb dX0_likes_142 rfl (lv_at hl 0 rfl) ?_
    refine r_getF (off := 38) C hP (iw hw (fi_0 hk0)) hk0 fl_X0_66 rfl rfl (zw hw) dX0_likes_143 ?_
    refine lv_iload hx hb dX0_likes_146 (lv_at hl 1 rfl) ?_
    obtain ⟨g31, h⟩ := gd_ok h
    refine r_iald C hP (iw hw (ff_0_14 hk0).2) (ff_0_14 hk0).1 g31 dX0_likes_148 ?_
    exact r_iret C hr hP hS h dX0_likes_149
  have J132 : ∀ (v4 : Int32) (v5 : Int64) (t0 : Nat) (t1 : Int32) (t2 : Int32) (μ : fMem) (_ : kd t0 = (0, 48)) (_ : inW w.2.2.2 t0), f_X0_likes_j132 v0 v4 v5 t0 t1 t2 μ = some (r, μr) → WW p l e rm_X0_likes s m args below meth c (MQ below (fQi w r μr) args s 0 0 (fA w)) w μ 9 132 [.int t2, .int t1, .ref (w.2.2.1 t0)] [(0, .ref (w.2.2.1 v0)), (4, .int v4), (5, .long v5)] := by
    intro v4 v5 t0 t1 t2 μ kt0 it0 h H locs ls hP hS hl
    unfold f_X0_likes_j132 at h
    obtain ⟨g33, h⟩ := gd_ok h
    refine r_iast C hP hS it0 kt0 g33 dX0_likes_132 (fun H locs hP hS => ?_)
    obtain ⟨μ32, eμ32, h⟩ := vl_ex h
    have hP : fP w μ32 H := by rw [eμ32]; exact hP
    refine lv_aload_n hx hb dX0_likes_133 rfl (lv_at hl 0 rfl) ?_
    refine r_getF (off := 37) C hP (iw hw (fi_0 hk0)) hk0 fl_X0_63 rfl rfl (zw hw) dX0_likes_134 ?_
    refine lv_iload hx hb dX0_likes_137 (lv_at hl 1 rfl) ?_
    refine lv_lload hx hb dX0_likes_139 (lv_at hl 2 rfl) ?_
    obtain ⟨g35, h⟩ := gd_ok h
    refine r_last C hP hS (iw hw (ff_0_13 hk0).2) (ff_0_13 hk0).1 g35 dX0_likes_141 (fun H locs hP hS => ?_)
    obtain ⟨μ34, eμ34, h⟩ := vl_ex h
    have hP : fP w μ34 H := by rw [eμ34]; exact hP
    exact J142 v4 μ34  h _ _ _ hP hS (lv_sub hl [0, 1] rfl)
  have J62 : ∀ (v4 : Int32) (t0 : Int64) (t1 : Int64) (μ : fMem), f_X0_likes_j62 v0 v1 v2 v3 v4 t0 t1 μ = some (r, μr) → WW p l e rm_X0_likes s m args below meth c (MQ below (fQi w r μr) args s 0 0 (fA w)) w μ 9 62 [.long t1, .long t0] [(0, .ref (w.2.2.1 v0)), (1, .int v1), (2, .int v2), (3, .int v3), (4, .int v4)] := by
    intro v4 t0 t1 μ  h H locs ls hP hS hl
    unfold f_X0_likes_j62 at h
    refine lv_ladd hx hb dX0_likes_62 ?_
    refine lv_topl (fun x13 ex13 => ?_)
    replace h := vl_ok ex13 h
    refine lv_lstore (lv' := [(5, .long x13), (0, .ref (w.2.2.1 v0)), (1, .int v1), (2, .int v2), (3, .int v3), (4, .int v4)]) hx hb dX0_likes_63 hl (by decide) rfl (fun ls hl => ?_)
    refine lv_aload_n hx hb dX0_likes_65 rfl (lv_at hl 1 rfl) ?_
    refine r_getF (off := 37) C hP (iw hw (fi_0 hk0)) hk0 fl_X0_63 rfl rfl (zw hw) dX0_likes_66 ?_
    refine lv_iload hx hb dX0_likes_69 (lv_at hl 5 rfl) ?_
    obtain ⟨g14, h⟩ := gd_ok h
    refine r_lald C hP (iw hw (ff_0_13 hk0).2) (ff_0_13 hk0).1 g14 dX0_likes_71 ?_
    refine lv_lload hx hb dX0_likes_72 (lv_at hl 0 rfl) ?_
    refine W.lcmp hx hb dX0_likes_74 ?_
    refine lv_if_eq (tgt := 142) hx hb dX0_likes_75 (by decide) (fun c15 => ?_) (fun c15 => ?_)
    · replace h := if_t c15 h
      exact J142 v4 μ  h _ _ _ hP hS (lv_sub hl [1, 5] rfl)
    · replace h := if_f c15 h
      refine lv_aload_n hx hb dX0_likes_78 rfl (lv_at hl 1 rfl) ?_
      refine lv_iload_n hx hb dX0_likes_79 rfl (lv_at hl 2 rfl) ?_
      refine lv_iload_n hx hb dX0_likes_80 rfl (lv_at hl 3 rfl) ?_
      refine lv_iload_n hx hb dX0_likes_81 rfl (lv_at hl 4 rfl) ?_
      obtain ⟨r17, μ16, h18, h⟩ := bd_ok h
      refine go_v (callV_run (As := [.int v1, .int v2, .int v3]) (rest := []) C hl hP (hS.wide hJ).2.1 (iw hw (fi_0 hk0)) hk0 (m_X0_tellNames l w hJ hw v0 v1 v2 v3 hk0 μ h18) mv_X0_131 ⟨rfl, rfl, by decide, by decide⟩ rfl rfl (Nat.le_of_ble_eq_true rfl) ⟨Nat.zero_le _, Nat.zero_le _⟩ dX0_likes_82) hS (fun H locs hP hS => ?_)
      refine lv_aload_n hx hb dX0_likes_85 rfl (lv_at hl 1 rfl) ?_
      refine r_getRx C hP (iw hw (fi_0 hk0)) hk0 fl_X0_41 rfl (zw hw) dX0_likes_86 (fun x19 ex19 => ?_)
      replace h := vl_ok ex19 h
      obtain ⟨g20, h⟩ := gd_ok h
      refine r_getF (off := 16) C hP (iw hw (fi_2 g20)) g20 fl_X0_103 rfl rfl (zw hw) dX0_likes_89 ?_
      refine lv_aload_n hx hb dX0_likes_92 rfl (lv_at hl 1 rfl) ?_
      refine r_getF (off := 35) C hP (iw hw (fi_0 hk0)) hk0 fl_X0_55 rfl rfl (zw hw) dX0_likes_93 ?_
      obtain ⟨r22, μ21, h23, h⟩ := bd_ok h
      refine go_l (callV_run (As := [.ref (w.2.2.1 (v0 + 35))]) (rest := []) C hl hP (hS.wide hJ).2.1 (iw hw (ff_2_13 g20).2) (ff_2_13 g20).1 (m_X3_work l w hJ hw (x19 + 16) (v0 + 35) (ff_2_13 g20).1 (karr (ff_0_11 hk0).1) (iw hw (ff_0_11 hk0).2) μ16 h23) mv_X0_138 ⟨rfl, rfl, by decide, by decide⟩ rfl rfl (Nat.le_of_ble_eq_true rfl) ⟨Nat.zero_le _, Nat.zero_le _⟩ dX0_likes_96) hS (fun H locs hP hS => ?_)
      refine lv_lstore (lv' := [(7, .long r22), (5, .long x13), (0, .ref (w.2.2.1 v0)), (1, .int v1), (2, .int v2), (3, .int v3), (4, .int v4)]) hx hb dX0_likes_99 hl (by decide) rfl (fun ls hl => ?_)
      refine lv_aload_n hx hb dX0_likes_101 rfl (lv_at hl 2 rfl) ?_
      refine r_getF (off := 38) C hP (iw hw (fi_0 hk0)) hk0 fl_X0_66 rfl rfl (zw hw) dX0_likes_102 ?_
      refine lv_iload hx hb dX0_likes_105 (lv_at hl 6 rfl) ?_
      refine lv_lload hx hb dX0_likes_107 (lv_at hl 0 rfl) ?_
      refine lv_ldc2 hx hb hown (hts _ ct_X0_142) dX0_likes_109 ?_
      refine W.lcmp hx hb dX0_likes_112 ?_
      refine lv_if_ne (tgt := 125) hx hb dX0_likes_113 (by decide) (fun c24 => ?_) (fun c24 => ?_)
      · replace h := if_f c24 h
        refine lv_lload hx hb dX0_likes_125 (lv_at hl 0 rfl) ?_
        refine lv_bipush (v := (99)) hx hb dX0_likes_127 (by decide) ?_
        obtain ⟨r26, μ25, h27, h⟩ := bd_ok h
        refine go_i (callS_run (As := [.long r22, .int (99 : Int32)]) (rest := [.int v4, .ref (w.2.2.1 (v0 + 38))]) C hl hP (hS.wide hJ).2.1 (m_X0_within l w hJ hw r22 (99 : Int32)  μ21 h27) ms_X0_196 ⟨rfl, rfl, by decide, by decide⟩ rfl rfl (Nat.le_of_ble_eq_true rfl) ⟨Nat.zero_le _, Nat.zero_le _⟩ dX0_likes_129) hS (fun H locs hP hS => ?_)
        exact J132 v4 x13 (v0 + 38) v4 r26 μ25 (ff_0_14 hk0).1 (iw hw (ff_0_14 hk0).2) h _ _ _ hP hS (lv_sub hl [2, 6, 1] rfl)
      · replace h := if_t c24 h
        refine lv_aload_n hx hb dX0_likes_116 rfl (lv_at hl 2 rfl) ?_
        refine lv_iload_n hx hb dX0_likes_117 rfl (lv_at hl 3 rfl) ?_
        refine lv_iload_n hx hb dX0_likes_118 rfl (lv_at hl 4 rfl) ?_
        obtain ⟨r29, μ28, h30, h⟩ := bd_ok h
        refine go_i (callV_run (As := [.int v1, .int v2]) (rest := [.int v4, .ref (w.2.2.1 (v0 + 38))]) C hl hP (hS.wide hJ).2.1 (iw hw (fi_0 hk0)) hk0 (m_X0_plainLiking l w hJ hw v0 v1 v2 hk0 μ21 h30) mv_X0_193 ⟨rfl, rfl, by decide, by decide⟩ rfl rfl (Nat.le_of_ble_eq_true rfl) ⟨Nat.zero_le _, Nat.zero_le _⟩ dX0_likes_119) hS (fun H locs hP hS => ?_)
        refine lv_goto (tgt := 132) hx hb dX0_likes_122 (by decide) ?_
        exact J132 v4 x13 (v0 + 38) v4 r29 μ28 (ff_0_14 hk0).1 (iw hw (ff_0_14 hk0).2) h _ _ _ hP hS (lv_sub hl [2, 6, 1] rfl)
  refine lv_iload_n hx hb dX0_likes_0 rfl (lv_at hl 1 rfl) ?_
  refine lv_if_lt (tgt := 20) hx hb dX0_likes_1 (by decide) (fun c1 => ?_) (fun c1 => ?_)
  · replace h := if_t c1 h
    refine lv_iconst (v := (0)) hx hb dX0_likes_20 (by decide) ?_
    exact r_iret C hr hP hS h dX0_likes_21
  · replace h := if_f c1 h
    refine lv_iload_n hx hb dX0_likes_4 rfl (lv_at hl 1 rfl) ?_
    refine lv_bipush (v := (6)) hx hb dX0_likes_5 (by decide) ?_
    refine lv_icmp_ge (tgt := 20) hx hb dX0_likes_7 (by decide) (fun c2 => ?_) (fun c2 => ?_)
    · replace h := if_t c2 h
      refine lv_iconst (v := (0)) hx hb dX0_likes_20 (by decide) ?_
      exact r_iret C hr hP hS h dX0_likes_21
    · replace h := if_f c2 h
      refine lv_iload_n hx hb dX0_likes_10 rfl (lv_at hl 2 rfl) ?_
      refine lv_if_lt (tgt := 20) hx hb dX0_likes_11 (by decide) (fun c3 => ?_) (fun c3 => ?_)
      · replace h := if_t c3 h
        refine lv_iconst (v := (0)) hx hb dX0_likes_20 (by decide) ?_
        exact r_iret C hr hP hS h dX0_likes_21
      · replace h := if_f c3 h
        refine lv_iload_n hx hb dX0_likes_14 rfl (lv_at hl 2 rfl) ?_
        refine lv_bipush (v := (8)) hx hb dX0_likes_15 (by decide) ?_
        refine lv_icmp_lt (tgt := 22) hx hb dX0_likes_17 (by decide) (fun c4 => ?_) (fun c4 => ?_)
        · replace h := if_t c4 h
          refine lv_iload_n hx hb dX0_likes_22 rfl (lv_at hl 1 rfl) ?_
          refine lv_bipush (v := (8)) hx hb dX0_likes_23 (by decide) ?_
          refine lv_imul hx hb dX0_likes_25 ?_
          refine lv_iload_n hx hb dX0_likes_26 rfl (lv_at hl 2 rfl) ?_
          refine lv_iadd hx hb dX0_likes_27 ?_
          refine lv_topi (fun x5 ex5 => ?_)
          replace h := vl_ok ex5 h
          refine lv_istore (lv' := [(4, .int x5), (0, .ref (w.2.2.1 v0)), (1, .int v1), (2, .int v2), (3, .int v3)]) hx hb dX0_likes_28 hl (by decide) rfl (fun ls hl => ?_)
          refine lv_aload_n hx hb dX0_likes_30 rfl (lv_at hl 1 rfl) ?_
          refine r_getL C hP (iw hw (fi_0 hk0)) hk0 fl_X0_69 rfl dX0_likes_31 ?_
          refine lv_aload_n hx hb dX0_likes_34 rfl (lv_at hl 1 rfl) ?_
          refine lv_iload_n hx hb dX0_likes_35 rfl (lv_at hl 2 rfl) ?_
          obtain ⟨r7, μ6, h8, h⟩ := bd_ok h
          refine go_i (callV_run (As := [.int v1]) (rest := [.long (μ.2.1 v0 15)]) C hl hP (hS.wide hJ).2.1 (iw hw (fi_0 hk0)) hk0 (m_X0_tasteOf l w hJ hw v0 v1 hk0 μ h8) mv_X0_185 ⟨rfl, rfl, by decide, by decide⟩ rfl rfl (Nat.le_of_ble_eq_true rfl) ⟨Nat.zero_le _, Nat.zero_le _⟩ dX0_likes_36) hS (fun H locs hP hS => ?_)
          refine lv_i2l hx hb dX0_likes_39 rfl ?_
          refine lv_ladd hx hb dX0_likes_40 ?_
          refine lv_aload_n hx hb dX0_likes_41 rfl (lv_at hl 1 rfl) ?_
          refine r_getI C hP (iw hw (fi_0 hk0)) hk0 fl_X0_72 (Or.inr rfl) dX0_likes_42 ?_
          refine lv_if_eq (tgt := 61) hx hb dX0_likes_45 (by decide) (fun c9 => ?_) (fun c9 => ?_)
          · replace h := if_t c9 h
            refine lv_lconst (v := 0) hx hb dX0_likes_61 (by decide) ?_
            exact J62 x5 ((μ.2.1 v0 15) + (r7.toInt64)) (0 : Int64) μ6  h _ _ _ hP hS (lv_sub hl [1, 2, 3, 4, 0] rfl)
          · replace h := if_f c9 h
            refine lv_aload_n hx hb dX0_likes_48 rfl (lv_at hl 1 rfl) ?_
            refine lv_iload_n hx hb dX0_likes_49 rfl (lv_at hl 4 rfl) ?_
            obtain ⟨r11, μ10, h12, h⟩ := bd_ok h
            refine go_i (callV_run (As := [.int v3]) (rest := [.long ((μ.2.1 v0 15) + (r7.toInt64))]) C hl hP (hS.wide hJ).2.1 (iw hw (fi_0 hk0)) hk0 (m_X0_warmth l w hJ hw v0 v3 hk0 μ6 h12) mv_X0_188 ⟨rfl, rfl, by decide, by decide⟩ rfl rfl (Nat.le_of_ble_eq_true rfl) ⟨Nat.zero_le _, Nat.zero_le _⟩ dX0_likes_50) hS (fun H locs hP hS => ?_)
            refine lv_i2l hx hb dX0_likes_53 rfl ?_
            refine lv_ldc2 hx hb hown (hts _ ct_X0_191) dX0_likes_54 ?_
            refine lv_lmul hx hb dX0_likes_57 ?_
            refine lv_goto (tgt := 62) hx hb dX0_likes_58 (by decide) ?_
            exact J62 x5 ((μ.2.1 v0 15) + (r7.toInt64)) ((r11.toInt64) * (33554432 : Int64)) μ10  h _ _ _ hP hS (lv_sub hl [1, 2, 3, 4, 0] rfl)
        · replace h := if_f c4 h
          refine lv_iconst (v := (0)) hx hb dX0_likes_20 (by decide) ?_
          exact r_iret C hr hP hS h dX0_likes_21

def f_X0_seat_L19 (v0 : Nat) (v1 : Int32) (r7 : Int32) (v3 : Int32) (μ : fMem) : Option (Nat × (Int32 × fMem)) :=
  if r7 ≤ v3 then some (1, (v3, μ)) else vl (μ.2.2 v0 9) fun x10 => gd (kd x10 = (4, 7)) (gd (ixo v3 8) (vl (μ.1 (x10 + 1) (Int32.toNatClampNeg v3)) fun x13 => if x13 < 0 then vl (v3 + (1 : Int32)) fun x15 => some (0, (x15, μ)) else if (6 : Int32) ≤ x13 then vl (v3 + (1 : Int32)) fun x17 => some (0, (x17, μ)) else vl (μ.2.2 v0 9) fun x18 => gd (kd x18 = (4, 7)) (bd (f_X7_isRoped x18 x13 μ) fun r21 μ20 => if r21 = 0 then gd (ixo x13 6) (bd (f_X0_likes v0 v1 v3 x13 μ20) fun r27 μ26 => gd (ixo x13 6) (vl (sI μ26 (v0 + 36) (Int32.toNatClampNeg x13) ((μ20.1 (v0 + 36) (Int32.toNatClampNeg x13)) + r27)) fun μ29 => vl (v3 + (1 : Int32)) fun x31 => some (0, (x31, μ29)))) else vl (v3 + (1 : Int32)) fun x24 => some (0, (x24, μ20)))))
def f_X0_seat_L98 (v0 : Nat) (r39 : Int32) (v3 : Int32) (v5 : Int32) (μ : fMem) : Option (Nat × (Int32 × Int32 × fMem)) :=
  if r39 ≤ v5 then some (1, (v3, v5, μ)) else vl (μ.2.2 v0 9) fun x42 => gd (kd x42 = (4, 7)) (bd (f_X7_isRoped x42 v5 μ) fun r45 μ44 => if r45 = 0 then if v3 = (-1 : Int32) then vl (v5 + (1 : Int32)) fun x50 => some (0, (v5, x50, μ44)) else gd (ixo v5 6) (gd (ixo v3 6) (if (μ44.1 (v0 + 36) (Int32.toNatClampNeg v5)) ≤ (μ44.1 (v0 + 36) (Int32.toNatClampNeg v3)) then vl (v5 + (1 : Int32)) fun x54 => some (0, (v3, x54, μ44)) else vl (v5 + (1 : Int32)) fun x55 => some (0, (v5, x55, μ44)))) else vl (v5 + (1 : Int32)) fun x48 => some (0, (v3, x48, μ44)))
def f_X0_seat (v0 : Nat) (v1 : Int32) (μ : fMem) : Option (Int32 × fMem) :=
  bd (f_J7_fill_53178 (v0 + 36) (0 : Int32) μ) fun r2 μ1 => vl (μ1.2.2 v0 8) fun x4 => gd (kd x4 = (4, 2)) (bd (f_X2_told x4 (2 : Int32) μ1) fun r7 μ6 => bd (lpn (fun (q : Int32 × fMem) => f_X0_seat_L19 v0 v1 r7 q.1 q.2) fuel ((0 : Int32), μ6)) fun t32 q33 => (fun (x34 : Int32) (μ35 : fMem) => vl (μ35.2.2 v0 8) fun x36 => gd (kd x36 = (4, 2)) (bd (f_X2_told x36 (0 : Int32) μ35) fun r39 μ38 => bd (lpn (fun (q : Int32 × Int32 × fMem) => f_X0_seat_L98 v0 r39 q.1 q.2.1 q.2.2) fuel ((-1 : Int32), (0 : Int32), μ38)) fun t56 q57 => (fun (x58 : Int32) (x59 : Int32) (μ60 : fMem) => some (x58, μ60)) q57.1 q57.2.1 q57.2.2)) q33.1 q33.2)
def rm_X0_seat : Room := { frames := 3, cells := 0, slots := 0, locals := 131 }
set_option maxHeartbeats 4000000 in
set_option maxRecDepth 100000 in
theorem m_X0_seat (l : Launch) (w : fW) (hJ : fJ w) (hw : w.2.2.2 = sd 0) (v0 : Nat) (v1 : Int32) (hk0 : kd v0 = (4, 0)) (μ : fMem) {r : Int32} {μr : fMem} (h : f_X0_seat v0 v1 μ = some (r, μr)) : Met l yX0_seat (.code yX0_seat cX0_seat 6 (some .int) :: gw) rm_X0_seat (fPc w [.ref (w.2.2.1 v0), .int v1] μ) (fQi w r μr) 0 0 (fA w) := by
  refine met_of hJ (by decide) ?_ (Nat.le_of_ble_eq_true rfl)
  generalize ([.ref (w.2.2.1 v0), .int v1] : List Value).toArray = args
  intro p e s m below meth c ls C hr hP hl hS
  obtain ⟨hx, hb, hml, hown, hts, hK, -, hlk, hT⟩ := id C
  have hl : lv_has ls 6 [(0, .ref (w.2.2.1 v0)), (1, .int v1)] := hl
  unfold f_X0_seat at h
  refine lv_aload_n hx hb dX0_seat_0 rfl (lv_at hl 0 rfl) ?_
  refine r_getF (off := 36) C hP (iw hw (fi_0 hk0)) hk0 fl_X0_59 rfl rfl (zw hw) dX0_seat_1 ?_
  refine lv_iconst (v := (0)) hx hb dX0_seat_4 (by decide) ?_
  obtain ⟨r2, μ1, h3, h⟩ := bd_ok h
  refine go_v (callS_run (As := [.ref (w.2.2.1 (v0 + 36)), .int (0 : Int32)]) (rest := []) C hl hP (hS.wide hJ).2.1 (m_J7_fill_53178 l w hJ (v0 + 36) (0 : Int32) (karr (ff_0_12 hk0).1) (iw hw (ff_0_12 hk0).2) μ h3) ms_X0_179 ⟨rfl, rfl, by decide, by decide⟩ rfl rfl (Nat.le_of_ble_eq_true rfl) ⟨Nat.zero_le _, Nat.zero_le _⟩ dX0_seat_5) hS (fun H locs hP hS => ?_)
  refine lv_aload_n hx hb dX0_seat_8 rfl (lv_at hl 0 rfl) ?_
  refine r_getRx C hP (iw hw (fi_0 hk0)) hk0 fl_X0_41 rfl (zw hw) dX0_seat_9 (fun x4 ex4 => ?_)
  replace h := vl_ok ex4 h
  obtain ⟨g5, h⟩ := gd_ok h
  refine lv_iconst (v := (2)) hx hb dX0_seat_12 (by decide) ?_
  obtain ⟨r7, μ6, h8, h⟩ := bd_ok h
  refine go_i (callV_run (As := [.int (2 : Int32)]) (rest := []) C hl hP (hS.wide hJ).2.1 (iw hw (fi_2 g5)) g5 (m_X2_told l w hJ hw x4 (2 : Int32) g5 μ1 h8) mv_X0_121 ⟨rfl, rfl, by decide, by decide⟩ rfl rfl (Nat.le_of_ble_eq_true rfl) ⟨Nat.zero_le _, Nat.zero_le _⟩ dX0_seat_13) hS (fun H locs hP hS => ?_)
  refine lv_istore_n (lv' := [(2, .int r7), (0, .ref (w.2.2.1 v0)), (1, .int v1)]) hx hb dX0_seat_16 rfl hl (by decide) rfl (fun ls hl => ?_)
  refine lv_iconst (v := (0)) hx hb dX0_seat_17 (by decide) ?_
  refine lv_istore_n (lv' := [(3, .int (0 : Int32)), (2, .int r7), (0, .ref (w.2.2.1 v0)), (1, .int v1)]) hx hb dX0_seat_18 rfl hl (by decide) rfl (fun ls hl => ?_)
  obtain ⟨t32, q33, h62, h⟩ := bd_ok h
  refine lpn_ind (b := (fun (q : Int32 × fMem) => f_X0_seat_L19 v0 v1 r7 q.1 q.2)) (P := fun (q : Int32 × fMem) => WW p l e rm_X0_seat s m args below meth c (MQ below (fQi w r μr) args s 0 0 (fA w)) w q.2 6 19 [] [(0, .ref (w.2.2.1 v0)), (1, .int v1), (2, .int r7), (3, .int q.1)]) (K := fun _ (q : Int32 × fMem) => WW p l e rm_X0_seat s m args below meth c (MQ below (fQi w r μr) args s 0 0 (fA w)) w q.2 6 83 [] [(0, .ref (w.2.2.1 v0))]) ?_ fuel ((0 : Int32), μ6) t32 q33 h62 ?_ _ _ _ hP hS (lv_sub hl [2, 3, 1, 0] rfl)
  · intro q tz19 sz19 h hP0_19 hK0_19 H locs ls hP hS hl
    obtain ⟨v3, μ⟩ := q
    have hP : fP w μ H := hP
    have hl : lv_has ls 6 [(0, .ref (w.2.2.1 v0)), (1, .int v1), (2, .int r7), (3, .int v3)] := hl
    have h : f_X0_seat_L19 v0 v1 r7 v3 μ = some (tz19, sz19) := h
    unfold f_X0_seat_L19 at h
    refine lv_iload_n hx hb dX0_seat_19 rfl (lv_at hl 3 rfl) ?_
    refine lv_iload_n hx hb dX0_seat_20 rfl (lv_at hl 2 rfl) ?_
    refine lv_icmp_ge (tgt := 83) hx hb dX0_seat_21 (by decide) (fun c9 => ?_) (fun c9 => ?_)
    · replace h := if_t c9 h
      obtain ⟨rfl, rfl⟩ := leaf h
      exact (hK0_19 0 rfl) _ _ _ hP hS (lv_sub hl [0] rfl)
    · replace h := if_f c9 h
      refine lv_aload_n hx hb dX0_seat_24 rfl (lv_at hl 0 rfl) ?_
      refine r_getRx C hP (iw hw (fi_0 hk0)) hk0 fl_X0_48 rfl (zw hw) dX0_seat_25 (fun x10 ex10 => ?_)
      replace h := vl_ok ex10 h
      obtain ⟨g11, h⟩ := gd_ok h
      refine r_getF (off := 1) C hP (iw hw (fi_7 g11)) g11 fl_X0_173 rfl rfl (zw hw) dX0_seat_28 ?_
      refine lv_iload_n hx hb dX0_seat_31 rfl (lv_at hl 3 rfl) ?_
      obtain ⟨g12, h⟩ := gd_ok h
      refine r_iald C hP (iw hw (ff_7_0 g11).2) (ff_7_0 g11).1 g12 dX0_seat_32 ?_
      refine lv_topi (fun x13 ex13 => ?_)
      replace h := vl_ok ex13 h
      refine lv_istore (lv' := [(4, .int x13), (0, .ref (w.2.2.1 v0)), (1, .int v1), (2, .int r7), (3, .int v3)]) hx hb dX0_seat_33 hl (by decide) rfl (fun ls hl => ?_)
      refine lv_iload hx hb dX0_seat_35 (lv_at hl 0 rfl) ?_
      refine lv_if_lt (tgt := 77) hx hb dX0_seat_37 (by decide) (fun c14 => ?_) (fun c14 => ?_)
      · replace h := if_t c14 h
        obtain ⟨x15, ex15⟩ : ∃ y : Int32, y = (v3 + (1 : Int32)) := ⟨_, rfl⟩
        replace h := vl_ok ex15 h
        refine lv_iinc (v := x15) (lv' := [(3, .int x15), (4, .int x13), (0, .ref (w.2.2.1 v0)), (1, .int v1), (2, .int r7)]) hx hb dX0_seat_77 hl (k := 4) rfl (by rw [ex15]; rfl) (by decide) rfl (fun ls hl => ?_)
        refine lv_goto (tgt := 19) hx hb dX0_seat_80 (by decide) ?_
        obtain ⟨rfl, rfl⟩ := leaf h
        exact hP0_19 rfl _ _ _ hP hS (lv_sub hl [2, 3, 4, 0] rfl)
      · replace h := if_f c14 h
        refine lv_iload hx hb dX0_seat_40 (lv_at hl 0 rfl) ?_
        refine lv_bipush (v := (6)) hx hb dX0_seat_42 (by decide) ?_
        refine lv_icmp_ge (tgt := 77) hx hb dX0_seat_44 (by decide) (fun c16 => ?_) (fun c16 => ?_)
        · replace h := if_t c16 h
          obtain ⟨x17, ex17⟩ : ∃ y : Int32, y = (v3 + (1 : Int32)) := ⟨_, rfl⟩
          replace h := vl_ok ex17 h
          refine lv_iinc (v := x17) (lv' := [(3, .int x17), (4, .int x13), (0, .ref (w.2.2.1 v0)), (1, .int v1), (2, .int r7)]) hx hb dX0_seat_77 hl (k := 4) rfl (by rw [ex17]; rfl) (by decide) rfl (fun ls hl => ?_)
          refine lv_goto (tgt := 19) hx hb dX0_seat_80 (by decide) ?_
          obtain ⟨rfl, rfl⟩ := leaf h
          exact hP0_19 rfl _ _ _ hP hS (lv_sub hl [2, 3, 4, 0] rfl)
        · replace h := if_f c16 h
          refine lv_aload_n hx hb dX0_seat_47 rfl (lv_at hl 1 rfl) ?_
          refine r_getRx C hP (iw hw (fi_0 hk0)) hk0 fl_X0_48 rfl (zw hw) dX0_seat_48 (fun x18 ex18 => ?_)
          replace h := vl_ok ex18 h
          obtain ⟨g19, h⟩ := gd_ok h
          refine lv_iload hx hb dX0_seat_51 (lv_at hl 0 rfl) ?_
          obtain ⟨r21, μ20, h22, h⟩ := bd_ok h
          refine go_i (callV_run (As := [.int x13]) (rest := []) C hl hP (hS.wide hJ).2.1 (iw hw (fi_7 g19)) g19 (m_X7_isRoped l w hJ hw x18 x13 g19 μ h22) mv_X0_182 ⟨rfl, rfl, by decide, by decide⟩ rfl rfl (Nat.le_of_ble_eq_true rfl) ⟨Nat.zero_le _, Nat.zero_le _⟩ dX0_seat_53) hS (fun H locs hP hS => ?_)
          refine lv_if_ne (tgt := 77) hx hb dX0_seat_56 (by decide) (fun c23 => ?_) (fun c23 => ?_)
          · replace h := if_f c23 h
            obtain ⟨x24, ex24⟩ : ∃ y : Int32, y = (v3 + (1 : Int32)) := ⟨_, rfl⟩
            replace h := vl_ok ex24 h
            refine lv_iinc (v := x24) (lv' := [(3, .int x24), (4, .int x13), (0, .ref (w.2.2.1 v0)), (1, .int v1), (2, .int r7)]) hx hb dX0_seat_77 hl (k := 4) rfl (by rw [ex24]; rfl) (by decide) rfl (fun ls hl => ?_)
            refine lv_goto (tgt := 19) hx hb dX0_seat_80 (by decide) ?_
            obtain ⟨rfl, rfl⟩ := leaf h
            exact hP0_19 rfl _ _ _ hP hS (lv_sub hl [2, 3, 4, 0] rfl)
          · replace h := if_t c23 h
            refine lv_aload_n hx hb dX0_seat_59 rfl (lv_at hl 1 rfl) ?_
            refine r_getF (off := 36) C hP (iw hw (fi_0 hk0)) hk0 fl_X0_59 rfl rfl (zw hw) dX0_seat_60 ?_
            refine lv_iload hx hb dX0_seat_63 (lv_at hl 0 rfl) ?_
            refine lv_dup2_11 hx hb dX0_seat_65 rfl rfl ?_
            obtain ⟨g25, h⟩ := gd_ok h
            refine r_iald C hP (iw hw (ff_0_12 hk0).2) (ff_0_12 hk0).1 g25 dX0_seat_66 ?_
            refine lv_aload_n hx hb dX0_seat_67 rfl (lv_at hl 1 rfl) ?_
            refine lv_iload_n hx hb dX0_seat_68 rfl (lv_at hl 2 rfl) ?_
            refine lv_iload_n hx hb dX0_seat_69 rfl (lv_at hl 4 rfl) ?_
            refine lv_iload hx hb dX0_seat_70 (lv_at hl 0 rfl) ?_
            obtain ⟨r27, μ26, h28, h⟩ := bd_ok h
            refine go_i (callV_run (As := [.int v1, .int v3, .int x13]) (rest := [.int (μ20.1 (v0 + 36) (Int32.toNatClampNeg x13)), .int x13, .ref (w.2.2.1 (v0 + 36))]) C hl hP (hS.wide hJ).2.1 (iw hw (fi_0 hk0)) hk0 (m_X0_likes l w hJ hw v0 v1 v3 x13 hk0 μ20 h28) mv_X0_160 ⟨rfl, rfl, by decide, by decide⟩ rfl rfl (Nat.le_of_ble_eq_true rfl) ⟨Nat.zero_le _, Nat.zero_le _⟩ dX0_seat_72) hS (fun H locs hP hS => ?_)
            refine lv_iadd hx hb dX0_seat_75 ?_
            obtain ⟨g30, h⟩ := gd_ok h
            refine r_iast C hP hS (iw hw (ff_0_12 hk0).2) (ff_0_12 hk0).1 g30 dX0_seat_76 (fun H locs hP hS => ?_)
            obtain ⟨μ29, eμ29, h⟩ := vl_ex h
            have hP : fP w μ29 H := by rw [eμ29]; exact hP
            obtain ⟨x31, ex31⟩ : ∃ y : Int32, y = (v3 + (1 : Int32)) := ⟨_, rfl⟩
            replace h := vl_ok ex31 h
            refine lv_iinc (v := x31) (lv' := [(3, .int x31), (4, .int x13), (0, .ref (w.2.2.1 v0)), (1, .int v1), (2, .int r7)]) hx hb dX0_seat_77 hl (k := 4) rfl (by rw [ex31]; rfl) (by decide) rfl (fun ls hl => ?_)
            refine lv_goto (tgt := 19) hx hb dX0_seat_80 (by decide) ?_
            obtain ⟨rfl, rfl⟩ := leaf h
            exact hP0_19 rfl _ _ _ hP hS (lv_sub hl [2, 3, 4, 0] rfl)
  · obtain ⟨x34, μ35⟩ := q33
    intro H locs ls hP hS hl
    have hP : fP w μ35 H := hP
    have hl : lv_has ls 6 [(0, .ref (w.2.2.1 v0))] := hl
    try dsimp only at h
    refine lv_iconst (v := (-1)) hx hb dX0_seat_83 (by decide) ?_
    refine lv_istore_n (lv' := [(3, .int (-1 : Int32)), (0, .ref (w.2.2.1 v0))]) hx hb dX0_seat_84 rfl hl (by decide) rfl (fun ls hl => ?_)
    refine lv_aload_n hx hb dX0_seat_85 rfl (lv_at hl 1 rfl) ?_
    refine r_getRx C hP (iw hw (fi_0 hk0)) hk0 fl_X0_41 rfl (zw hw) dX0_seat_86 (fun x36 ex36 => ?_)
    replace h := vl_ok ex36 h
    obtain ⟨g37, h⟩ := gd_ok h
    refine lv_iconst (v := (0)) hx hb dX0_seat_89 (by decide) ?_
    obtain ⟨r39, μ38, h40, h⟩ := bd_ok h
    refine go_i (callV_run (As := [.int (0 : Int32)]) (rest := []) C hl hP (hS.wide hJ).2.1 (iw hw (fi_2 g37)) g37 (m_X2_told l w hJ hw x36 (0 : Int32) g37 μ35 h40) mv_X0_121 ⟨rfl, rfl, by decide, by decide⟩ rfl rfl (Nat.le_of_ble_eq_true rfl) ⟨Nat.zero_le _, Nat.zero_le _⟩ dX0_seat_90) hS (fun H locs hP hS => ?_)
    refine lv_istore (lv' := [(4, .int r39), (3, .int (-1 : Int32)), (0, .ref (w.2.2.1 v0))]) hx hb dX0_seat_93 hl (by decide) rfl (fun ls hl => ?_)
    refine lv_iconst (v := (0)) hx hb dX0_seat_95 (by decide) ?_
    refine lv_istore (lv' := [(5, .int (0 : Int32)), (4, .int r39), (3, .int (-1 : Int32)), (0, .ref (w.2.2.1 v0))]) hx hb dX0_seat_96 hl (by decide) rfl (fun ls hl => ?_)
    obtain ⟨t56, q57, h61, h⟩ := bd_ok h
    refine lpn_ind (b := (fun (q : Int32 × Int32 × fMem) => f_X0_seat_L98 v0 r39 q.1 q.2.1 q.2.2)) (P := fun (q : Int32 × Int32 × fMem) => WW p l e rm_X0_seat s m args below meth c (MQ below (fQi w r μr) args s 0 0 (fA w)) w q.2.2 6 98 [] [(0, .ref (w.2.2.1 v0)), (3, .int q.1), (4, .int r39), (5, .int q.2.1)]) (K := fun _ (q : Int32 × Int32 × fMem) => WW p l e rm_X0_seat s m args below meth c (MQ below (fQi w r μr) args s 0 0 (fA w)) w q.2.2 6 147 [] [(3, .int q.1)]) ?_ fuel ((-1 : Int32), (0 : Int32), μ38) t56 q57 h61 ?_ _ _ _ hP hS (lv_sub hl [3, 2, 1, 0] rfl)
    · intro q tz98 sz98 h hP0_98 hK0_98 H locs ls hP hS hl
      obtain ⟨v3, v5, μ⟩ := q
      have hP : fP w μ H := hP
      have hl : lv_has ls 6 [(0, .ref (w.2.2.1 v0)), (3, .int v3), (4, .int r39), (5, .int v5)] := hl
      have h : f_X0_seat_L98 v0 r39 v3 v5 μ = some (tz98, sz98) := h
      unfold f_X0_seat_L98 at h
      refine lv_iload hx hb dX0_seat_98 (lv_at hl 3 rfl) ?_
      refine lv_iload hx hb dX0_seat_100 (lv_at hl 2 rfl) ?_
      refine lv_icmp_ge (tgt := 147) hx hb dX0_seat_102 (by decide) (fun c41 => ?_) (fun c41 => ?_)
      · replace h := if_t c41 h
        obtain ⟨rfl, rfl⟩ := leaf h
        exact (hK0_98 0 rfl) _ _ _ hP hS (lv_sub hl [1] rfl)
      · replace h := if_f c41 h
        refine lv_aload_n hx hb dX0_seat_105 rfl (lv_at hl 0 rfl) ?_
        refine r_getRx C hP (iw hw (fi_0 hk0)) hk0 fl_X0_48 rfl (zw hw) dX0_seat_106 (fun x42 ex42 => ?_)
        replace h := vl_ok ex42 h
        obtain ⟨g43, h⟩ := gd_ok h
        refine lv_iload hx hb dX0_seat_109 (lv_at hl 3 rfl) ?_
        obtain ⟨r45, μ44, h46, h⟩ := bd_ok h
        refine go_i (callV_run (As := [.int v5]) (rest := []) C hl hP (hS.wide hJ).2.1 (iw hw (fi_7 g43)) g43 (m_X7_isRoped l w hJ hw x42 v5 g43 μ h46) mv_X0_182 ⟨rfl, rfl, by decide, by decide⟩ rfl rfl (Nat.le_of_ble_eq_true rfl) ⟨Nat.zero_le _, Nat.zero_le _⟩ dX0_seat_111) hS (fun H locs hP hS => ?_)
        refine lv_if_ne (tgt := 141) hx hb dX0_seat_114 (by decide) (fun c47 => ?_) (fun c47 => ?_)
        · replace h := if_f c47 h
          obtain ⟨x48, ex48⟩ : ∃ y : Int32, y = (v5 + (1 : Int32)) := ⟨_, rfl⟩
          replace h := vl_ok ex48 h
          refine lv_iinc (v := x48) (lv' := [(5, .int x48), (0, .ref (w.2.2.1 v0)), (3, .int v3), (4, .int r39)]) hx hb dX0_seat_141 hl (k := 3) rfl (by rw [ex48]; rfl) (by decide) rfl (fun ls hl => ?_)
          refine lv_goto (tgt := 98) hx hb dX0_seat_144 (by decide) ?_
          obtain ⟨rfl, rfl⟩ := leaf h
          exact hP0_98 rfl _ _ _ hP hS (lv_sub hl [1, 2, 3, 0] rfl)
        · replace h := if_t c47 h
          refine lv_iload_n hx hb dX0_seat_117 rfl (lv_at hl 1 rfl) ?_
          refine lv_iconst (v := (-1)) hx hb dX0_seat_118 (by decide) ?_
          refine lv_icmp_eq (tgt := 138) hx hb dX0_seat_119 (by decide) (fun c49 => ?_) (fun c49 => ?_)
          · replace h := if_t c49 h
            refine lv_iload hx hb dX0_seat_138 (lv_at hl 3 rfl) ?_
            refine lv_istore_n (lv' := [(3, .int v5), (0, .ref (w.2.2.1 v0)), (4, .int r39), (5, .int v5)]) hx hb dX0_seat_140 rfl hl (by decide) rfl (fun ls hl => ?_)
            obtain ⟨x50, ex50⟩ : ∃ y : Int32, y = (v5 + (1 : Int32)) := ⟨_, rfl⟩
            replace h := vl_ok ex50 h
            refine lv_iinc (v := x50) (lv' := [(5, .int x50), (3, .int v5), (0, .ref (w.2.2.1 v0)), (4, .int r39)]) hx hb dX0_seat_141 hl (k := 3) rfl (by rw [ex50]; rfl) (by decide) rfl (fun ls hl => ?_)
            refine lv_goto (tgt := 98) hx hb dX0_seat_144 (by decide) ?_
            obtain ⟨rfl, rfl⟩ := leaf h
            exact hP0_98 rfl _ _ _ hP hS (lv_sub hl [2, 1, 3, 0] rfl)
          · replace h := if_f c49 h
            refine lv_aload_n hx hb dX0_seat_122 rfl (lv_at hl 0 rfl) ?_
            refine r_getF (off := 36) C hP (iw hw (fi_0 hk0)) hk0 fl_X0_59 rfl rfl (zw hw) dX0_seat_123 ?_
            refine lv_iload hx hb dX0_seat_126 (lv_at hl 3 rfl) ?_
            obtain ⟨g51, h⟩ := gd_ok h
            refine r_iald C hP (iw hw (ff_0_12 hk0).2) (ff_0_12 hk0).1 g51 dX0_seat_128 ?_
            refine lv_aload_n hx hb dX0_seat_129 rfl (lv_at hl 0 rfl) ?_
            refine r_getF (off := 36) C hP (iw hw (fi_0 hk0)) hk0 fl_X0_59 rfl rfl (zw hw) dX0_seat_130 ?_
            refine lv_iload_n hx hb dX0_seat_133 rfl (lv_at hl 1 rfl) ?_
            obtain ⟨g52, h⟩ := gd_ok h
            refine r_iald C hP (iw hw (ff_0_12 hk0).2) (ff_0_12 hk0).1 g52 dX0_seat_134 ?_
            refine lv_icmp_le (tgt := 141) hx hb dX0_seat_135 (by decide) (fun c53 => ?_) (fun c53 => ?_)
            · replace h := if_t c53 h
              obtain ⟨x54, ex54⟩ : ∃ y : Int32, y = (v5 + (1 : Int32)) := ⟨_, rfl⟩
              replace h := vl_ok ex54 h
              refine lv_iinc (v := x54) (lv' := [(5, .int x54), (0, .ref (w.2.2.1 v0)), (3, .int v3), (4, .int r39)]) hx hb dX0_seat_141 hl (k := 3) rfl (by rw [ex54]; rfl) (by decide) rfl (fun ls hl => ?_)
              refine lv_goto (tgt := 98) hx hb dX0_seat_144 (by decide) ?_
              obtain ⟨rfl, rfl⟩ := leaf h
              exact hP0_98 rfl _ _ _ hP hS (lv_sub hl [1, 2, 3, 0] rfl)
            · replace h := if_f c53 h
              refine lv_iload hx hb dX0_seat_138 (lv_at hl 3 rfl) ?_
              refine lv_istore_n (lv' := [(3, .int v5), (0, .ref (w.2.2.1 v0)), (4, .int r39), (5, .int v5)]) hx hb dX0_seat_140 rfl hl (by decide) rfl (fun ls hl => ?_)
              obtain ⟨x55, ex55⟩ : ∃ y : Int32, y = (v5 + (1 : Int32)) := ⟨_, rfl⟩
              replace h := vl_ok ex55 h
              refine lv_iinc (v := x55) (lv' := [(5, .int x55), (3, .int v5), (0, .ref (w.2.2.1 v0)), (4, .int r39)]) hx hb dX0_seat_141 hl (k := 3) rfl (by rw [ex55]; rfl) (by decide) rfl (fun ls hl => ?_)
              refine lv_goto (tgt := 98) hx hb dX0_seat_144 (by decide) ?_
              obtain ⟨rfl, rfl⟩ := leaf h
              exact hP0_98 rfl _ _ _ hP hS (lv_sub hl [2, 1, 3, 0] rfl)
    · obtain ⟨x58, x59, μ60⟩ := q57
      intro H locs ls hP hS hl
      have hP : fP w μ60 H := hP
      have hl : lv_has ls 6 [(3, .int x58)] := hl
      try dsimp only at h
      refine lv_iload_n hx hb dX0_seat_147 rfl (lv_at hl 0 rfl) ?_
      exact r_iret C hr hP hS h dX0_seat_148

def f_X0_leastLiked_j64 (v0 : Nat) (v1 : Int32) (v2 : Int32) (r4 : Int32) (v6 : Int32) (v7 : Int32) (μ : fMem) : Option (Nat × (Int32 × Int32 × Int32 × fMem)) :=
  vl (v6 + (1 : Int32)) fun x18 => some (0, (v6, v7, x18, μ))
def f_X0_leastLiked_L18 (v0 : Nat) (v1 : Int32) (v2 : Int32) (r4 : Int32) (v3 : Int32) (v4 : Int32) (v6 : Int32) (μ : fMem) : Option (Nat × (Int32 × Int32 × Int32 × fMem)) :=
  if r4 ≤ v6 then some (1, (v3, v4, v6, μ)) else vl (μ.2.2 v0 9) fun x7 => gd (kd x7 = (4, 7)) (gd (ixo v6 8) (if (μ.1 (x7 + 1) (Int32.toNatClampNeg v6)) = v2 then bd (f_X0_likes v0 v1 v6 v2 μ) fun r12 μ11 => if v3 = (-1 : Int32) then f_X0_leastLiked_j64 v0 v1 v2 r4 v6 r12 μ11 else if v4 ≤ r12 then vl (v6 + (1 : Int32)) fun x16 => some (0, (v3, v4, x16, μ11)) else f_X0_leastLiked_j64 v0 v1 v2 r4 v6 r12 μ11 else vl (v6 + (1 : Int32)) fun x17 => some (0, (v3, v4, x17, μ))))
def f_X0_leastLiked (v0 : Nat) (v1 : Int32) (v2 : Int32) (μ : fMem) : Option (Int32 × fMem) :=
  vl (μ.2.2 v0 8) fun x1 => gd (kd x1 = (4, 2)) (bd (f_X2_told x1 (2 : Int32) μ) fun r4 μ3 => bd (lpn (fun (q : Int32 × Int32 × Int32 × fMem) => f_X0_leastLiked_L18 v0 v1 v2 r4 q.1 q.2.1 q.2.2.1 q.2.2.2) fuel ((-1 : Int32), (0 : Int32), (0 : Int32), μ3)) fun t19 q20 => (fun (x21 : Int32) (x22 : Int32) (x23 : Int32) (μ24 : fMem) => some (x21, μ24)) q20.1 q20.2.1 q20.2.2.1 q20.2.2.2)
def rm_X0_leastLiked : Room := { frames := 3, cells := 0, slots := 0, locals := 131 }
set_option maxHeartbeats 4000000 in
set_option maxRecDepth 100000 in
theorem m_X0_leastLiked (l : Launch) (w : fW) (hJ : fJ w) (hw : w.2.2.2 = sd 0) (v0 : Nat) (v1 : Int32) (v2 : Int32) (hk0 : kd v0 = (4, 0)) (μ : fMem) {r : Int32} {μr : fMem} (h : f_X0_leastLiked v0 v1 v2 μ = some (r, μr)) : Met l yX0_leastLiked (.code yX0_leastLiked cX0_leastLiked 8 (some .int) :: gw) rm_X0_leastLiked (fPc w [.ref (w.2.2.1 v0), .int v1, .int v2] μ) (fQi w r μr) 0 0 (fA w) := by
  refine met_of hJ (by decide) ?_ (Nat.le_of_ble_eq_true rfl)
  generalize ([.ref (w.2.2.1 v0), .int v1, .int v2] : List Value).toArray = args
  intro p e s m below meth c ls C hr hP hl hS
  obtain ⟨hx, hb, hml, hown, hts, hK, -, hlk, hT⟩ := id C
  have hl : lv_has ls 8 [(0, .ref (w.2.2.1 v0)), (1, .int v1), (2, .int v2)] := hl
  unfold f_X0_leastLiked at h
  refine lv_iconst (v := (-1)) hx hb dX0_leastLiked_0 (by decide) ?_
  refine lv_istore_n (lv' := [(3, .int (-1 : Int32)), (0, .ref (w.2.2.1 v0)), (1, .int v1), (2, .int v2)]) hx hb dX0_leastLiked_1 rfl hl (by decide) rfl (fun ls hl => ?_)
  refine lv_iconst (v := (0)) hx hb dX0_leastLiked_2 (by decide) ?_
  refine lv_istore (lv' := [(4, .int (0 : Int32)), (3, .int (-1 : Int32)), (0, .ref (w.2.2.1 v0)), (1, .int v1), (2, .int v2)]) hx hb dX0_leastLiked_3 hl (by decide) rfl (fun ls hl => ?_)
  refine lv_aload_n hx hb dX0_leastLiked_5 rfl (lv_at hl 2 rfl) ?_
  refine r_getRx C hP (iw hw (fi_0 hk0)) hk0 fl_X0_41 rfl (zw hw) dX0_leastLiked_6 (fun x1 ex1 => ?_)
  replace h := vl_ok ex1 h
  obtain ⟨g2, h⟩ := gd_ok h
  refine lv_iconst (v := (2)) hx hb dX0_leastLiked_9 (by decide) ?_
  obtain ⟨r4, μ3, h5, h⟩ := bd_ok h
  refine go_i (callV_run (As := [.int (2 : Int32)]) (rest := []) C hl hP (hS.wide hJ).2.1 (iw hw (fi_2 g2)) g2 (m_X2_told l w hJ hw x1 (2 : Int32) g2 μ h5) mv_X0_121 ⟨rfl, rfl, by decide, by decide⟩ rfl rfl (Nat.le_of_ble_eq_true rfl) ⟨Nat.zero_le _, Nat.zero_le _⟩ dX0_leastLiked_10) hS (fun H locs hP hS => ?_)
  refine lv_istore (lv' := [(5, .int r4), (4, .int (0 : Int32)), (3, .int (-1 : Int32)), (0, .ref (w.2.2.1 v0)), (1, .int v1), (2, .int v2)]) hx hb dX0_leastLiked_13 hl (by decide) rfl (fun ls hl => ?_)
  refine lv_iconst (v := (0)) hx hb dX0_leastLiked_15 (by decide) ?_
  refine lv_istore (lv' := [(6, .int (0 : Int32)), (5, .int r4), (4, .int (0 : Int32)), (3, .int (-1 : Int32)), (0, .ref (w.2.2.1 v0)), (1, .int v1), (2, .int v2)]) hx hb dX0_leastLiked_16 hl (by decide) rfl (fun ls hl => ?_)
  obtain ⟨t19, q20, h25, h⟩ := bd_ok h
  refine lpn_ind (b := (fun (q : Int32 × Int32 × Int32 × fMem) => f_X0_leastLiked_L18 v0 v1 v2 r4 q.1 q.2.1 q.2.2.1 q.2.2.2)) (P := fun (q : Int32 × Int32 × Int32 × fMem) => WW p l e rm_X0_leastLiked s m args below meth c (MQ below (fQi w r μr) args s 0 0 (fA w)) w q.2.2.2 8 18 [] [(0, .ref (w.2.2.1 v0)), (1, .int v1), (2, .int v2), (3, .int q.1), (4, .int q.2.1), (5, .int r4), (6, .int q.2.2.1)]) (K := fun _ (q : Int32 × Int32 × Int32 × fMem) => WW p l e rm_X0_leastLiked s m args below meth c (MQ below (fQi w r μr) args s 0 0 (fA w)) w q.2.2.2 8 77 [] [(3, .int q.1)]) ?_ fuel ((-1 : Int32), (0 : Int32), (0 : Int32), μ3) t19 q20 h25 ?_ _ _ _ hP hS (lv_sub hl [4, 5, 6, 3, 2, 1, 0] rfl)
  · intro q tz18 sz18 h hP0_18 hK0_18 H locs ls hP hS hl
    obtain ⟨v3, v4, v6, μ⟩ := q
    have hP : fP w μ H := hP
    have hl : lv_has ls 8 [(0, .ref (w.2.2.1 v0)), (1, .int v1), (2, .int v2), (3, .int v3), (4, .int v4), (5, .int r4), (6, .int v6)] := hl
    have h : f_X0_leastLiked_L18 v0 v1 v2 r4 v3 v4 v6 μ = some (tz18, sz18) := h
    unfold f_X0_leastLiked_L18 at h
    have J64 : ∀ (v6 : Int32) (v7 : Int32) (μ : fMem), f_X0_leastLiked_j64 v0 v1 v2 r4 v6 v7 μ = some (tz18, sz18) → WW p l e rm_X0_leastLiked s m args below meth c (MQ below (fQi w r μr) args s 0 0 (fA w)) w μ 8 64 [] [(0, .ref (w.2.2.1 v0)), (1, .int v1), (2, .int v2), (5, .int r4), (6, .int v6), (7, .int v7)] := by
      intro v6 v7 μ  h H locs ls hP hS hl
      unfold f_X0_leastLiked_j64 at h
      refine lv_iload hx hb dX0_leastLiked_64 (lv_at hl 4 rfl) ?_
      refine lv_istore_n (lv' := [(3, .int v6), (0, .ref (w.2.2.1 v0)), (1, .int v1), (2, .int v2), (5, .int r4), (6, .int v6), (7, .int v7)]) hx hb dX0_leastLiked_66 rfl hl (by decide) rfl (fun ls hl => ?_)
      refine lv_iload hx hb dX0_leastLiked_67 (lv_at hl 6 rfl) ?_
      refine lv_istore (lv' := [(4, .int v7), (3, .int v6), (0, .ref (w.2.2.1 v0)), (1, .int v1), (2, .int v2), (5, .int r4), (6, .int v6), (7, .int v7)]) hx hb dX0_leastLiked_69 hl (by decide) rfl (fun ls hl => ?_)
      obtain ⟨x18, ex18⟩ : ∃ y : Int32, y = (v6 + (1 : Int32)) := ⟨_, rfl⟩
      replace h := vl_ok ex18 h
      refine lv_iinc (v := x18) (lv' := [(6, .int x18), (4, .int v7), (3, .int v6), (0, .ref (w.2.2.1 v0)), (1, .int v1), (2, .int v2), (5, .int r4), (7, .int v7)]) hx hb dX0_leastLiked_71 hl (k := 6) rfl (by rw [ex18]; rfl) (by decide) rfl (fun ls hl => ?_)
      refine lv_goto (tgt := 18) hx hb dX0_leastLiked_74 (by decide) ?_
      obtain ⟨rfl, rfl⟩ := leaf h
      exact hP0_18 rfl _ _ _ hP hS (lv_sub hl [3, 4, 5, 2, 1, 6, 0] rfl)
    refine lv_iload hx hb dX0_leastLiked_18 (lv_at hl 6 rfl) ?_
    refine lv_iload hx hb dX0_leastLiked_20 (lv_at hl 5 rfl) ?_
    refine lv_icmp_ge (tgt := 77) hx hb dX0_leastLiked_22 (by decide) (fun c6 => ?_) (fun c6 => ?_)
    · replace h := if_t c6 h
      obtain ⟨rfl, rfl⟩ := leaf h
      exact (hK0_18 0 rfl) _ _ _ hP hS (lv_sub hl [3] rfl)
    · replace h := if_f c6 h
      refine lv_aload_n hx hb dX0_leastLiked_25 rfl (lv_at hl 0 rfl) ?_
      refine r_getRx C hP (iw hw (fi_0 hk0)) hk0 fl_X0_48 rfl (zw hw) dX0_leastLiked_26 (fun x7 ex7 => ?_)
      replace h := vl_ok ex7 h
      obtain ⟨g8, h⟩ := gd_ok h
      refine r_getF (off := 1) C hP (iw hw (fi_7 g8)) g8 fl_X0_173 rfl rfl (zw hw) dX0_leastLiked_29 ?_
      refine lv_iload hx hb dX0_leastLiked_32 (lv_at hl 6 rfl) ?_
      obtain ⟨g9, h⟩ := gd_ok h
      refine r_iald C hP (iw hw (ff_7_0 g8).2) (ff_7_0 g8).1 g9 dX0_leastLiked_34 ?_
      refine lv_iload_n hx hb dX0_leastLiked_35 rfl (lv_at hl 2 rfl) ?_
      refine lv_icmp_eq (tgt := 42) hx hb dX0_leastLiked_36 (by decide) (fun c10 => ?_) (fun c10 => ?_)
      · replace h := if_t c10 h
        refine lv_aload_n hx hb dX0_leastLiked_42 rfl (lv_at hl 0 rfl) ?_
        refine lv_iload_n hx hb dX0_leastLiked_43 rfl (lv_at hl 1 rfl) ?_
        refine lv_iload hx hb dX0_leastLiked_44 (lv_at hl 6 rfl) ?_
        refine lv_iload_n hx hb dX0_leastLiked_46 rfl (lv_at hl 2 rfl) ?_
        obtain ⟨r12, μ11, h13, h⟩ := bd_ok h
        refine go_i (callV_run (As := [.int v1, .int v6, .int v2]) (rest := []) C hl hP (hS.wide hJ).2.1 (iw hw (fi_0 hk0)) hk0 (m_X0_likes l w hJ hw v0 v1 v6 v2 hk0 μ h13) mv_X0_160 ⟨rfl, rfl, by decide, by decide⟩ rfl rfl (Nat.le_of_ble_eq_true rfl) ⟨Nat.zero_le _, Nat.zero_le _⟩ dX0_leastLiked_47) hS (fun H locs hP hS => ?_)
        refine lv_istore (lv' := [(7, .int r12), (0, .ref (w.2.2.1 v0)), (1, .int v1), (2, .int v2), (3, .int v3), (4, .int v4), (5, .int r4), (6, .int v6)]) hx hb dX0_leastLiked_50 hl (by decide) rfl (fun ls hl => ?_)
        refine lv_iload_n hx hb dX0_leastLiked_52 rfl (lv_at hl 4 rfl) ?_
        refine lv_iconst (v := (-1)) hx hb dX0_leastLiked_53 (by decide) ?_
        refine lv_icmp_eq (tgt := 64) hx hb dX0_leastLiked_54 (by decide) (fun c14 => ?_) (fun c14 => ?_)
        · replace h := if_t c14 h
          exact J64 v6 r12 μ11  h _ _ _ hP hS (lv_sub hl [1, 2, 3, 6, 7, 0] rfl)
        · replace h := if_f c14 h
          refine lv_iload hx hb dX0_leastLiked_57 (lv_at hl 0 rfl) ?_
          refine lv_iload hx hb dX0_leastLiked_59 (lv_at hl 5 rfl) ?_
          refine lv_icmp_ge (tgt := 71) hx hb dX0_leastLiked_61 (by decide) (fun c15 => ?_) (fun c15 => ?_)
          · replace h := if_t c15 h
            obtain ⟨x16, ex16⟩ : ∃ y : Int32, y = (v6 + (1 : Int32)) := ⟨_, rfl⟩
            replace h := vl_ok ex16 h
            refine lv_iinc (v := x16) (lv' := [(6, .int x16), (7, .int r12), (0, .ref (w.2.2.1 v0)), (1, .int v1), (2, .int v2), (3, .int v3), (4, .int v4), (5, .int r4)]) hx hb dX0_leastLiked_71 hl (k := 7) rfl (by rw [ex16]; rfl) (by decide) rfl (fun ls hl => ?_)
            refine lv_goto (tgt := 18) hx hb dX0_leastLiked_74 (by decide) ?_
            obtain ⟨rfl, rfl⟩ := leaf h
            exact hP0_18 rfl _ _ _ hP hS (lv_sub hl [2, 3, 4, 5, 6, 7, 0] rfl)
          · replace h := if_f c15 h
            exact J64 v6 r12 μ11  h _ _ _ hP hS (lv_sub hl [1, 2, 3, 6, 7, 0] rfl)
      · replace h := if_f c10 h
        refine lv_goto (tgt := 71) hx hb dX0_leastLiked_39 (by decide) ?_
        obtain ⟨x17, ex17⟩ : ∃ y : Int32, y = (v6 + (1 : Int32)) := ⟨_, rfl⟩
        replace h := vl_ok ex17 h
        refine lv_iinc (v := x17) (lv' := [(6, .int x17), (0, .ref (w.2.2.1 v0)), (1, .int v1), (2, .int v2), (3, .int v3), (4, .int v4), (5, .int r4)]) hx hb dX0_leastLiked_71 hl (k := 6) rfl (by rw [ex17]; rfl) (by decide) rfl (fun ls hl => ?_)
        refine lv_goto (tgt := 18) hx hb dX0_leastLiked_74 (by decide) ?_
        obtain ⟨rfl, rfl⟩ := leaf h
        exact hP0_18 rfl _ _ _ hP hS (lv_sub hl [1, 2, 3, 4, 5, 6, 0] rfl)
  · obtain ⟨x21, x22, x23, μ24⟩ := q20
    intro H locs ls hP hS hl
    have hP : fP w μ24 H := hP
    have hl : lv_has ls 8 [(3, .int x21)] := hl
    try dsimp only at h
    refine lv_iload_n hx hb dX0_leastLiked_77 rfl (lv_at hl 0 rfl) ?_
    exact r_iret C hr hP hS h dX0_leastLiked_78

def f_X0_bears (v0 : Nat) (v1 : Int32) (v2 : Int32) (v3 : Int32) (μ : fMem) : Option (Int32 × fMem) :=
  bd (f_X0_tellNames v0 v1 v2 v3 μ) fun r2 μ1 => vl (μ1.2.2 v0 8) fun x4 => gd (kd x4 = (4, 2)) (bd (f_X3_work (x4 + 20) (v0 + 35) μ1) fun r7 μ6 => if (lg_cmp r7 (-9223372036854775808 : Int64)) = 0 then some ((30 : Int32), μ6) else bd (f_X0_within r7 (100 : Int32) μ6) fun r11 μ10 => some (r11, μ10))
def rm_X0_bears : Room := { frames := 2, cells := 0, slots := 0, locals := 102 }
set_option maxHeartbeats 4000000 in
set_option maxRecDepth 100000 in
theorem m_X0_bears (l : Launch) (w : fW) (hJ : fJ w) (hw : w.2.2.2 = sd 0) (v0 : Nat) (v1 : Int32) (v2 : Int32) (v3 : Int32) (hk0 : kd v0 = (4, 0)) (μ : fMem) {r : Int32} {μr : fMem} (h : f_X0_bears v0 v1 v2 v3 μ = some (r, μr)) : Met l yX0_bears (.code yX0_bears cX0_bears 6 (some .int) :: gw) rm_X0_bears (fPc w [.ref (w.2.2.1 v0), .int v1, .int v2, .int v3] μ) (fQi w r μr) 0 0 (fA w) := by
  refine met_of hJ (by decide) ?_ (Nat.le_of_ble_eq_true rfl)
  generalize ([.ref (w.2.2.1 v0), .int v1, .int v2, .int v3] : List Value).toArray = args
  intro p e s m below meth c ls C hr hP hl hS
  obtain ⟨hx, hb, hml, hown, hts, hK, -, hlk, hT⟩ := id C
  have hl : lv_has ls 6 [(0, .ref (w.2.2.1 v0)), (1, .int v1), (2, .int v2), (3, .int v3)] := hl
  unfold f_X0_bears at h
  refine lv_aload_n hx hb dX0_bears_0 rfl (lv_at hl 0 rfl) ?_
  refine lv_iload_n hx hb dX0_bears_1 rfl (lv_at hl 1 rfl) ?_
  refine lv_iload_n hx hb dX0_bears_2 rfl (lv_at hl 2 rfl) ?_
  refine lv_iload_n hx hb dX0_bears_3 rfl (lv_at hl 3 rfl) ?_
  obtain ⟨r2, μ1, h3, h⟩ := bd_ok h
  refine go_v (callV_run (As := [.int v1, .int v2, .int v3]) (rest := []) C hl hP (hS.wide hJ).2.1 (iw hw (fi_0 hk0)) hk0 (m_X0_tellNames l w hJ hw v0 v1 v2 v3 hk0 μ h3) mv_X0_131 ⟨rfl, rfl, by decide, by decide⟩ rfl rfl (Nat.le_of_ble_eq_true rfl) ⟨Nat.zero_le _, Nat.zero_le _⟩ dX0_bears_4) hS (fun H locs hP hS => ?_)
  refine lv_aload_n hx hb dX0_bears_7 rfl (lv_at hl 0 rfl) ?_
  refine r_getRx C hP (iw hw (fi_0 hk0)) hk0 fl_X0_41 rfl (zw hw) dX0_bears_8 (fun x4 ex4 => ?_)
  replace h := vl_ok ex4 h
  obtain ⟨g5, h⟩ := gd_ok h
  refine r_getF (off := 20) C hP (iw hw (fi_2 g5)) g5 fl_X0_214 rfl rfl (zw hw) dX0_bears_11 ?_
  refine lv_aload_n hx hb dX0_bears_14 rfl (lv_at hl 0 rfl) ?_
  refine r_getF (off := 35) C hP (iw hw (fi_0 hk0)) hk0 fl_X0_55 rfl rfl (zw hw) dX0_bears_15 ?_
  obtain ⟨r7, μ6, h8, h⟩ := bd_ok h
  refine go_l (callV_run (As := [.ref (w.2.2.1 (v0 + 35))]) (rest := []) C hl hP (hS.wide hJ).2.1 (iw hw (ff_2_14 g5).2) (ff_2_14 g5).1 (m_X3_work l w hJ hw (x4 + 20) (v0 + 35) (ff_2_14 g5).1 (karr (ff_0_11 hk0).1) (iw hw (ff_0_11 hk0).2) μ1 h8) mv_X0_138 ⟨rfl, rfl, by decide, by decide⟩ rfl rfl (Nat.le_of_ble_eq_true rfl) ⟨Nat.zero_le _, Nat.zero_le _⟩ dX0_bears_18) hS (fun H locs hP hS => ?_)
  refine lv_lstore (lv' := [(4, .long r7), (0, .ref (w.2.2.1 v0)), (1, .int v1), (2, .int v2), (3, .int v3)]) hx hb dX0_bears_21 hl (by decide) rfl (fun ls hl => ?_)
  refine lv_lload hx hb dX0_bears_23 (lv_at hl 0 rfl) ?_
  refine lv_ldc2 hx hb hown (hts _ ct_X0_142) dX0_bears_25 ?_
  refine W.lcmp hx hb dX0_bears_28 ?_
  refine lv_if_ne (tgt := 37) hx hb dX0_bears_29 (by decide) (fun c9 => ?_) (fun c9 => ?_)
  · replace h := if_f c9 h
    refine lv_lload hx hb dX0_bears_37 (lv_at hl 0 rfl) ?_
    refine lv_bipush (v := (100)) hx hb dX0_bears_39 (by decide) ?_
    obtain ⟨r11, μ10, h12, h⟩ := bd_ok h
    refine go_i (callS_run (As := [.long r7, .int (100 : Int32)]) (rest := []) C hl hP (hS.wide hJ).2.1 (m_X0_within l w hJ hw r7 (100 : Int32)  μ6 h12) ms_X0_196 ⟨rfl, rfl, by decide, by decide⟩ rfl rfl (Nat.le_of_ble_eq_true rfl) ⟨Nat.zero_le _, Nat.zero_le _⟩ dX0_bears_41) hS (fun H locs hP hS => ?_)
    exact r_iret C hr hP hS h dX0_bears_44
  · replace h := if_t c9 h
    refine lv_bipush (v := (30)) hx hb dX0_bears_32 (by decide) ?_
    refine lv_goto (tgt := 44) hx hb dX0_bears_34 (by decide) ?_
    exact r_iret C hr hP hS h dX0_bears_44

def f_X2_leads (v0 : Nat) (v1 : Int32) (v2 : Int32) (μ : fMem) : Option (Int32 × fMem) :=
  if v1 < 0 then gd (bl (0 : Int32)) (some ((0 : Int32), μ)) else if (6 : Int32) ≤ v1 then gd (bl (0 : Int32)) (some ((0 : Int32), μ)) else gd (ixo v1 6) (if ((μ.1 (v0 + 7) (Int32.toNatClampNeg v1)) &&& (shl (1 : Int32) v2)) = 0 then gd (bl (0 : Int32)) (some ((0 : Int32), μ)) else gd (bl (1 : Int32)) (some ((1 : Int32), μ)))
def rm_X2_leads : Room := { frames := 0, cells := 0, slots := 0, locals := 0 }
set_option maxHeartbeats 4000000 in
set_option maxRecDepth 100000 in
theorem m_X2_leads (l : Launch) (w : fW) (hJ : fJ w) (hw : w.2.2.2 = sd 0) (v0 : Nat) (v1 : Int32) (v2 : Int32) (hk0 : kd v0 = (4, 2)) (μ : fMem) {r : Int32} {μr : fMem} (h : f_X2_leads v0 v1 v2 μ = some (r, μr)) : Met l yX2_leads (.code yX2_leads cX2_leads 3 (some .boolean) :: gw) rm_X2_leads (fPc w [.ref (w.2.2.1 v0), .int v1, .int v2] μ) (fQi w r μr) 0 0 (fA w) := by
  refine met_of hJ (by decide) ?_ (Nat.le_of_ble_eq_true rfl)
  generalize ([.ref (w.2.2.1 v0), .int v1, .int v2] : List Value).toArray = args
  intro p e s m below meth c ls C hr hP hl hS
  obtain ⟨hx, hb, hml, hown, hts, hK, -, hlk, hT⟩ := id C
  have hl : lv_has ls 3 [(0, .ref (w.2.2.1 v0)), (1, .int v1), (2, .int v2)] := hl
  unfold f_X2_leads at h
  refine lv_iload_n hx hb dX2_leads_0 rfl (lv_at hl 1 rfl) ?_
  refine lv_if_lt (tgt := 30) hx hb dX2_leads_1 (by decide) (fun c1 => ?_) (fun c1 => ?_)
  · replace h := if_t c1 h
    refine lv_iconst (v := (0)) hx hb dX2_leads_30 (by decide) ?_
    exact r_zret C hr hP hS h dX2_leads_31
  · replace h := if_f c1 h
    refine lv_iload_n hx hb dX2_leads_4 rfl (lv_at hl 1 rfl) ?_
    refine lv_aload_n hx hb dX2_leads_5 rfl (lv_at hl 0 rfl) ?_
    refine r_getF (off := 7) C hP (iw hw (fi_2 hk0)) hk0 fl_X2_27 rfl rfl (zw hw) dX2_leads_6 ?_
    refine r_alen (v := 6) C hP (iw hw (ff_2_4 hk0).2) (Or.inl (ff_2_4 hk0).1) (by decide) dX2_leads_9 ?_
    refine lv_icmp_ge (tgt := 30) hx hb dX2_leads_10 (by decide) (fun c2 => ?_) (fun c2 => ?_)
    · replace h := if_t c2 h
      refine lv_iconst (v := (0)) hx hb dX2_leads_30 (by decide) ?_
      exact r_zret C hr hP hS h dX2_leads_31
    · replace h := if_f c2 h
      refine lv_aload_n hx hb dX2_leads_13 rfl (lv_at hl 0 rfl) ?_
      refine r_getF (off := 7) C hP (iw hw (fi_2 hk0)) hk0 fl_X2_27 rfl rfl (zw hw) dX2_leads_14 ?_
      refine lv_iload_n hx hb dX2_leads_17 rfl (lv_at hl 1 rfl) ?_
      obtain ⟨g3, h⟩ := gd_ok h
      refine r_iald C hP (iw hw (ff_2_4 hk0).2) (ff_2_4 hk0).1 g3 dX2_leads_18 ?_
      refine lv_iconst (v := (1)) hx hb dX2_leads_19 (by decide) ?_
      refine lv_iload_n hx hb dX2_leads_20 rfl (lv_at hl 2 rfl) ?_
      refine r_ishl hx hb dX2_leads_21 ?_
      refine lv_iand hx hb dX2_leads_22 ?_
      refine lv_if_eq (tgt := 30) hx hb dX2_leads_23 (by decide) (fun c4 => ?_) (fun c4 => ?_)
      · replace h := if_t c4 h
        refine lv_iconst (v := (0)) hx hb dX2_leads_30 (by decide) ?_
        exact r_zret C hr hP hS h dX2_leads_31
      · replace h := if_f c4 h
        refine lv_iconst (v := (1)) hx hb dX2_leads_26 (by decide) ?_
        refine lv_goto (tgt := 31) hx hb dX2_leads_27 (by decide) ?_
        exact r_zret C hr hP hS h dX2_leads_31

def f_X2_firstBehind_L2 (v0 : Nat) (v1 : Int32) (v2 : Int32) (μ : fMem) : Option (Nat × (Int32 × fMem)) :=
  bd (f_X2_told v0 (0 : Int32) μ) fun r2 μ1 => if r2 ≤ v2 then some (1, (v2, μ1)) else bd (f_X2_leads v0 v1 v2 μ1) fun r6 μ5 => if r6 = 0 then vl (v2 + (1 : Int32)) fun x9 => some (0, (x9, μ5)) else some (2, (v2, μ5))
def f_X2_firstBehind (v0 : Nat) (v1 : Int32) (μ : fMem) : Option (Int32 × fMem) :=
  bd (lpn (fun (q : Int32 × fMem) => f_X2_firstBehind_L2 v0 v1 q.1 q.2) fuel ((0 : Int32), μ)) fun t10 q11 => (fun (x12 : Int32) (μ13 : fMem) => if t10 = 0 then some ((-1 : Int32), μ13) else some (x12, μ13)) q11.1 q11.2
def rm_X2_firstBehind : Room := { frames := 1, cells := 0, slots := 0, locals := 22 }
set_option maxHeartbeats 4000000 in
set_option maxRecDepth 100000 in
theorem m_X2_firstBehind (l : Launch) (w : fW) (hJ : fJ w) (hw : w.2.2.2 = sd 0) (v0 : Nat) (v1 : Int32) (hk0 : kd v0 = (4, 2)) (μ : fMem) {r : Int32} {μr : fMem} (h : f_X2_firstBehind v0 v1 μ = some (r, μr)) : Met l yX2_firstBehind (.code yX2_firstBehind cX2_firstBehind 3 (some .int) :: gw) rm_X2_firstBehind (fPc w [.ref (w.2.2.1 v0), .int v1] μ) (fQi w r μr) 0 0 (fA w) := by
  refine met_of hJ (by decide) ?_ (Nat.le_of_ble_eq_true rfl)
  generalize ([.ref (w.2.2.1 v0), .int v1] : List Value).toArray = args
  intro p e s m below meth c ls C hr hP hl hS
  obtain ⟨hx, hb, hml, hown, hts, hK, -, hlk, hT⟩ := id C
  have hl : lv_has ls 3 [(0, .ref (w.2.2.1 v0)), (1, .int v1)] := hl
  unfold f_X2_firstBehind at h
  refine lv_iconst (v := (0)) hx hb dX2_firstBehind_0 (by decide) ?_
  refine lv_istore_n (lv' := [(2, .int (0 : Int32)), (0, .ref (w.2.2.1 v0)), (1, .int v1)]) hx hb dX2_firstBehind_1 rfl hl (by decide) rfl (fun ls hl => ?_)
  obtain ⟨t10, q11, h14, h⟩ := bd_ok h
  refine lpn_ind (b := (fun (q : Int32 × fMem) => f_X2_firstBehind_L2 v0 v1 q.1 q.2)) (P := fun (q : Int32 × fMem) => WW p l e rm_X2_firstBehind s m args below meth c (MQ below (fQi w r μr) args s 0 0 (fA w)) w q.2 3 2 [] [(0, .ref (w.2.2.1 v0)), (1, .int v1), (2, .int q.1)]) (K := fun t (q : Int32 × fMem) => (t = 0 → WW p l e rm_X2_firstBehind s m args below meth c (MQ below (fQi w r μr) args s 0 0 (fA w)) w q.2 3 28 [] []) ∧ (t = 1 → WW p l e rm_X2_firstBehind s m args below meth c (MQ below (fQi w r μr) args s 0 0 (fA w)) w q.2 3 20 [] [(2, .int q.1)])) ?_ fuel ((0 : Int32), μ) t10 q11 h14 ?_ _ _ _ hP hS (lv_sub hl [1, 2, 0] rfl)
  · intro q tz2 sz2 h hP0_2 hK0_2 H locs ls hP hS hl
    obtain ⟨v2, μ⟩ := q
    have hP : fP w μ H := hP
    have hl : lv_has ls 3 [(0, .ref (w.2.2.1 v0)), (1, .int v1), (2, .int v2)] := hl
    have h : f_X2_firstBehind_L2 v0 v1 v2 μ = some (tz2, sz2) := h
    unfold f_X2_firstBehind_L2 at h
    refine lv_iload_n hx hb dX2_firstBehind_2 rfl (lv_at hl 2 rfl) ?_
    refine lv_aload_n hx hb dX2_firstBehind_3 rfl (lv_at hl 0 rfl) ?_
    refine lv_iconst (v := (0)) hx hb dX2_firstBehind_4 (by decide) ?_
    obtain ⟨r2, μ1, h3, h⟩ := bd_ok h
    refine go_i (callV_run (As := [.int (0 : Int32)]) (rest := [.int v2]) C hl hP (hS.wide hJ).2.1 (iw hw (fi_2 hk0)) hk0 (m_X2_told l w hJ hw v0 (0 : Int32) hk0 μ h3) mv_X2_76 ⟨rfl, rfl, by decide, by decide⟩ rfl rfl (Nat.le_of_ble_eq_true rfl) ⟨Nat.zero_le _, Nat.zero_le _⟩ dX2_firstBehind_5) hS (fun H locs hP hS => ?_)
    refine lv_icmp_ge (tgt := 28) hx hb dX2_firstBehind_8 (by decide) (fun c4 => ?_) (fun c4 => ?_)
    · replace h := if_t c4 h
      obtain ⟨rfl, rfl⟩ := leaf h
      exact ((hK0_2 0 rfl).1 rfl) _ _ _ hP hS (lv_sub hl [] rfl)
    · replace h := if_f c4 h
      refine lv_aload_n hx hb dX2_firstBehind_11 rfl (lv_at hl 0 rfl) ?_
      refine lv_iload_n hx hb dX2_firstBehind_12 rfl (lv_at hl 1 rfl) ?_
      refine lv_iload_n hx hb dX2_firstBehind_13 rfl (lv_at hl 2 rfl) ?_
      obtain ⟨r6, μ5, h7, h⟩ := bd_ok h
      refine go_i (callV_run (As := [.int v1, .int v2]) (rest := []) C hl hP (hS.wide hJ).2.1 (iw hw (fi_2 hk0)) hk0 (m_X2_leads l w hJ hw v0 v1 v2 hk0 μ1 h7) mv_X2_80 ⟨rfl, rfl, by decide, by decide⟩ rfl rfl (Nat.le_of_ble_eq_true rfl) ⟨Nat.zero_le _, Nat.zero_le _⟩ dX2_firstBehind_14) hS (fun H locs hP hS => ?_)
      refine lv_if_eq (tgt := 22) hx hb dX2_firstBehind_17 (by decide) (fun c8 => ?_) (fun c8 => ?_)
      · replace h := if_t c8 h
        obtain ⟨x9, ex9⟩ : ∃ y : Int32, y = (v2 + (1 : Int32)) := ⟨_, rfl⟩
        replace h := vl_ok ex9 h
        refine lv_iinc (v := x9) (lv' := [(2, .int x9), (0, .ref (w.2.2.1 v0)), (1, .int v1)]) hx hb dX2_firstBehind_22 hl (k := 2) rfl (by rw [ex9]; rfl) (by decide) rfl (fun ls hl => ?_)
        refine lv_goto (tgt := 2) hx hb dX2_firstBehind_25 (by decide) ?_
        obtain ⟨rfl, rfl⟩ := leaf h
        exact hP0_2 rfl _ _ _ hP hS (lv_sub hl [1, 2, 0] rfl)
      · replace h := if_f c8 h
        obtain ⟨rfl, rfl⟩ := leaf h
        exact ((hK0_2 1 rfl).2 rfl) _ _ _ hP hS (lv_sub hl [2] rfl)
  · obtain ⟨x12, μ13⟩ := q11
    try dsimp only at h
    refine ⟨fun ht => ?_, fun ht => ?_⟩
    · intro H locs ls hP hS hl
      have hP : fP w μ13 H := hP
      have hl : lv_has ls 3 [] := hl
      replace h := if_t ht h
      refine lv_iconst (v := (-1)) hx hb dX2_firstBehind_28 (by decide) ?_
      exact r_iret C hr hP hS h dX2_firstBehind_29
    · intro H locs ls hP hS hl
      have hP : fP w μ13 H := hP
      have hl : lv_has ls 3 [(2, .int x12)] := hl
      replace h := if_f (by rw [ht]; decide) h
      refine lv_iload_n hx hb dX2_firstBehind_20 rfl (lv_at hl 0 rfl) ?_
      exact r_iret C hr hP hS h dX2_firstBehind_21

def f_X0_visit (v0 : Nat) (v1 : Int32) (μ : fMem) : Option (Unit × fMem) :=
  bd (f_X0_seat v0 v1 μ) fun r2 μ1 => if r2 < 0 then some ((), μ1) else if r2 < (6 : Int32) then vl (μ1.2.2 v0 9) fun x6 => gd (kd x6 = (4, 7)) (gd (ixo r2 6) (gd (ixo r2 6) (vl (sI μ1 (x6 + 4) (Int32.toNatClampNeg r2) ((μ1.1 (x6 + 4) (Int32.toNatClampNeg r2)) + (1 : Int32))) fun μ9 => vl (μ9.2.2 v0 9) fun x11 => gd (kd x11 = (4, 7)) (gd (ixo v1 6) (gd (ixo v1 6) (vl (sI μ9 (x11 + 5) (Int32.toNatClampNeg v1) ((μ9.1 (x11 + 5) (Int32.toNatClampNeg v1)) + (1 : Int32))) fun μ14 => bd (f_X0_leastLiked v0 v1 r2 μ14) fun r17 μ16 => if r17 = (-1 : Int32) then some ((), μ16) else bd (f_X0_likes v0 v1 r17 r2 μ16) fun r21 μ20 => bd (f_X0_bears v0 v1 r17 r2 μ20) fun r24 μ23 => if r21 < r24 then vl (μ23.2.2 v0 8) fun x27 => gd (kd x27 = (4, 2)) (bd (f_X2_firstBehind x27 r2 μ23) fun r30 μ29 => if r30 = (-1 : Int32) then vl (μ29.2.2 v0 9) fun x43 => gd (kd x43 = (4, 7)) (gd (ixo r17 8) (gd (ixo r17 8) (vl (sI μ29 (x43 + 3) (Int32.toNatClampNeg r17) ((μ29.1 (x43 + 3) (Int32.toNatClampNeg r17)) + (1 : Int32))) fun μ46 => vl (sI μ46 v0 1 ((μ46.1 v0 1) + (1 : Int32))) fun μ48 => some ((), μ48)))) else vl (μ29.2.2 v0 9) fun x33 => gd (kd x33 = (4, 7)) (gd (ixo r17 8) (vl (sI μ29 (x33 + 1) (Int32.toNatClampNeg r17) r30) fun μ35 => vl (μ35.2.2 v0 9) fun x37 => gd (kd x37 = (4, 7)) (gd (ixo r17 8) (gd (ixo r17 8) (vl (sI μ35 (x37 + 2) (Int32.toNatClampNeg r17) ((μ35.1 (x37 + 2) (Int32.toNatClampNeg r17)) + (1 : Int32))) fun μ40 => vl (sI μ40 v0 0 ((μ40.1 v0 0) + (1 : Int32))) fun μ42 => some ((), μ42))))))) else some ((), μ23))))))) else some ((), μ1)
def rm_X0_visit : Room := { frames := 4, cells := 0, slots := 0, locals := 158 }
set_option maxHeartbeats 4000000 in
set_option maxRecDepth 100000 in
theorem m_X0_visit (l : Launch) (w : fW) (hJ : fJ w) (hw : w.2.2.2 = sd 0) (v0 : Nat) (v1 : Int32) (hk0 : kd v0 = (4, 0)) (μ : fMem) {r : Unit} {μr : fMem} (h : f_X0_visit v0 v1 μ = some (r, μr)) : Met l yX0_visit (.code yX0_visit cX0_visit 5 none :: gw) rm_X0_visit (fPc w [.ref (w.2.2.1 v0), .int v1] μ) (fQv w μr) 0 0 (fA w) := by
  refine met_of hJ (by decide) ?_ (Nat.le_of_ble_eq_true rfl)
  generalize ([.ref (w.2.2.1 v0), .int v1] : List Value).toArray = args
  intro p e s m below meth c ls C hr hP hl hS
  obtain ⟨hx, hb, hml, hown, hts, hK, -, hlk, hT⟩ := id C
  have hl : lv_has ls 5 [(0, .ref (w.2.2.1 v0)), (1, .int v1)] := hl
  unfold f_X0_visit at h
  refine lv_aload_n hx hb dX0_visit_0 rfl (lv_at hl 0 rfl) ?_
  refine lv_iload_n hx hb dX0_visit_1 rfl (lv_at hl 1 rfl) ?_
  obtain ⟨r2, μ1, h3, h⟩ := bd_ok h
  refine go_i (callV_run (As := [.int v1]) (rest := []) C hl hP (hS.wide hJ).2.1 (iw hw (fi_0 hk0)) hk0 (m_X0_seat l w hJ hw v0 v1 hk0 μ h3) mv_X0_147 ⟨rfl, rfl, by decide, by decide⟩ rfl rfl (Nat.le_of_ble_eq_true rfl) ⟨Nat.zero_le _, Nat.zero_le _⟩ dX0_visit_2) hS (fun H locs hP hS => ?_)
  refine lv_istore_n (lv' := [(2, .int r2), (0, .ref (w.2.2.1 v0)), (1, .int v1)]) hx hb dX0_visit_5 rfl hl (by decide) rfl (fun ls hl => ?_)
  refine lv_iload_n hx hb dX0_visit_6 rfl (lv_at hl 0 rfl) ?_
  refine lv_if_lt (tgt := 16) hx hb dX0_visit_7 (by decide) (fun c4 => ?_) (fun c4 => ?_)
  · replace h := if_t c4 h
    exact r_vret C hr hP hS h dX0_visit_16
  · replace h := if_f c4 h
    refine lv_iload_n hx hb dX0_visit_10 rfl (lv_at hl 0 rfl) ?_
    refine lv_bipush (v := (6)) hx hb dX0_visit_11 (by decide) ?_
    refine lv_icmp_lt (tgt := 17) hx hb dX0_visit_13 (by decide) (fun c5 => ?_) (fun c5 => ?_)
    · replace h := if_t c5 h
      refine lv_aload_n hx hb dX0_visit_17 rfl (lv_at hl 1 rfl) ?_
      refine r_getRx C hP (iw hw (fi_0 hk0)) hk0 fl_X0_48 rfl (zw hw) dX0_visit_18 (fun x6 ex6 => ?_)
      replace h := vl_ok ex6 h
      obtain ⟨g7, h⟩ := gd_ok h
      refine r_getF (off := 4) C hP (iw hw (fi_7 g7)) g7 fl_X0_150 rfl rfl (zw hw) dX0_visit_21 ?_
      refine lv_iload_n hx hb dX0_visit_24 rfl (lv_at hl 0 rfl) ?_
      refine lv_dup2_11 hx hb dX0_visit_25 rfl rfl ?_
      obtain ⟨g8, h⟩ := gd_ok h
      refine r_iald C hP (iw hw (ff_7_3 g7).2) (ff_7_3 g7).1 g8 dX0_visit_26 ?_
      refine lv_iconst (v := (1)) hx hb dX0_visit_27 (by decide) ?_
      refine lv_iadd hx hb dX0_visit_28 ?_
      obtain ⟨g10, h⟩ := gd_ok h
      refine r_iast C hP hS (iw hw (ff_7_3 g7).2) (ff_7_3 g7).1 g10 dX0_visit_29 (fun H locs hP hS => ?_)
      obtain ⟨μ9, eμ9, h⟩ := vl_ex h
      have hP : fP w μ9 H := by rw [eμ9]; exact hP
      refine lv_aload_n hx hb dX0_visit_30 rfl (lv_at hl 1 rfl) ?_
      refine r_getRx C hP (iw hw (fi_0 hk0)) hk0 fl_X0_48 rfl (zw hw) dX0_visit_31 (fun x11 ex11 => ?_)
      replace h := vl_ok ex11 h
      obtain ⟨g12, h⟩ := gd_ok h
      refine r_getF (off := 5) C hP (iw hw (fi_7 g12)) g12 fl_X0_153 rfl rfl (zw hw) dX0_visit_34 ?_
      refine lv_iload_n hx hb dX0_visit_37 rfl (lv_at hl 2 rfl) ?_
      refine lv_dup2_11 hx hb dX0_visit_38 rfl rfl ?_
      obtain ⟨g13, h⟩ := gd_ok h
      refine r_iald C hP (iw hw (ff_7_4 g12).2) (ff_7_4 g12).1 g13 dX0_visit_39 ?_
      refine lv_iconst (v := (1)) hx hb dX0_visit_40 (by decide) ?_
      refine lv_iadd hx hb dX0_visit_41 ?_
      obtain ⟨g15, h⟩ := gd_ok h
      refine r_iast C hP hS (iw hw (ff_7_4 g12).2) (ff_7_4 g12).1 g15 dX0_visit_42 (fun H locs hP hS => ?_)
      obtain ⟨μ14, eμ14, h⟩ := vl_ex h
      have hP : fP w μ14 H := by rw [eμ14]; exact hP
      refine lv_aload_n hx hb dX0_visit_43 rfl (lv_at hl 1 rfl) ?_
      refine lv_iload_n hx hb dX0_visit_44 rfl (lv_at hl 2 rfl) ?_
      refine lv_iload_n hx hb dX0_visit_45 rfl (lv_at hl 0 rfl) ?_
      obtain ⟨r17, μ16, h18, h⟩ := bd_ok h
      refine go_i (callV_run (As := [.int v1, .int r2]) (rest := []) C hl hP (hS.wide hJ).2.1 (iw hw (fi_0 hk0)) hk0 (m_X0_leastLiked l w hJ hw v0 v1 r2 hk0 μ14 h18) mv_X0_156 ⟨rfl, rfl, by decide, by decide⟩ rfl rfl (Nat.le_of_ble_eq_true rfl) ⟨Nat.zero_le _, Nat.zero_le _⟩ dX0_visit_46) hS (fun H locs hP hS => ?_)
      refine lv_istore_n (lv' := [(3, .int r17), (2, .int r2), (0, .ref (w.2.2.1 v0)), (1, .int v1)]) hx hb dX0_visit_49 rfl hl (by decide) rfl (fun ls hl => ?_)
      refine lv_iload_n hx hb dX0_visit_50 rfl (lv_at hl 0 rfl) ?_
      refine lv_iconst (v := (-1)) hx hb dX0_visit_51 (by decide) ?_
      refine lv_icmp_eq (tgt := 72) hx hb dX0_visit_52 (by decide) (fun c19 => ?_) (fun c19 => ?_)
      · replace h := if_t c19 h
        exact r_vret C hr hP hS h dX0_visit_72
      · replace h := if_f c19 h
        refine lv_aload_n hx hb dX0_visit_55 rfl (lv_at hl 2 rfl) ?_
        refine lv_iload_n hx hb dX0_visit_56 rfl (lv_at hl 3 rfl) ?_
        refine lv_iload_n hx hb dX0_visit_57 rfl (lv_at hl 0 rfl) ?_
        refine lv_iload_n hx hb dX0_visit_58 rfl (lv_at hl 1 rfl) ?_
        obtain ⟨r21, μ20, h22, h⟩ := bd_ok h
        refine go_i (callV_run (As := [.int v1, .int r17, .int r2]) (rest := []) C hl hP (hS.wide hJ).2.1 (iw hw (fi_0 hk0)) hk0 (m_X0_likes l w hJ hw v0 v1 r17 r2 hk0 μ16 h22) mv_X0_160 ⟨rfl, rfl, by decide, by decide⟩ rfl rfl (Nat.le_of_ble_eq_true rfl) ⟨Nat.zero_le _, Nat.zero_le _⟩ dX0_visit_59) hS (fun H locs hP hS => ?_)
        refine lv_aload_n hx hb dX0_visit_62 rfl (lv_at hl 2 rfl) ?_
        refine lv_iload_n hx hb dX0_visit_63 rfl (lv_at hl 3 rfl) ?_
        refine lv_iload_n hx hb dX0_visit_64 rfl (lv_at hl 0 rfl) ?_
        refine lv_iload_n hx hb dX0_visit_65 rfl (lv_at hl 1 rfl) ?_
        obtain ⟨r24, μ23, h25, h⟩ := bd_ok h
        refine go_i (callV_run (As := [.int v1, .int r17, .int r2]) (rest := [.int r21]) C hl hP (hS.wide hJ).2.1 (iw hw (fi_0 hk0)) hk0 (m_X0_bears l w hJ hw v0 v1 r17 r2 hk0 μ20 h25) mv_X0_164 ⟨rfl, rfl, by decide, by decide⟩ rfl rfl (Nat.le_of_ble_eq_true rfl) ⟨Nat.zero_le _, Nat.zero_le _⟩ dX0_visit_66) hS (fun H locs hP hS => ?_)
        refine lv_icmp_lt (tgt := 73) hx hb dX0_visit_69 (by decide) (fun c26 => ?_) (fun c26 => ?_)
        · replace h := if_t c26 h
          refine lv_aload_n hx hb dX0_visit_73 rfl (lv_at hl 2 rfl) ?_
          refine r_getRx C hP (iw hw (fi_0 hk0)) hk0 fl_X0_41 rfl (zw hw) dX0_visit_74 (fun x27 ex27 => ?_)
          replace h := vl_ok ex27 h
          obtain ⟨g28, h⟩ := gd_ok h
          refine lv_iload_n hx hb dX0_visit_77 rfl (lv_at hl 1 rfl) ?_
          obtain ⟨r30, μ29, h31, h⟩ := bd_ok h
          refine go_i (callV_run (As := [.int r2]) (rest := []) C hl hP (hS.wide hJ).2.1 (iw hw (fi_2 g28)) g28 (m_X2_firstBehind l w hJ hw x27 r2 g28 μ23 h31) mv_X0_167 ⟨rfl, rfl, by decide, by decide⟩ rfl rfl (Nat.le_of_ble_eq_true rfl) ⟨Nat.zero_le _, Nat.zero_le _⟩ dX0_visit_78) hS (fun H locs hP hS => ?_)
          refine lv_istore (lv' := [(4, .int r30), (3, .int r17), (2, .int r2), (0, .ref (w.2.2.1 v0)), (1, .int v1)]) hx hb dX0_visit_81 hl (by decide) rfl (fun ls hl => ?_)
          refine lv_iload hx hb dX0_visit_83 (lv_at hl 0 rfl) ?_
          refine lv_iconst (v := (-1)) hx hb dX0_visit_85 (by decide) ?_
          refine lv_icmp_ne (tgt := 115) hx hb dX0_visit_86 (by decide) (fun c32 => ?_) (fun c32 => ?_)
          · replace h := if_f c32 h
            refine lv_aload_n hx hb dX0_visit_115 rfl (lv_at hl 3 rfl) ?_
            refine r_getRx C hP (iw hw (fi_0 hk0)) hk0 fl_X0_48 rfl (zw hw) dX0_visit_116 (fun x33 ex33 => ?_)
            replace h := vl_ok ex33 h
            obtain ⟨g34, h⟩ := gd_ok h
            refine r_getF (off := 1) C hP (iw hw (fi_7 g34)) g34 fl_X0_173 rfl rfl (zw hw) dX0_visit_119 ?_
            refine lv_iload_n hx hb dX0_visit_122 rfl (lv_at hl 1 rfl) ?_
            refine lv_iload hx hb dX0_visit_123 (lv_at hl 0 rfl) ?_
            obtain ⟨g36, h⟩ := gd_ok h
            refine r_iast C hP hS (iw hw (ff_7_0 g34).2) (ff_7_0 g34).1 g36 dX0_visit_125 (fun H locs hP hS => ?_)
            obtain ⟨μ35, eμ35, h⟩ := vl_ex h
            have hP : fP w μ35 H := by rw [eμ35]; exact hP
            refine lv_aload_n hx hb dX0_visit_126 rfl (lv_at hl 3 rfl) ?_
            refine r_getRx C hP (iw hw (fi_0 hk0)) hk0 fl_X0_48 rfl (zw hw) dX0_visit_127 (fun x37 ex37 => ?_)
            replace h := vl_ok ex37 h
            obtain ⟨g38, h⟩ := gd_ok h
            refine r_getF (off := 2) C hP (iw hw (fi_7 g38)) g38 fl_X0_176 rfl rfl (zw hw) dX0_visit_130 ?_
            refine lv_iload_n hx hb dX0_visit_133 rfl (lv_at hl 1 rfl) ?_
            refine lv_dup2_11 hx hb dX0_visit_134 rfl rfl ?_
            obtain ⟨g39, h⟩ := gd_ok h
            refine r_iald C hP (iw hw (ff_7_1 g38).2) (ff_7_1 g38).1 g39 dX0_visit_135 ?_
            refine lv_iconst (v := (1)) hx hb dX0_visit_136 (by decide) ?_
            refine lv_iadd hx hb dX0_visit_137 ?_
            obtain ⟨g41, h⟩ := gd_ok h
            refine r_iast C hP hS (iw hw (ff_7_1 g38).2) (ff_7_1 g38).1 g41 dX0_visit_138 (fun H locs hP hS => ?_)
            obtain ⟨μ40, eμ40, h⟩ := vl_ex h
            have hP : fP w μ40 H := by rw [eμ40]; exact hP
            refine lv_aload_n hx hb dX0_visit_139 rfl (lv_at hl 3 rfl) ?_
            refine lv_dup hx hb dX0_visit_140 rfl ?_
            refine r_getI C hP (iw hw (fi_0 hk0)) hk0 fl_X0_9 (Or.inl rfl) dX0_visit_141 ?_
            refine lv_iconst (v := (1)) hx hb dX0_visit_144 (by decide) ?_
            refine lv_iadd hx hb dX0_visit_145 ?_
            refine r_putI C hP hS (iw hw (fi_0 hk0)) hk0 fp_X0_9 rfl dX0_visit_146 (fun H locs hP hS => ?_)
            obtain ⟨μ42, eμ42, h⟩ := vl_ex h
            have hP : fP w μ42 H := by rw [eμ42]; exact hP
            exact r_vret C hr hP hS h dX0_visit_149
          · replace h := if_t c32 h
            refine lv_aload_n hx hb dX0_visit_89 rfl (lv_at hl 3 rfl) ?_
            refine r_getRx C hP (iw hw (fi_0 hk0)) hk0 fl_X0_48 rfl (zw hw) dX0_visit_90 (fun x43 ex43 => ?_)
            replace h := vl_ok ex43 h
            obtain ⟨g44, h⟩ := gd_ok h
            refine r_getF (off := 3) C hP (iw hw (fi_7 g44)) g44 fl_X0_170 rfl rfl (zw hw) dX0_visit_93 ?_
            refine lv_iload_n hx hb dX0_visit_96 rfl (lv_at hl 1 rfl) ?_
            refine lv_dup2_11 hx hb dX0_visit_97 rfl rfl ?_
            obtain ⟨g45, h⟩ := gd_ok h
            refine r_iald C hP (iw hw (ff_7_2 g44).2) (ff_7_2 g44).1 g45 dX0_visit_98 ?_
            refine lv_iconst (v := (1)) hx hb dX0_visit_99 (by decide) ?_
            refine lv_iadd hx hb dX0_visit_100 ?_
            obtain ⟨g47, h⟩ := gd_ok h
            refine r_iast C hP hS (iw hw (ff_7_2 g44).2) (ff_7_2 g44).1 g47 dX0_visit_101 (fun H locs hP hS => ?_)
            obtain ⟨μ46, eμ46, h⟩ := vl_ex h
            have hP : fP w μ46 H := by rw [eμ46]; exact hP
            refine lv_aload_n hx hb dX0_visit_102 rfl (lv_at hl 3 rfl) ?_
            refine lv_dup hx hb dX0_visit_103 rfl ?_
            refine r_getI C hP (iw hw (fi_0 hk0)) hk0 fl_X0_15 (Or.inl rfl) dX0_visit_104 ?_
            refine lv_iconst (v := (1)) hx hb dX0_visit_107 (by decide) ?_
            refine lv_iadd hx hb dX0_visit_108 ?_
            refine r_putI C hP hS (iw hw (fi_0 hk0)) hk0 fp_X0_15 rfl dX0_visit_109 (fun H locs hP hS => ?_)
            obtain ⟨μ48, eμ48, h⟩ := vl_ex h
            have hP : fP w μ48 H := by rw [eμ48]; exact hP
            refine lv_goto (tgt := 149) hx hb dX0_visit_112 (by decide) ?_
            exact r_vret C hr hP hS h dX0_visit_149
        · replace h := if_f c26 h
          exact r_vret C hr hP hS h dX0_visit_72
    · replace h := if_f c5 h
      exact r_vret C hr hP hS h dX0_visit_16

def f_X0_pass_L19 (v0 : Nat) (v1 : Int32) (v2 : Int32) (r6 : Int32) (v4 : Int32) (μ : fMem) : Option (Nat × (Int32 × fMem)) :=
  vl (μ.2.2 v0 8) fun x8 => gd (kd x8 = (4, 2)) (bd (f_X2_told x8 (3 : Int32) μ) fun r11 μ10 => if r11 ≤ v4 then some (1, (v4, μ10)) else if (r6 &&& (shl (1 : Int32) v4)) = 0 then vl (v4 + (1 : Int32)) fun x15 => some (0, (x15, μ10)) else bd (f_X0_visit v0 v4 μ10) fun r17 μ16 => vl (v4 + (1 : Int32)) fun x19 => some (0, (x19, μ16)))
def f_X0_pass_L2 (v0 : Nat) (v1 : Int32) (v2 : Int32) (μ : fMem) : Option (Nat × (Int32 × fMem)) :=
  if v1 ≤ v2 then some (1, (v2, μ)) else bd (f_X0_look v0 μ) fun r3 μ2 => bd (f_X0_comers v0 μ2) fun r6 μ5 => bd (lpn (fun (q : Int32 × fMem) => f_X0_pass_L19 v0 v1 v2 r6 q.1 q.2) fuel ((0 : Int32), μ5)) fun t20 q21 => (fun (x22 : Int32) (μ23 : fMem) => vl (μ23.2.2 v0 9) fun x24 => gd (kd x24 = (4, 7)) (vl (sI μ23 x24 6 ((μ23.1 x24 6) + (1 : Int32))) fun μ26 => vl (v2 + (1 : Int32)) fun x27 => some (0, (x27, μ26)))) q21.1 q21.2
def f_X0_pass (v0 : Nat) (v1 : Int32) (μ : fMem) : Option (Unit × fMem) :=
  bd (lpn (fun (q : Int32 × fMem) => f_X0_pass_L2 v0 v1 q.1 q.2) fuel ((0 : Int32), μ)) fun t29 q30 => (fun (x31 : Int32) (μ32 : fMem) => some ((), μ32)) q30.1 q30.2
def rm_X0_pass : Room := { frames := 5, cells := 0, slots := 0, locals := 182 }
set_option maxHeartbeats 4000000 in
set_option maxRecDepth 100000 in
theorem m_X0_pass (l : Launch) (w : fW) (hJ : fJ w) (hw : w.2.2.2 = sd 0) (v0 : Nat) (v1 : Int32) (hk0 : kd v0 = (4, 0)) (μ : fMem) {r : Unit} {μr : fMem} (h : f_X0_pass v0 v1 μ = some (r, μr)) : Met l yX0_pass (.code yX0_pass cX0_pass 5 none :: gw) rm_X0_pass (fPc w [.ref (w.2.2.1 v0), .int v1] μ) (fQv w μr) 0 0 (fA w) := by
  refine met_of hJ (by decide) ?_ (Nat.le_of_ble_eq_true rfl)
  generalize ([.ref (w.2.2.1 v0), .int v1] : List Value).toArray = args
  intro p e s m below meth c ls C hr hP hl hS
  obtain ⟨hx, hb, hml, hown, hts, hK, -, hlk, hT⟩ := id C
  have hl : lv_has ls 5 [(0, .ref (w.2.2.1 v0)), (1, .int v1)] := hl
  unfold f_X0_pass at h
  refine lv_iconst (v := (0)) hx hb dX0_pass_0 (by decide) ?_
  refine lv_istore_n (lv' := [(2, .int (0 : Int32)), (0, .ref (w.2.2.1 v0)), (1, .int v1)]) hx hb dX0_pass_1 rfl hl (by decide) rfl (fun ls hl => ?_)
  obtain ⟨t29, q30, h33, h⟩ := bd_ok h
  refine lpn_ind (b := (fun (q : Int32 × fMem) => f_X0_pass_L2 v0 v1 q.1 q.2)) (P := fun (q : Int32 × fMem) => WW p l e rm_X0_pass s m args below meth c (MQ below (fQv w μr) args s 0 0 (fA w)) w q.2 5 2 [] [(0, .ref (w.2.2.1 v0)), (1, .int v1), (2, .int q.1)]) (K := fun _ (q : Int32 × fMem) => WW p l e rm_X0_pass s m args below meth c (MQ below (fQv w μr) args s 0 0 (fA w)) w q.2 5 72 [] []) ?_ fuel ((0 : Int32), μ) t29 q30 h33 ?_ _ _ _ hP hS (lv_sub hl [1, 2, 0] rfl)
  · intro q tz2 sz2 h hP0_2 hK0_2 H locs ls hP hS hl
    obtain ⟨v2, μ⟩ := q
    have hP : fP w μ H := hP
    have hl : lv_has ls 5 [(0, .ref (w.2.2.1 v0)), (1, .int v1), (2, .int v2)] := hl
    have h : f_X0_pass_L2 v0 v1 v2 μ = some (tz2, sz2) := h
    unfold f_X0_pass_L2 at h
    refine lv_iload_n hx hb dX0_pass_2 rfl (lv_at hl 2 rfl) ?_
    refine lv_iload_n hx hb dX0_pass_3 rfl (lv_at hl 1 rfl) ?_
    refine lv_icmp_ge (tgt := 72) hx hb dX0_pass_4 (by decide) (fun c1 => ?_) (fun c1 => ?_)
    · replace h := if_t c1 h
      obtain ⟨rfl, rfl⟩ := leaf h
      exact (hK0_2 0 rfl) _ _ _ hP hS (lv_sub hl [] rfl)
    · replace h := if_f c1 h
      refine lv_aload_n hx hb dX0_pass_7 rfl (lv_at hl 0 rfl) ?_
      obtain ⟨r3, μ2, h4, h⟩ := bd_ok h
      refine go_v (callV_run (As := []) (rest := []) C hl hP (hS.wide hJ).2.1 (iw hw (fi_0 hk0)) hk0 (m_X0_look l w hJ hw v0 hk0 μ h4) mv_X0_83 ⟨rfl, rfl, by decide, by decide⟩ rfl rfl (Nat.le_of_ble_eq_true rfl) ⟨Nat.zero_le _, Nat.zero_le _⟩ dX0_pass_8) hS (fun H locs hP hS => ?_)
      refine lv_aload_n hx hb dX0_pass_11 rfl (lv_at hl 0 rfl) ?_
      obtain ⟨r6, μ5, h7, h⟩ := bd_ok h
      refine go_i (callV_run (As := []) (rest := []) C hl hP (hS.wide hJ).2.1 (iw hw (fi_0 hk0)) hk0 (m_X0_comers l w hJ hw v0 hk0 μ2 h7) mv_X0_117 ⟨rfl, rfl, by decide, by decide⟩ rfl rfl (Nat.le_of_ble_eq_true rfl) ⟨Nat.zero_le _, Nat.zero_le _⟩ dX0_pass_12) hS (fun H locs hP hS => ?_)
      refine lv_istore_n (lv' := [(3, .int r6), (0, .ref (w.2.2.1 v0)), (1, .int v1), (2, .int v2)]) hx hb dX0_pass_15 rfl hl (by decide) rfl (fun ls hl => ?_)
      refine lv_iconst (v := (0)) hx hb dX0_pass_16 (by decide) ?_
      refine lv_istore (lv' := [(4, .int (0 : Int32)), (3, .int r6), (0, .ref (w.2.2.1 v0)), (1, .int v1), (2, .int v2)]) hx hb dX0_pass_17 hl (by decide) rfl (fun ls hl => ?_)
      obtain ⟨t20, q21, h28, h⟩ := bd_ok h
      refine lpn_ind (b := (fun (q : Int32 × fMem) => f_X0_pass_L19 v0 v1 v2 r6 q.1 q.2)) (P := fun (q : Int32 × fMem) => WW p l e rm_X0_pass s m args below meth c (MQ below (fQv w μr) args s 0 0 (fA w)) w q.2 5 19 [] [(0, .ref (w.2.2.1 v0)), (1, .int v1), (2, .int v2), (3, .int r6), (4, .int q.1)]) (K := fun _ (q : Int32 × fMem) => WW p l e rm_X0_pass s m args below meth c (MQ below (fQv w μr) args s 0 0 (fA w)) w q.2 5 53 [] [(0, .ref (w.2.2.1 v0)), (1, .int v1), (2, .int v2)]) ?_ fuel ((0 : Int32), μ5) t20 q21 h28 ?_ _ _ _ hP hS (lv_sub hl [2, 3, 4, 1, 0] rfl)
      · intro q tz19 sz19 h hP0_19 hK0_19 H locs ls hP hS hl
        obtain ⟨v4, μ⟩ := q
        have hP : fP w μ H := hP
        have hl : lv_has ls 5 [(0, .ref (w.2.2.1 v0)), (1, .int v1), (2, .int v2), (3, .int r6), (4, .int v4)] := hl
        have h : f_X0_pass_L19 v0 v1 v2 r6 v4 μ = some (tz19, sz19) := h
        unfold f_X0_pass_L19 at h
        refine lv_iload hx hb dX0_pass_19 (lv_at hl 4 rfl) ?_
        refine lv_aload_n hx hb dX0_pass_21 rfl (lv_at hl 0 rfl) ?_
        refine r_getRx C hP (iw hw (fi_0 hk0)) hk0 fl_X0_41 rfl (zw hw) dX0_pass_22 (fun x8 ex8 => ?_)
        replace h := vl_ok ex8 h
        obtain ⟨g9, h⟩ := gd_ok h
        refine lv_iconst (v := (3)) hx hb dX0_pass_25 (by decide) ?_
        obtain ⟨r11, μ10, h12, h⟩ := bd_ok h
        refine go_i (callV_run (As := [.int (3 : Int32)]) (rest := [.int v4]) C hl hP (hS.wide hJ).2.1 (iw hw (fi_2 g9)) g9 (m_X2_told l w hJ hw x8 (3 : Int32) g9 μ h12) mv_X0_121 ⟨rfl, rfl, by decide, by decide⟩ rfl rfl (Nat.le_of_ble_eq_true rfl) ⟨Nat.zero_le _, Nat.zero_le _⟩ dX0_pass_26) hS (fun H locs hP hS => ?_)
        refine lv_icmp_ge (tgt := 53) hx hb dX0_pass_29 (by decide) (fun c13 => ?_) (fun c13 => ?_)
        · replace h := if_t c13 h
          obtain ⟨rfl, rfl⟩ := leaf h
          exact (hK0_19 0 rfl) _ _ _ hP hS (lv_sub hl [0, 1, 2] rfl)
        · replace h := if_f c13 h
          refine lv_iload_n hx hb dX0_pass_32 rfl (lv_at hl 3 rfl) ?_
          refine lv_iconst (v := (1)) hx hb dX0_pass_33 (by decide) ?_
          refine lv_iload hx hb dX0_pass_34 (lv_at hl 4 rfl) ?_
          refine r_ishl hx hb dX0_pass_36 ?_
          refine lv_iand hx hb dX0_pass_37 ?_
          refine lv_if_eq (tgt := 47) hx hb dX0_pass_38 (by decide) (fun c14 => ?_) (fun c14 => ?_)
          · replace h := if_t c14 h
            obtain ⟨x15, ex15⟩ : ∃ y : Int32, y = (v4 + (1 : Int32)) := ⟨_, rfl⟩
            replace h := vl_ok ex15 h
            refine lv_iinc (v := x15) (lv' := [(4, .int x15), (0, .ref (w.2.2.1 v0)), (1, .int v1), (2, .int v2), (3, .int r6)]) hx hb dX0_pass_47 hl (k := 4) rfl (by rw [ex15]; rfl) (by decide) rfl (fun ls hl => ?_)
            refine lv_goto (tgt := 19) hx hb dX0_pass_50 (by decide) ?_
            obtain ⟨rfl, rfl⟩ := leaf h
            exact hP0_19 rfl _ _ _ hP hS (lv_sub hl [1, 2, 3, 4, 0] rfl)
          · replace h := if_f c14 h
            refine lv_aload_n hx hb dX0_pass_41 rfl (lv_at hl 0 rfl) ?_
            refine lv_iload hx hb dX0_pass_42 (lv_at hl 4 rfl) ?_
            obtain ⟨r17, μ16, h18, h⟩ := bd_ok h
            refine go_v (callV_run (As := [.int v4]) (rest := []) C hl hP (hS.wide hJ).2.1 (iw hw (fi_0 hk0)) hk0 (m_X0_visit l w hJ hw v0 v4 hk0 μ10 h18) mv_X0_124 ⟨rfl, rfl, by decide, by decide⟩ rfl rfl (Nat.le_of_ble_eq_true rfl) ⟨Nat.zero_le _, Nat.zero_le _⟩ dX0_pass_44) hS (fun H locs hP hS => ?_)
            obtain ⟨x19, ex19⟩ : ∃ y : Int32, y = (v4 + (1 : Int32)) := ⟨_, rfl⟩
            replace h := vl_ok ex19 h
            refine lv_iinc (v := x19) (lv' := [(4, .int x19), (0, .ref (w.2.2.1 v0)), (1, .int v1), (2, .int v2), (3, .int r6)]) hx hb dX0_pass_47 hl (k := 4) rfl (by rw [ex19]; rfl) (by decide) rfl (fun ls hl => ?_)
            refine lv_goto (tgt := 19) hx hb dX0_pass_50 (by decide) ?_
            obtain ⟨rfl, rfl⟩ := leaf h
            exact hP0_19 rfl _ _ _ hP hS (lv_sub hl [1, 2, 3, 4, 0] rfl)
      · obtain ⟨x22, μ23⟩ := q21
        intro H locs ls hP hS hl
        have hP : fP w μ23 H := hP
        have hl : lv_has ls 5 [(0, .ref (w.2.2.1 v0)), (1, .int v1), (2, .int v2)] := hl
        try dsimp only at h
        refine lv_aload_n hx hb dX0_pass_53 rfl (lv_at hl 0 rfl) ?_
        refine r_getRx C hP (iw hw (fi_0 hk0)) hk0 fl_X0_48 rfl (zw hw) dX0_pass_54 (fun x24 ex24 => ?_)
        replace h := vl_ok ex24 h
        obtain ⟨g25, h⟩ := gd_ok h
        refine lv_dup hx hb dX0_pass_57 rfl ?_
        refine r_getI C hP (iw hw (fi_7 g25)) g25 fl_X0_96 (Or.inl rfl) dX0_pass_58 ?_
        refine lv_iconst (v := (1)) hx hb dX0_pass_61 (by decide) ?_
        refine lv_iadd hx hb dX0_pass_62 ?_
        refine r_putI C hP hS (iw hw (fi_7 g25)) g25 fp_X0_96 rfl dX0_pass_63 (fun H locs hP hS => ?_)
        obtain ⟨μ26, eμ26, h⟩ := vl_ex h
        have hP : fP w μ26 H := by rw [eμ26]; exact hP
        obtain ⟨x27, ex27⟩ : ∃ y : Int32, y = (v2 + (1 : Int32)) := ⟨_, rfl⟩
        replace h := vl_ok ex27 h
        refine lv_iinc (v := x27) (lv' := [(2, .int x27), (0, .ref (w.2.2.1 v0)), (1, .int v1)]) hx hb dX0_pass_66 hl (k := 2) rfl (by rw [ex27]; rfl) (by decide) rfl (fun ls hl => ?_)
        refine lv_goto (tgt := 2) hx hb dX0_pass_69 (by decide) ?_
        obtain ⟨rfl, rfl⟩ := leaf h
        exact hP0_2 rfl _ _ _ hP hS (lv_sub hl [1, 2, 0] rfl)
  · obtain ⟨x31, μ32⟩ := q30
    intro H locs ls hP hS hl
    have hP : fP w μ32 H := hP
    have hl : lv_has ls 5 [] := hl
    try dsimp only at h
    exact r_vret C hr hP hS h dX0_pass_72

def f_X2_lawOf (v0 : Nat) (v1 : Int32) (μ : fMem) : Option (Nat × fMem) :=
  if v1 = 0 then some ((v0 + 16), μ) else if v1 = (1 : Int32) then some ((v0 + 20), μ) else some ((v0 + 24), μ)
def rm_X2_lawOf : Room := { frames := 0, cells := 0, slots := 0, locals := 0 }
set_option maxHeartbeats 4000000 in
set_option maxRecDepth 100000 in
theorem m_X2_lawOf (l : Launch) (w : fW) (hJ : fJ w) (hw : w.2.2.2 = sd 0) (v0 : Nat) (v1 : Int32) (hk0 : kd v0 = (4, 2)) (μ : fMem) {r : Nat} {μr : fMem} (h : f_X2_lawOf v0 v1 μ = some (r, μr)) : Met l yX2_lawOf (.code yX2_lawOf cX2_lawOf 2 (some (.object "DeadMonday$Law")) :: gw) rm_X2_lawOf (fPc w [.ref (w.2.2.1 v0), .int v1] μ) (fQr w r μr) 0 0 (fA w) := by
  refine met_of hJ (by decide) ?_ (Nat.le_of_ble_eq_true rfl)
  generalize ([.ref (w.2.2.1 v0), .int v1] : List Value).toArray = args
  intro p e s m below meth c ls C hr hP hl hS
  obtain ⟨hx, hb, hml, hown, hts, hK, -, hlk, hT⟩ := id C
  have hl : lv_has ls 2 [(0, .ref (w.2.2.1 v0)), (1, .int v1)] := hl
  unfold f_X2_lawOf at h
  refine lv_iload_n hx hb dX2_lawOf_0 rfl (lv_at hl 1 rfl) ?_
  refine lv_if_ne (tgt := 11) hx hb dX2_lawOf_1 (by decide) (fun c1 => ?_) (fun c1 => ?_)
  · replace h := if_f c1 h
    refine lv_iload_n hx hb dX2_lawOf_11 rfl (lv_at hl 1 rfl) ?_
    refine lv_iconst (v := (1)) hx hb dX2_lawOf_12 (by decide) ?_
    refine lv_icmp_ne (tgt := 23) hx hb dX2_lawOf_13 (by decide) (fun c2 => ?_) (fun c2 => ?_)
    · replace h := if_f c2 h
      refine lv_aload_n hx hb dX2_lawOf_23 rfl (lv_at hl 0 rfl) ?_
      refine r_getF (off := 24) C hP (iw hw (fi_2 hk0)) hk0 fl_X2_64 rfl rfl (zw hw) dX2_lawOf_24 ?_
      exact r_aret C hr hP hS h dX2_lawOf_27
    · replace h := if_t c2 h
      refine lv_aload_n hx hb dX2_lawOf_16 rfl (lv_at hl 0 rfl) ?_
      refine r_getF (off := 20) C hP (iw hw (fi_2 hk0)) hk0 fl_X2_61 rfl rfl (zw hw) dX2_lawOf_17 ?_
      refine lv_goto (tgt := 27) hx hb dX2_lawOf_20 (by decide) ?_
      exact r_aret C hr hP hS h dX2_lawOf_27
  · replace h := if_t c1 h
    refine lv_aload_n hx hb dX2_lawOf_4 rfl (lv_at hl 0 rfl) ?_
    refine r_getF (off := 16) C hP (iw hw (fi_2 hk0)) hk0 fl_X2_57 rfl rfl (zw hw) dX2_lawOf_5 ?_
    refine lv_goto (tgt := 27) hx hb dX2_lawOf_8 (by decide) ?_
    exact r_aret C hr hP hS h dX2_lawOf_27

def f_X0_value (v0 : Nat) (v1 : Int32) (v2 : Int32) (v3 : Int32) (v4 : Int32) (μ : fMem) : Option (Int64 × fMem) :=
  bd (f_X0_tellNames v0 v2 v3 v4 μ) fun r2 μ1 => vl (μ1.2.2 v0 8) fun x4 => gd (kd x4 = (4, 2)) (bd (f_X2_lawOf x4 v1 μ1) fun r7 μ6 => gd (kd r7 = (4, 3)) (bd (f_X3_work r7 (v0 + 35) μ6) fun r11 μ10 => some (r11, μ10)))
def rm_X0_value : Room := { frames := 2, cells := 0, slots := 0, locals := 52 }
set_option maxHeartbeats 4000000 in
set_option maxRecDepth 100000 in
theorem m_X0_value (l : Launch) (w : fW) (hJ : fJ w) (hw : w.2.2.2 = sd 0) (v0 : Nat) (v1 : Int32) (v2 : Int32) (v3 : Int32) (v4 : Int32) (hk0 : kd v0 = (4, 0)) (μ : fMem) {r : Int64} {μr : fMem} (h : f_X0_value v0 v1 v2 v3 v4 μ = some (r, μr)) : Met l yX0_value (.code yX0_value cX0_value 5 (some .long) :: gw) rm_X0_value (fPc w [.ref (w.2.2.1 v0), .int v1, .int v2, .int v3, .int v4] μ) (fQl w r μr) 0 0 (fA w) := by
  refine met_of hJ (by decide) ?_ (Nat.le_of_ble_eq_true rfl)
  generalize ([.ref (w.2.2.1 v0), .int v1, .int v2, .int v3, .int v4] : List Value).toArray = args
  intro p e s m below meth c ls C hr hP hl hS
  obtain ⟨hx, hb, hml, hown, hts, hK, -, hlk, hT⟩ := id C
  have hl : lv_has ls 5 [(0, .ref (w.2.2.1 v0)), (1, .int v1), (2, .int v2), (3, .int v3), (4, .int v4)] := hl
  unfold f_X0_value at h
  refine lv_aload_n hx hb dX0_value_0 rfl (lv_at hl 0 rfl) ?_
  refine lv_iload_n hx hb dX0_value_1 rfl (lv_at hl 2 rfl) ?_
  refine lv_iload_n hx hb dX0_value_2 rfl (lv_at hl 3 rfl) ?_
  refine lv_iload hx hb dX0_value_3 (lv_at hl 4 rfl) ?_
  obtain ⟨r2, μ1, h3, h⟩ := bd_ok h
  refine go_v (callV_run (As := [.int v2, .int v3, .int v4]) (rest := []) C hl hP (hS.wide hJ).2.1 (iw hw (fi_0 hk0)) hk0 (m_X0_tellNames l w hJ hw v0 v2 v3 v4 hk0 μ h3) mv_X0_131 ⟨rfl, rfl, by decide, by decide⟩ rfl rfl (Nat.le_of_ble_eq_true rfl) ⟨Nat.zero_le _, Nat.zero_le _⟩ dX0_value_5) hS (fun H locs hP hS => ?_)
  refine lv_aload_n hx hb dX0_value_8 rfl (lv_at hl 0 rfl) ?_
  refine r_getRx C hP (iw hw (fi_0 hk0)) hk0 fl_X0_41 rfl (zw hw) dX0_value_9 (fun x4 ex4 => ?_)
  replace h := vl_ok ex4 h
  obtain ⟨g5, h⟩ := gd_ok h
  refine lv_iload_n hx hb dX0_value_12 rfl (lv_at hl 1 rfl) ?_
  obtain ⟨r7, μ6, h8, h⟩ := bd_ok h
  refine go_r (callV_run (As := [.int v1]) (rest := []) C hl hP (hS.wide hJ).2.1 (iw hw (fi_2 g5)) g5 (m_X2_lawOf l w hJ hw x4 v1 g5 μ1 h8) mv_X0_227 ⟨rfl, rfl, by decide, by decide⟩ rfl rfl (Nat.le_of_ble_eq_true rfl) ⟨Nat.zero_le _, Nat.zero_le _⟩ dX0_value_13) hS (fun H locs hP hS => ?_)
  obtain ⟨g9, h⟩ := gd_ok h
  refine lv_aload_n hx hb dX0_value_16 rfl (lv_at hl 0 rfl) ?_
  refine r_getF (off := 35) C hP (iw hw (fi_0 hk0)) hk0 fl_X0_55 rfl rfl (zw hw) dX0_value_17 ?_
  obtain ⟨r11, μ10, h12, h⟩ := bd_ok h
  refine go_l (callV_run (As := [.ref (w.2.2.1 (v0 + 35))]) (rest := []) C hl hP (hS.wide hJ).2.1 (iw hw (fi_3 g9)) g9 (m_X3_work l w hJ hw r7 (v0 + 35) g9 (karr (ff_0_11 hk0).1) (iw hw (ff_0_11 hk0).2) μ6 h12) mv_X0_138 ⟨rfl, rfl, by decide, by decide⟩ rfl rfl (Nat.le_of_ble_eq_true rfl) ⟨Nat.zero_le _, Nat.zero_le _⟩ dX0_value_20) hS (fun H locs hP hS => ?_)
  exact r_lret C hr hP hS h dX0_value_23

def f_X1_weigh_L16 (v0 : Nat) (v1 : Int32) (v2 : Nat) (v3 : Nat) (v4 : Nat) (v5 : Int32) (μ : fMem) : Option (Nat × (Int32 × fMem)) :=
  bd (f_X2_told v2 (2 : Int32) μ) fun r7 μ6 => if r7 ≤ v5 then some (1, (v5, μ6)) else gd (ixo v5 8) (vl (μ6.1 (v3 + 1) (Int32.toNatClampNeg v5)) fun x11 => bd (f_X2_has v2 (0 : Int32) x11 μ6) fun r13 μ12 => if r13 = 0 then vl (v5 + (1 : Int32)) fun x16 => some (0, (x16, μ12)) else gd (ixo v1 6) (gd (ixo x11 6) (bd (f_X0_likes v4 v1 v5 x11 μ12) fun r20 μ19 => gd (ixo x11 6) (vl (sI μ19 ((v0 + 28) + 1 + (Int32.toNatClampNeg v1)) (Int32.toNatClampNeg x11) ((μ12.1 ((v0 + 28) + 1 + (Int32.toNatClampNeg v1)) (Int32.toNatClampNeg x11)) + r20)) fun μ22 => vl (v5 + (1 : Int32)) fun x24 => some (0, (x24, μ22))))))
def f_X1_weigh_L88 (v0 : Nat) (v1 : Int32) (v4 : Nat) (v5 : Int32) (v6 : Int32) (μ : fMem) : Option (Nat × (Int32 × fMem)) :=
  if (μ.1 v0 3) ≤ v6 then some (1, (v6, μ)) else gd (ixo ((v5 * (6 : Int32)) + v1) 24) (bd (f_X0_likes v4 v1 v5 v6 μ) fun r33 μ32 => gd (ixo v6 6) (vl (sI μ32 ((v0 + 3) + 1 + (Int32.toNatClampNeg ((v5 * (6 : Int32)) + v1))) (Int32.toNatClampNeg v6) r33) fun μ35 => vl (v6 + (1 : Int32)) fun x37 => some (0, (x37, μ35))))
def f_X1_weigh_L76 (v0 : Nat) (v1 : Int32) (v4 : Nat) (v5 : Int32) (μ : fMem) : Option (Nat × (Int32 × fMem)) :=
  if (μ.1 v0 2) ≤ v5 then some (1, (v5, μ)) else bd (lpn (fun (q : Int32 × fMem) => f_X1_weigh_L88 v0 v1 v4 v5 q.1 q.2) fuel ((0 : Int32), μ)) fun t38 q39 => (fun (x40 : Int32) (μ41 : fMem) => vl (v5 + (1 : Int32)) fun x42 => some (0, (x42, μ41))) q39.1 q39.2
def f_X1_weigh_L146 (v0 : Nat) (v1 : Int32) (v5 : Int32) (μ : fMem) : Option (Nat × (Int32 × fMem)) :=
  if (μ.1 v0 3) ≤ v5 then some (1, (v5, μ)) else if ((μ.1 v0 5) &&& (shl (1 : Int32) v5)) = 0 then gd (ixo v1 6) (gd (ixo v1 6) (gd (ixo v5 6) (gd (ixo v1 6) (vl (sI μ ((v0 + 35) + 1 + 0) (Int32.toNatClampNeg v1) (imx (μ.1 ((v0 + 35) + 1 + 0) (Int32.toNatClampNeg v1)) (μ.1 ((v0 + 28) + 1 + (Int32.toNatClampNeg v1)) (Int32.toNatClampNeg v5)))) fun μ56 => vl (v5 + (1 : Int32)) fun x58 => some (0, (x58, μ56)))))) else vl (v5 + (1 : Int32)) fun x52 => some (0, (x52, μ))
def f_X1_weigh (v0 : Nat) (v1 : Int32) (v2 : Nat) (v3 : Nat) (v4 : Nat) (μ : fMem) : Option (Unit × fMem) :=
  gd (ixo v1 6) (bd (f_J7_fill_53178 ((v0 + 28) + 1 + (Int32.toNatClampNeg v1)) (0 : Int32) μ) fun r3 μ2 => vl (μ2.1 v0 2) fun x5 => bd (lpn (fun (q : Int32 × fMem) => f_X1_weigh_L16 v0 v1 v2 v3 v4 q.1 q.2) fuel (x5, μ2)) fun t25 q26 => (fun (x27 : Int32) (μ28 : fMem) => bd (lpn (fun (q : Int32 × fMem) => f_X1_weigh_L76 v0 v1 v4 q.1 q.2) fuel ((0 : Int32), μ28)) fun t44 q45 => (fun (x46 : Int32) (μ47 : fMem) => gd (ixo v1 6) (vl (sI μ47 ((v0 + 35) + 1 + 0) (Int32.toNatClampNeg v1) (0 : Int32)) fun μ48 => bd (lpn (fun (q : Int32 × fMem) => f_X1_weigh_L146 v0 v1 q.1 q.2) fuel ((0 : Int32), μ48)) fun t59 q60 => (fun (x61 : Int32) (μ62 : fMem) => some ((), μ62)) q60.1 q60.2)) q45.1 q45.2) q26.1 q26.2)
def rm_X1_weigh : Room := { frames := 3, cells := 0, slots := 0, locals := 131 }
set_option maxHeartbeats 4000000 in
set_option maxRecDepth 100000 in
theorem m_X1_weigh (l : Launch) (w : fW) (hJ : fJ w) (hw : w.2.2.2 = sd 0) (v0 : Nat) (v1 : Int32) (v2 : Nat) (v3 : Nat) (v4 : Nat) (hk0 : kd v0 = (4, 1)) (hk2 : kd v2 = (4, 2)) (hk3 : kd v3 = (4, 7)) (hk4 : kd v4 = (4, 0)) (μ : fMem) {r : Unit} {μr : fMem} (h : f_X1_weigh v0 v1 v2 v3 v4 μ = some (r, μr)) : Met l yX1_weigh (.code yX1_weigh cX1_weigh 7 none :: gw) rm_X1_weigh (fPc w [.ref (w.2.2.1 v0), .int v1, .ref (w.2.2.1 v2), .ref (w.2.2.1 v3), .ref (w.2.2.1 v4)] μ) (fQv w μr) 0 0 (fA w) := by
  refine met_of hJ (by decide) ?_ (Nat.le_of_ble_eq_true rfl)
  generalize ([.ref (w.2.2.1 v0), .int v1, .ref (w.2.2.1 v2), .ref (w.2.2.1 v3), .ref (w.2.2.1 v4)] : List Value).toArray = args
  intro p e s m below meth c ls C hr hP hl hS
  obtain ⟨hx, hb, hml, hown, hts, hK, -, hlk, hT⟩ := id C
  have hl : lv_has ls 7 [(0, .ref (w.2.2.1 v0)), (1, .int v1), (2, .ref (w.2.2.1 v2)), (3, .ref (w.2.2.1 v3)), (4, .ref (w.2.2.1 v4))] := hl
  unfold f_X1_weigh at h
  refine lv_aload_n hx hb dX1_weigh_0 rfl (lv_at hl 0 rfl) ?_
  refine r_getF (off := 28) C hP (iw hw (fi_1 hk0)) hk0 fl_X1_39 rfl rfl (zw hw) dX1_weigh_1 ?_
  refine lv_iload_n hx hb dX1_weigh_4 rfl (lv_at hl 1 rfl) ?_
  obtain ⟨g1, h⟩ := gd_ok h
  refine r_aald C hP (iw hw (ff_1_8 hk0).2) (ff_1_8 hk0).1 g1 dX1_weigh_5 ?_
  refine lv_iconst (v := (0)) hx hb dX1_weigh_6 (by decide) ?_
  obtain ⟨r3, μ2, h4, h⟩ := bd_ok h
  refine go_v (callS_run (As := [.ref (w.2.2.1 ((v0 + 28) + 1 + (Int32.toNatClampNeg v1))), .int (0 : Int32)]) (rest := []) C hl hP (hS.wide hJ).2.1 (m_J7_fill_53178 l w hJ ((v0 + 28) + 1 + (Int32.toNatClampNeg v1)) (0 : Int32) (karr (rowkd (fr_row (ff_1_8 hk0).1 (ixlt g1)).1 (f2_1_8 hk0))) (iw hw (fr_row (ff_1_8 hk0).1 (ixlt g1)).2) μ h4) ms_X1_68 ⟨rfl, rfl, by decide, by decide⟩ rfl rfl (Nat.le_of_ble_eq_true rfl) ⟨Nat.zero_le _, Nat.zero_le _⟩ dX1_weigh_7) hS (fun H locs hP hS => ?_)
  refine lv_aload_n hx hb dX1_weigh_10 rfl (lv_at hl 0 rfl) ?_
  refine r_getI C hP (iw hw (fi_1 hk0)) hk0 fl_X1_19 (Or.inl rfl) dX1_weigh_11 ?_
  refine lv_topi (fun x5 ex5 => ?_)
  replace h := vl_ok ex5 h
  refine lv_istore (lv' := [(5, .int x5), (0, .ref (w.2.2.1 v0)), (1, .int v1), (2, .ref (w.2.2.1 v2)), (3, .ref (w.2.2.1 v3)), (4, .ref (w.2.2.1 v4))]) hx hb dX1_weigh_14 hl (by decide) rfl (fun ls hl => ?_)
  obtain ⟨t25, q26, h65, h⟩ := bd_ok h
  refine lpn_ind (b := (fun (q : Int32 × fMem) => f_X1_weigh_L16 v0 v1 v2 v3 v4 q.1 q.2)) (P := fun (q : Int32 × fMem) => WW p l e rm_X1_weigh s m args below meth c (MQ below (fQv w μr) args s 0 0 (fA w)) w q.2 7 16 [] [(0, .ref (w.2.2.1 v0)), (1, .int v1), (2, .ref (w.2.2.1 v2)), (3, .ref (w.2.2.1 v3)), (4, .ref (w.2.2.1 v4)), (5, .int q.1)]) (K := fun _ (q : Int32 × fMem) => WW p l e rm_X1_weigh s m args below meth c (MQ below (fQv w μr) args s 0 0 (fA w)) w q.2 7 73 [] [(0, .ref (w.2.2.1 v0)), (1, .int v1), (4, .ref (w.2.2.1 v4))]) ?_ fuel (x5, μ2) t25 q26 h65 ?_ _ _ _ hP hS (lv_sub hl [1, 2, 3, 4, 5, 0] rfl)
  · intro q tz16 sz16 h hP0_16 hK0_16 H locs ls hP hS hl
    obtain ⟨v5, μ⟩ := q
    have hP : fP w μ H := hP
    have hl : lv_has ls 7 [(0, .ref (w.2.2.1 v0)), (1, .int v1), (2, .ref (w.2.2.1 v2)), (3, .ref (w.2.2.1 v3)), (4, .ref (w.2.2.1 v4)), (5, .int v5)] := hl
    have h : f_X1_weigh_L16 v0 v1 v2 v3 v4 v5 μ = some (tz16, sz16) := h
    unfold f_X1_weigh_L16 at h
    refine lv_iload hx hb dX1_weigh_16 (lv_at hl 5 rfl) ?_
    refine lv_aload_n hx hb dX1_weigh_18 rfl (lv_at hl 2 rfl) ?_
    refine lv_iconst (v := (2)) hx hb dX1_weigh_19 (by decide) ?_
    obtain ⟨r7, μ6, h8, h⟩ := bd_ok h
    refine go_i (callV_run (As := [.int (2 : Int32)]) (rest := [.int v5]) C hl hP (hS.wide hJ).2.1 (iw hw (fi_2 hk2)) hk2 (m_X2_told l w hJ hw v2 (2 : Int32) hk2 μ h8) mv_X1_45 ⟨rfl, rfl, by decide, by decide⟩ rfl rfl (Nat.le_of_ble_eq_true rfl) ⟨Nat.zero_le _, Nat.zero_le _⟩ dX1_weigh_20) hS (fun H locs hP hS => ?_)
    refine lv_icmp_ge (tgt := 73) hx hb dX1_weigh_23 (by decide) (fun c9 => ?_) (fun c9 => ?_)
    · replace h := if_t c9 h
      obtain ⟨rfl, rfl⟩ := leaf h
      exact (hK0_16 0 rfl) _ _ _ hP hS (lv_sub hl [0, 1, 4] rfl)
    · replace h := if_f c9 h
      refine lv_aload_n hx hb dX1_weigh_26 rfl (lv_at hl 3 rfl) ?_
      refine r_getF (off := 1) C hP (iw hw (fi_7 hk3)) hk3 fl_X1_74 rfl rfl (zw hw) dX1_weigh_27 ?_
      refine lv_iload hx hb dX1_weigh_30 (lv_at hl 5 rfl) ?_
      obtain ⟨g10, h⟩ := gd_ok h
      refine r_iald C hP (iw hw (ff_7_0 hk3).2) (ff_7_0 hk3).1 g10 dX1_weigh_32 ?_
      refine lv_topi (fun x11 ex11 => ?_)
      replace h := vl_ok ex11 h
      refine lv_istore (lv' := [(6, .int x11), (0, .ref (w.2.2.1 v0)), (1, .int v1), (2, .ref (w.2.2.1 v2)), (3, .ref (w.2.2.1 v3)), (4, .ref (w.2.2.1 v4)), (5, .int v5)]) hx hb dX1_weigh_33 hl (by decide) rfl (fun ls hl => ?_)
      refine lv_aload_n hx hb dX1_weigh_35 rfl (lv_at hl 3 rfl) ?_
      refine lv_iconst (v := (0)) hx hb dX1_weigh_36 (by decide) ?_
      refine lv_iload hx hb dX1_weigh_37 (lv_at hl 0 rfl) ?_
      obtain ⟨r13, μ12, h14, h⟩ := bd_ok h
      refine go_i (callV_run (As := [.int (0 : Int32), .int x11]) (rest := []) C hl hP (hS.wide hJ).2.1 (iw hw (fi_2 hk2)) hk2 (m_X2_has l w hJ hw v2 (0 : Int32) x11 hk2 μ6 h14) mv_X1_77 ⟨rfl, rfl, by decide, by decide⟩ rfl rfl (Nat.le_of_ble_eq_true rfl) ⟨Nat.zero_le _, Nat.zero_le _⟩ dX1_weigh_39) hS (fun H locs hP hS => ?_)
      refine lv_if_eq (tgt := 67) hx hb dX1_weigh_42 (by decide) (fun c15 => ?_) (fun c15 => ?_)
      · replace h := if_t c15 h
        obtain ⟨x16, ex16⟩ : ∃ y : Int32, y = (v5 + (1 : Int32)) := ⟨_, rfl⟩
        replace h := vl_ok ex16 h
        refine lv_iinc (v := x16) (lv' := [(5, .int x16), (6, .int x11), (0, .ref (w.2.2.1 v0)), (1, .int v1), (2, .ref (w.2.2.1 v2)), (3, .ref (w.2.2.1 v3)), (4, .ref (w.2.2.1 v4))]) hx hb dX1_weigh_67 hl (k := 6) rfl (by rw [ex16]; rfl) (by decide) rfl (fun ls hl => ?_)
        refine lv_goto (tgt := 16) hx hb dX1_weigh_70 (by decide) ?_
        obtain ⟨rfl, rfl⟩ := leaf h
        exact hP0_16 rfl _ _ _ hP hS (lv_sub hl [2, 3, 4, 5, 6, 0] rfl)
      · replace h := if_f c15 h
        refine lv_aload_n hx hb dX1_weigh_45 rfl (lv_at hl 1 rfl) ?_
        refine r_getF (off := 28) C hP (iw hw (fi_1 hk0)) hk0 fl_X1_39 rfl rfl (zw hw) dX1_weigh_46 ?_
        refine lv_iload_n hx hb dX1_weigh_49 rfl (lv_at hl 2 rfl) ?_
        obtain ⟨g17, h⟩ := gd_ok h
        refine r_aald C hP (iw hw (ff_1_8 hk0).2) (ff_1_8 hk0).1 g17 dX1_weigh_50 ?_
        refine lv_iload hx hb dX1_weigh_51 (lv_at hl 0 rfl) ?_
        refine lv_dup2_11 hx hb dX1_weigh_53 rfl rfl ?_
        obtain ⟨g18, h⟩ := gd_ok h
        refine r_iald C hP (iw hw (fr_row (ff_1_8 hk0).1 (ixlt g17)).2) (rowkd (fr_row (ff_1_8 hk0).1 (ixlt g17)).1 (f2_1_8 hk0)) g18 dX1_weigh_54 ?_
        refine lv_aload hx hb dX1_weigh_55 (lv_at hl 5 rfl) ?_
        refine lv_iload_n hx hb dX1_weigh_57 rfl (lv_at hl 2 rfl) ?_
        refine lv_iload hx hb dX1_weigh_58 (lv_at hl 6 rfl) ?_
        refine lv_iload hx hb dX1_weigh_60 (lv_at hl 0 rfl) ?_
        obtain ⟨r20, μ19, h21, h⟩ := bd_ok h
        refine go_i (callV_run (As := [.int v1, .int v5, .int x11]) (rest := [.int (μ12.1 ((v0 + 28) + 1 + (Int32.toNatClampNeg v1)) (Int32.toNatClampNeg x11)), .int x11, .ref (w.2.2.1 ((v0 + 28) + 1 + (Int32.toNatClampNeg v1)))]) C hl hP (hS.wide hJ).2.1 (iw hw (fi_0 hk4)) hk4 (m_X0_likes l w hJ hw v4 v1 v5 x11 hk4 μ12 h21) mv_X1_81 ⟨rfl, rfl, by decide, by decide⟩ rfl rfl (Nat.le_of_ble_eq_true rfl) ⟨Nat.zero_le _, Nat.zero_le _⟩ dX1_weigh_62) hS (fun H locs hP hS => ?_)
        refine lv_iadd hx hb dX1_weigh_65 ?_
        obtain ⟨g23, h⟩ := gd_ok h
        refine r_iast C hP hS (iw hw (fr_row (ff_1_8 hk0).1 (ixlt g17)).2) (rowkd (fr_row (ff_1_8 hk0).1 (ixlt g17)).1 (f2_1_8 hk0)) g23 dX1_weigh_66 (fun H locs hP hS => ?_)
        obtain ⟨μ22, eμ22, h⟩ := vl_ex h
        have hP : fP w μ22 H := by rw [eμ22]; exact hP
        obtain ⟨x24, ex24⟩ : ∃ y : Int32, y = (v5 + (1 : Int32)) := ⟨_, rfl⟩
        replace h := vl_ok ex24 h
        refine lv_iinc (v := x24) (lv' := [(5, .int x24), (6, .int x11), (0, .ref (w.2.2.1 v0)), (1, .int v1), (2, .ref (w.2.2.1 v2)), (3, .ref (w.2.2.1 v3)), (4, .ref (w.2.2.1 v4))]) hx hb dX1_weigh_67 hl (k := 6) rfl (by rw [ex24]; rfl) (by decide) rfl (fun ls hl => ?_)
        refine lv_goto (tgt := 16) hx hb dX1_weigh_70 (by decide) ?_
        obtain ⟨rfl, rfl⟩ := leaf h
        exact hP0_16 rfl _ _ _ hP hS (lv_sub hl [2, 3, 4, 5, 6, 0] rfl)
  · obtain ⟨x27, μ28⟩ := q26
    intro H locs ls hP hS hl
    have hP : fP w μ28 H := hP
    have hl : lv_has ls 7 [(0, .ref (w.2.2.1 v0)), (1, .int v1), (4, .ref (w.2.2.1 v4))] := hl
    try dsimp only at h
    refine lv_iconst (v := (0)) hx hb dX1_weigh_73 (by decide) ?_
    refine lv_istore (lv' := [(5, .int (0 : Int32)), (0, .ref (w.2.2.1 v0)), (1, .int v1), (4, .ref (w.2.2.1 v4))]) hx hb dX1_weigh_74 hl (by decide) rfl (fun ls hl => ?_)
    obtain ⟨t44, q45, h64, h⟩ := bd_ok h
    refine lpn_ind (b := (fun (q : Int32 × fMem) => f_X1_weigh_L76 v0 v1 v4 q.1 q.2)) (P := fun (q : Int32 × fMem) => WW p l e rm_X1_weigh s m args below meth c (MQ below (fQv w μr) args s 0 0 (fA w)) w q.2 7 76 [] [(0, .ref (w.2.2.1 v0)), (1, .int v1), (4, .ref (w.2.2.1 v4)), (5, .int q.1)]) (K := fun _ (q : Int32 × fMem) => WW p l e rm_X1_weigh s m args below meth c (MQ below (fQv w μr) args s 0 0 (fA w)) w q.2 7 134 [] [(0, .ref (w.2.2.1 v0)), (1, .int v1)]) ?_ fuel ((0 : Int32), μ28) t44 q45 h64 ?_ _ _ _ hP hS (lv_sub hl [1, 2, 3, 0] rfl)
    · intro q tz76 sz76 h hP0_76 hK0_76 H locs ls hP hS hl
      obtain ⟨v5, μ⟩ := q
      have hP : fP w μ H := hP
      have hl : lv_has ls 7 [(0, .ref (w.2.2.1 v0)), (1, .int v1), (4, .ref (w.2.2.1 v4)), (5, .int v5)] := hl
      have h : f_X1_weigh_L76 v0 v1 v4 v5 μ = some (tz76, sz76) := h
      unfold f_X1_weigh_L76 at h
      refine lv_iload hx hb dX1_weigh_76 (lv_at hl 3 rfl) ?_
      refine lv_aload_n hx hb dX1_weigh_78 rfl (lv_at hl 0 rfl) ?_
      refine r_getI C hP (iw hw (fi_1 hk0)) hk0 fl_X1_19 (Or.inl rfl) dX1_weigh_79 ?_
      refine lv_icmp_ge (tgt := 134) hx hb dX1_weigh_82 (by decide) (fun c29 => ?_) (fun c29 => ?_)
      · replace h := if_t c29 h
        obtain ⟨rfl, rfl⟩ := leaf h
        exact (hK0_76 0 rfl) _ _ _ hP hS (lv_sub hl [0, 1] rfl)
      · replace h := if_f c29 h
        refine lv_iconst (v := (0)) hx hb dX1_weigh_85 (by decide) ?_
        refine lv_istore (lv' := [(6, .int (0 : Int32)), (0, .ref (w.2.2.1 v0)), (1, .int v1), (4, .ref (w.2.2.1 v4)), (5, .int v5)]) hx hb dX1_weigh_86 hl (by decide) rfl (fun ls hl => ?_)
        obtain ⟨t38, q39, h43, h⟩ := bd_ok h
        refine lpn_ind (b := (fun (q : Int32 × fMem) => f_X1_weigh_L88 v0 v1 v4 v5 q.1 q.2)) (P := fun (q : Int32 × fMem) => WW p l e rm_X1_weigh s m args below meth c (MQ below (fQv w μr) args s 0 0 (fA w)) w q.2 7 88 [] [(0, .ref (w.2.2.1 v0)), (1, .int v1), (4, .ref (w.2.2.1 v4)), (5, .int v5), (6, .int q.1)]) (K := fun _ (q : Int32 × fMem) => WW p l e rm_X1_weigh s m args below meth c (MQ below (fQv w μr) args s 0 0 (fA w)) w q.2 7 128 [] [(0, .ref (w.2.2.1 v0)), (1, .int v1), (4, .ref (w.2.2.1 v4)), (5, .int v5)]) ?_ fuel ((0 : Int32), μ) t38 q39 h43 ?_ _ _ _ hP hS (lv_sub hl [1, 2, 3, 4, 0] rfl)
        · intro q tz88 sz88 h hP0_88 hK0_88 H locs ls hP hS hl
          obtain ⟨v6, μ⟩ := q
          have hP : fP w μ H := hP
          have hl : lv_has ls 7 [(0, .ref (w.2.2.1 v0)), (1, .int v1), (4, .ref (w.2.2.1 v4)), (5, .int v5), (6, .int v6)] := hl
          have h : f_X1_weigh_L88 v0 v1 v4 v5 v6 μ = some (tz88, sz88) := h
          unfold f_X1_weigh_L88 at h
          refine lv_iload hx hb dX1_weigh_88 (lv_at hl 4 rfl) ?_
          refine lv_aload_n hx hb dX1_weigh_90 rfl (lv_at hl 0 rfl) ?_
          refine r_getI C hP (iw hw (fi_1 hk0)) hk0 fl_X1_22 (Or.inl rfl) dX1_weigh_91 ?_
          refine lv_icmp_ge (tgt := 128) hx hb dX1_weigh_94 (by decide) (fun c30 => ?_) (fun c30 => ?_)
          · replace h := if_t c30 h
            obtain ⟨rfl, rfl⟩ := leaf h
            exact (hK0_88 0 rfl) _ _ _ hP hS (lv_sub hl [0, 1, 2, 3] rfl)
          · replace h := if_f c30 h
            refine lv_aload_n hx hb dX1_weigh_97 rfl (lv_at hl 0 rfl) ?_
            refine r_getF (off := 3) C hP (iw hw (fi_1 hk0)) hk0 fl_X1_36 rfl rfl (zw hw) dX1_weigh_98 ?_
            refine lv_iload hx hb dX1_weigh_101 (lv_at hl 3 rfl) ?_
            refine lv_bipush (v := (6)) hx hb dX1_weigh_103 (by decide) ?_
            refine lv_imul hx hb dX1_weigh_105 ?_
            refine lv_iload_n hx hb dX1_weigh_106 rfl (lv_at hl 1 rfl) ?_
            refine lv_iadd hx hb dX1_weigh_107 ?_
            obtain ⟨g31, h⟩ := gd_ok h
            refine r_aald C hP (iw hw (ff_1_7 hk0).2) (ff_1_7 hk0).1 g31 dX1_weigh_108 ?_
            refine lv_iload hx hb dX1_weigh_109 (lv_at hl 4 rfl) ?_
            refine lv_aload hx hb dX1_weigh_111 (lv_at hl 2 rfl) ?_
            refine lv_iload_n hx hb dX1_weigh_113 rfl (lv_at hl 1 rfl) ?_
            refine lv_iload hx hb dX1_weigh_114 (lv_at hl 3 rfl) ?_
            refine lv_iload hx hb dX1_weigh_116 (lv_at hl 4 rfl) ?_
            obtain ⟨r33, μ32, h34, h⟩ := bd_ok h
            refine go_i (callV_run (As := [.int v1, .int v5, .int v6]) (rest := [.int v6, .ref (w.2.2.1 ((v0 + 3) + 1 + (Int32.toNatClampNeg ((v5 * (6 : Int32)) + v1))))]) C hl hP (hS.wide hJ).2.1 (iw hw (fi_0 hk4)) hk4 (m_X0_likes l w hJ hw v4 v1 v5 v6 hk4 μ h34) mv_X1_81 ⟨rfl, rfl, by decide, by decide⟩ rfl rfl (Nat.le_of_ble_eq_true rfl) ⟨Nat.zero_le _, Nat.zero_le _⟩ dX1_weigh_118) hS (fun H locs hP hS => ?_)
            obtain ⟨g36, h⟩ := gd_ok h
            refine r_iast C hP hS (iw hw (fr_row (ff_1_7 hk0).1 (ixlt g31)).2) (rowkd (fr_row (ff_1_7 hk0).1 (ixlt g31)).1 (f2_1_7 hk0)) g36 dX1_weigh_121 (fun H locs hP hS => ?_)
            obtain ⟨μ35, eμ35, h⟩ := vl_ex h
            have hP : fP w μ35 H := by rw [eμ35]; exact hP
            obtain ⟨x37, ex37⟩ : ∃ y : Int32, y = (v6 + (1 : Int32)) := ⟨_, rfl⟩
            replace h := vl_ok ex37 h
            refine lv_iinc (v := x37) (lv' := [(6, .int x37), (0, .ref (w.2.2.1 v0)), (1, .int v1), (4, .ref (w.2.2.1 v4)), (5, .int v5)]) hx hb dX1_weigh_122 hl (k := 4) rfl (by rw [ex37]; rfl) (by decide) rfl (fun ls hl => ?_)
            refine lv_goto (tgt := 88) hx hb dX1_weigh_125 (by decide) ?_
            obtain ⟨rfl, rfl⟩ := leaf h
            exact hP0_88 rfl _ _ _ hP hS (lv_sub hl [1, 2, 3, 4, 0] rfl)
        · obtain ⟨x40, μ41⟩ := q39
          intro H locs ls hP hS hl
          have hP : fP w μ41 H := hP
          have hl : lv_has ls 7 [(0, .ref (w.2.2.1 v0)), (1, .int v1), (4, .ref (w.2.2.1 v4)), (5, .int v5)] := hl
          try dsimp only at h
          obtain ⟨x42, ex42⟩ : ∃ y : Int32, y = (v5 + (1 : Int32)) := ⟨_, rfl⟩
          replace h := vl_ok ex42 h
          refine lv_iinc (v := x42) (lv' := [(5, .int x42), (0, .ref (w.2.2.1 v0)), (1, .int v1), (4, .ref (w.2.2.1 v4))]) hx hb dX1_weigh_128 hl (k := 3) rfl (by rw [ex42]; rfl) (by decide) rfl (fun ls hl => ?_)
          refine lv_goto (tgt := 76) hx hb dX1_weigh_131 (by decide) ?_
          obtain ⟨rfl, rfl⟩ := leaf h
          exact hP0_76 rfl _ _ _ hP hS (lv_sub hl [1, 2, 3, 0] rfl)
    · obtain ⟨x46, μ47⟩ := q45
      intro H locs ls hP hS hl
      have hP : fP w μ47 H := hP
      have hl : lv_has ls 7 [(0, .ref (w.2.2.1 v0)), (1, .int v1)] := hl
      try dsimp only at h
      refine lv_aload_n hx hb dX1_weigh_134 rfl (lv_at hl 0 rfl) ?_
      refine r_getF (off := 35) C hP (iw hw (fi_1 hk0)) hk0 fl_X1_42 rfl rfl (zw hw) dX1_weigh_135 ?_
      refine lv_iconst (v := (0)) hx hb dX1_weigh_138 (by decide) ?_
      refine n_aald (j := 0) C hP (iw hw (ff_1_9 hk0).2) (ff_1_9 hk0).1 (by decide) (by decide) dX1_weigh_139 ?_
      refine lv_iload_n hx hb dX1_weigh_140 rfl (lv_at hl 1 rfl) ?_
      refine lv_iconst (v := (0)) hx hb dX1_weigh_141 (by decide) ?_
      obtain ⟨g49, h⟩ := gd_ok h
      refine r_iast C hP hS (iw hw (fr_row (ff_1_9 hk0).1 (by decide)).2) (rowkd (fr_row (ff_1_9 hk0).1 (by decide)).1 (f2_1_9 hk0)) g49 dX1_weigh_142 (fun H locs hP hS => ?_)
      obtain ⟨μ48, eμ48, h⟩ := vl_ex h
      have hP : fP w μ48 H := by rw [eμ48]; exact hP
      refine lv_iconst (v := (0)) hx hb dX1_weigh_143 (by decide) ?_
      refine lv_istore (lv' := [(5, .int (0 : Int32)), (0, .ref (w.2.2.1 v0)), (1, .int v1)]) hx hb dX1_weigh_144 hl (by decide) rfl (fun ls hl => ?_)
      obtain ⟨t59, q60, h63, h⟩ := bd_ok h
      refine lpn_ind (b := (fun (q : Int32 × fMem) => f_X1_weigh_L146 v0 v1 q.1 q.2)) (P := fun (q : Int32 × fMem) => WW p l e rm_X1_weigh s m args below meth c (MQ below (fQv w μr) args s 0 0 (fA w)) w q.2 7 146 [] [(0, .ref (w.2.2.1 v0)), (1, .int v1), (5, .int q.1)]) (K := fun _ (q : Int32 × fMem) => WW p l e rm_X1_weigh s m args below meth c (MQ below (fQv w μr) args s 0 0 (fA w)) w q.2 7 201 [] []) ?_ fuel ((0 : Int32), μ48) t59 q60 h63 ?_ _ _ _ hP hS (lv_sub hl [1, 2, 0] rfl)
      · intro q tz146 sz146 h hP0_146 hK0_146 H locs ls hP hS hl
        obtain ⟨v5, μ⟩ := q
        have hP : fP w μ H := hP
        have hl : lv_has ls 7 [(0, .ref (w.2.2.1 v0)), (1, .int v1), (5, .int v5)] := hl
        have h : f_X1_weigh_L146 v0 v1 v5 μ = some (tz146, sz146) := h
        unfold f_X1_weigh_L146 at h
        refine lv_iload hx hb dX1_weigh_146 (lv_at hl 2 rfl) ?_
        refine lv_aload_n hx hb dX1_weigh_148 rfl (lv_at hl 0 rfl) ?_
        refine r_getI C hP (iw hw (fi_1 hk0)) hk0 fl_X1_22 (Or.inl rfl) dX1_weigh_149 ?_
        refine lv_icmp_ge (tgt := 201) hx hb dX1_weigh_152 (by decide) (fun c50 => ?_) (fun c50 => ?_)
        · replace h := if_t c50 h
          obtain ⟨rfl, rfl⟩ := leaf h
          exact (hK0_146 0 rfl) _ _ _ hP hS (lv_sub hl [] rfl)
        · replace h := if_f c50 h
          refine lv_aload_n hx hb dX1_weigh_155 rfl (lv_at hl 0 rfl) ?_
          refine r_getI C hP (iw hw (fi_1 hk0)) hk0 fl_X1_28 (Or.inl rfl) dX1_weigh_156 ?_
          refine lv_iconst (v := (1)) hx hb dX1_weigh_159 (by decide) ?_
          refine lv_iload hx hb dX1_weigh_160 (lv_at hl 2 rfl) ?_
          refine r_ishl hx hb dX1_weigh_162 ?_
          refine lv_iand hx hb dX1_weigh_163 ?_
          refine lv_if_ne (tgt := 195) hx hb dX1_weigh_164 (by decide) (fun c51 => ?_) (fun c51 => ?_)
          · replace h := if_f c51 h
            obtain ⟨x52, ex52⟩ : ∃ y : Int32, y = (v5 + (1 : Int32)) := ⟨_, rfl⟩
            replace h := vl_ok ex52 h
            refine lv_iinc (v := x52) (lv' := [(5, .int x52), (0, .ref (w.2.2.1 v0)), (1, .int v1)]) hx hb dX1_weigh_195 hl (k := 2) rfl (by rw [ex52]; rfl) (by decide) rfl (fun ls hl => ?_)
            refine lv_goto (tgt := 146) hx hb dX1_weigh_198 (by decide) ?_
            obtain ⟨rfl, rfl⟩ := leaf h
            exact hP0_146 rfl _ _ _ hP hS (lv_sub hl [1, 2, 0] rfl)
          · replace h := if_t c51 h
            refine lv_aload_n hx hb dX1_weigh_167 rfl (lv_at hl 0 rfl) ?_
            refine r_getF (off := 35) C hP (iw hw (fi_1 hk0)) hk0 fl_X1_42 rfl rfl (zw hw) dX1_weigh_168 ?_
            refine lv_iconst (v := (0)) hx hb dX1_weigh_171 (by decide) ?_
            refine n_aald (j := 0) C hP (iw hw (ff_1_9 hk0).2) (ff_1_9 hk0).1 (by decide) (by decide) dX1_weigh_172 ?_
            refine lv_iload_n hx hb dX1_weigh_173 rfl (lv_at hl 1 rfl) ?_
            refine lv_aload_n hx hb dX1_weigh_174 rfl (lv_at hl 0 rfl) ?_
            refine r_getF (off := 35) C hP (iw hw (fi_1 hk0)) hk0 fl_X1_42 rfl rfl (zw hw) dX1_weigh_175 ?_
            refine lv_iconst (v := (0)) hx hb dX1_weigh_178 (by decide) ?_
            refine n_aald (j := 0) C hP (iw hw (ff_1_9 hk0).2) (ff_1_9 hk0).1 (by decide) (by decide) dX1_weigh_179 ?_
            refine lv_iload_n hx hb dX1_weigh_180 rfl (lv_at hl 1 rfl) ?_
            obtain ⟨g53, h⟩ := gd_ok h
            refine r_iald C hP (iw hw (fr_row (ff_1_9 hk0).1 (by decide)).2) (rowkd (fr_row (ff_1_9 hk0).1 (by decide)).1 (f2_1_9 hk0)) g53 dX1_weigh_181 ?_
            refine lv_aload_n hx hb dX1_weigh_182 rfl (lv_at hl 0 rfl) ?_
            refine r_getF (off := 28) C hP (iw hw (fi_1 hk0)) hk0 fl_X1_39 rfl rfl (zw hw) dX1_weigh_183 ?_
            refine lv_iload_n hx hb dX1_weigh_186 rfl (lv_at hl 1 rfl) ?_
            obtain ⟨g54, h⟩ := gd_ok h
            refine r_aald C hP (iw hw (ff_1_8 hk0).2) (ff_1_8 hk0).1 g54 dX1_weigh_187 ?_
            refine lv_iload hx hb dX1_weigh_188 (lv_at hl 2 rfl) ?_
            obtain ⟨g55, h⟩ := gd_ok h
            refine r_iald C hP (iw hw (fr_row (ff_1_8 hk0).1 (ixlt g54)).2) (rowkd (fr_row (ff_1_8 hk0).1 (ixlt g54)).1 (f2_1_8 hk0)) g55 dX1_weigh_190 ?_
            refine b_mmax (rest := [.int v1, .ref (w.2.2.1 ((v0 + 35) + 1 + 0))]) C hl mm_X1_87 (by decide) (Nat.le_of_ble_eq_true rfl) dX1_weigh_191 ?_
            obtain ⟨g57, h⟩ := gd_ok h
            refine r_iast C hP hS (iw hw (fr_row (ff_1_9 hk0).1 (by decide)).2) (rowkd (fr_row (ff_1_9 hk0).1 (by decide)).1 (f2_1_9 hk0)) g57 dX1_weigh_194 (fun H locs hP hS => ?_)
            obtain ⟨μ56, eμ56, h⟩ := vl_ex h
            have hP : fP w μ56 H := by rw [eμ56]; exact hP
            obtain ⟨x58, ex58⟩ : ∃ y : Int32, y = (v5 + (1 : Int32)) := ⟨_, rfl⟩
            replace h := vl_ok ex58 h
            refine lv_iinc (v := x58) (lv' := [(5, .int x58), (0, .ref (w.2.2.1 v0)), (1, .int v1)]) hx hb dX1_weigh_195 hl (k := 2) rfl (by rw [ex58]; rfl) (by decide) rfl (fun ls hl => ?_)
            refine lv_goto (tgt := 146) hx hb dX1_weigh_198 (by decide) ?_
            obtain ⟨rfl, rfl⟩ := leaf h
            exact hP0_146 rfl _ _ _ hP hS (lv_sub hl [1, 2, 0] rfl)
      · obtain ⟨x61, μ62⟩ := q60
        intro H locs ls hP hS hl
        have hP : fP w μ62 H := hP
        have hl : lv_has ls 7 [] := hl
        try dsimp only at h
        exact r_vret C hr hP hS h dX1_weigh_201

def f_X1_compare_L4 (v0 : Nat) (v1 : Int32) (v2 : Int32) (μ : fMem) : Option (Nat × (Int32 × Int32 × fMem)) :=
  if (μ.1 v0 4) ≤ v2 then some (1, (v1, v2, μ)) else gd (ixo (μ.1 v0 2) 5) (gd (ixo v2 6) (vl (v1 + (μ.1 ((v0 + 35) + 1 + (Int32.toNatClampNeg (μ.1 v0 2))) (Int32.toNatClampNeg v2))) fun x4 => vl (v2 + (1 : Int32)) fun x5 => some (0, (x4, x5, μ))))
def f_X1_compare (v0 : Nat) (μ : fMem) : Option (Unit × fMem) :=
  bd (lpn (fun (q : Int32 × Int32 × fMem) => f_X1_compare_L4 v0 q.1 q.2.1 q.2.2) fuel ((0 : Int32), (0 : Int32), μ)) fun t6 q7 => (fun (x8 : Int32) (x9 : Int32) (μ10 : fMem) => if x8 ≤ (μ10.1 v0 1) then some ((), μ10) else vl (sI μ10 v0 1 x8) fun μ12 => gd (cpo (0 : Int32) (0 : Int32) (4 : Int32) 4 4) (vl (cpy μ12 (v0 + 2) (0 : Int32) (v0 + 1) (0 : Int32) (4 : Int32)) fun μ13 => some ((), μ13))) q7.1 q7.2.1 q7.2.2
def rm_X1_compare : Room := { frames := 1, cells := 0, slots := 0, locals := 80 }
set_option maxHeartbeats 4000000 in
set_option maxRecDepth 100000 in
theorem m_X1_compare (l : Launch) (w : fW) (hJ : fJ w) (hw : w.2.2.2 = sd 0) (v0 : Nat) (hk0 : kd v0 = (4, 1)) (μ : fMem) {r : Unit} {μr : fMem} (h : f_X1_compare v0 μ = some (r, μr)) : Met l yX1_compare (.code yX1_compare cX1_compare 3 none :: gw) rm_X1_compare (fPc w [.ref (w.2.2.1 v0)] μ) (fQv w μr) 0 0 (fA w) := by
  refine met_of hJ (by decide) ?_ (Nat.le_of_ble_eq_true rfl)
  generalize ([.ref (w.2.2.1 v0)] : List Value).toArray = args
  intro p e s m below meth c ls C hr hP hl hS
  obtain ⟨hx, hb, hml, hown, hts, hK, -, hlk, hT⟩ := id C
  have hl : lv_has ls 3 [(0, .ref (w.2.2.1 v0))] := hl
  unfold f_X1_compare at h
  refine lv_iconst (v := (0)) hx hb dX1_compare_0 (by decide) ?_
  refine lv_istore_n (lv' := [(1, .int (0 : Int32)), (0, .ref (w.2.2.1 v0))]) hx hb dX1_compare_1 rfl hl (by decide) rfl (fun ls hl => ?_)
  refine lv_iconst (v := (0)) hx hb dX1_compare_2 (by decide) ?_
  refine lv_istore_n (lv' := [(2, .int (0 : Int32)), (1, .int (0 : Int32)), (0, .ref (w.2.2.1 v0))]) hx hb dX1_compare_3 rfl hl (by decide) rfl (fun ls hl => ?_)
  obtain ⟨t6, q7, h15, h⟩ := bd_ok h
  refine lpn_ind (b := (fun (q : Int32 × Int32 × fMem) => f_X1_compare_L4 v0 q.1 q.2.1 q.2.2)) (P := fun (q : Int32 × Int32 × fMem) => WW p l e rm_X1_compare s m args below meth c (MQ below (fQv w μr) args s 0 0 (fA w)) w q.2.2 3 4 [] [(0, .ref (w.2.2.1 v0)), (1, .int q.1), (2, .int q.2.1)]) (K := fun _ (q : Int32 × Int32 × fMem) => WW p l e rm_X1_compare s m args below meth c (MQ below (fQv w μr) args s 0 0 (fA w)) w q.2.2 3 32 [] [(0, .ref (w.2.2.1 v0)), (1, .int q.1)]) ?_ fuel ((0 : Int32), (0 : Int32), μ) t6 q7 h15 ?_ _ _ _ hP hS (lv_sub hl [2, 1, 0] rfl)
  · intro q tz4 sz4 h hP0_4 hK0_4 H locs ls hP hS hl
    obtain ⟨v1, v2, μ⟩ := q
    have hP : fP w μ H := hP
    have hl : lv_has ls 3 [(0, .ref (w.2.2.1 v0)), (1, .int v1), (2, .int v2)] := hl
    have h : f_X1_compare_L4 v0 v1 v2 μ = some (tz4, sz4) := h
    unfold f_X1_compare_L4 at h
    refine lv_iload_n hx hb dX1_compare_4 rfl (lv_at hl 2 rfl) ?_
    refine lv_aload_n hx hb dX1_compare_5 rfl (lv_at hl 0 rfl) ?_
    refine r_getI C hP (iw hw (fi_1 hk0)) hk0 fl_X1_25 (Or.inl rfl) dX1_compare_6 ?_
    refine lv_icmp_ge (tgt := 32) hx hb dX1_compare_9 (by decide) (fun c1 => ?_) (fun c1 => ?_)
    · replace h := if_t c1 h
      obtain ⟨rfl, rfl⟩ := leaf h
      exact (hK0_4 0 rfl) _ _ _ hP hS (lv_sub hl [0, 1] rfl)
    · replace h := if_f c1 h
      refine lv_iload_n hx hb dX1_compare_12 rfl (lv_at hl 1 rfl) ?_
      refine lv_aload_n hx hb dX1_compare_13 rfl (lv_at hl 0 rfl) ?_
      refine r_getF (off := 35) C hP (iw hw (fi_1 hk0)) hk0 fl_X1_42 rfl rfl (zw hw) dX1_compare_14 ?_
      refine lv_aload_n hx hb dX1_compare_17 rfl (lv_at hl 0 rfl) ?_
      refine r_getI C hP (iw hw (fi_1 hk0)) hk0 fl_X1_19 (Or.inl rfl) dX1_compare_18 ?_
      obtain ⟨g2, h⟩ := gd_ok h
      refine r_aald C hP (iw hw (ff_1_9 hk0).2) (ff_1_9 hk0).1 g2 dX1_compare_21 ?_
      refine lv_iload_n hx hb dX1_compare_22 rfl (lv_at hl 2 rfl) ?_
      obtain ⟨g3, h⟩ := gd_ok h
      refine r_iald C hP (iw hw (fr_row (ff_1_9 hk0).1 (ixlt g2)).2) (rowkd (fr_row (ff_1_9 hk0).1 (ixlt g2)).1 (f2_1_9 hk0)) g3 dX1_compare_23 ?_
      refine lv_iadd hx hb dX1_compare_24 ?_
      refine lv_topi (fun x4 ex4 => ?_)
      replace h := vl_ok ex4 h
      refine lv_istore_n (lv' := [(1, .int x4), (0, .ref (w.2.2.1 v0)), (2, .int v2)]) hx hb dX1_compare_25 rfl hl (by decide) rfl (fun ls hl => ?_)
      obtain ⟨x5, ex5⟩ : ∃ y : Int32, y = (v2 + (1 : Int32)) := ⟨_, rfl⟩
      replace h := vl_ok ex5 h
      refine lv_iinc (v := x5) (lv' := [(2, .int x5), (1, .int x4), (0, .ref (w.2.2.1 v0))]) hx hb dX1_compare_26 hl (k := 2) rfl (by rw [ex5]; rfl) (by decide) rfl (fun ls hl => ?_)
      refine lv_goto (tgt := 4) hx hb dX1_compare_29 (by decide) ?_
      obtain ⟨rfl, rfl⟩ := leaf h
      exact hP0_4 rfl _ _ _ hP hS (lv_sub hl [2, 1, 0] rfl)
  · obtain ⟨x8, x9, μ10⟩ := q7
    intro H locs ls hP hS hl
    have hP : fP w μ10 H := hP
    have hl : lv_has ls 3 [(0, .ref (w.2.2.1 v0)), (1, .int x8)] := hl
    try dsimp only at h
    refine lv_iload_n hx hb dX1_compare_32 rfl (lv_at hl 1 rfl) ?_
    refine lv_aload_n hx hb dX1_compare_33 rfl (lv_at hl 0 rfl) ?_
    refine r_getI C hP (iw hw (fi_1 hk0)) hk0 fl_X1_15 (Or.inl rfl) dX1_compare_34 ?_
    refine lv_icmp_le (tgt := 59) hx hb dX1_compare_37 (by decide) (fun c11 => ?_) (fun c11 => ?_)
    · replace h := if_t c11 h
      exact r_vret C hr hP hS h dX1_compare_59
    · replace h := if_f c11 h
      refine lv_aload_n hx hb dX1_compare_40 rfl (lv_at hl 0 rfl) ?_
      refine lv_iload_n hx hb dX1_compare_41 rfl (lv_at hl 1 rfl) ?_
      refine r_putI C hP hS (iw hw (fi_1 hk0)) hk0 fp_X1_15 rfl dX1_compare_42 (fun H locs hP hS => ?_)
      obtain ⟨μ12, eμ12, h⟩ := vl_ex h
      have hP : fP w μ12 H := by rw [eμ12]; exact hP
      refine lv_aload_n hx hb dX1_compare_45 rfl (lv_at hl 0 rfl) ?_
      refine r_getF (off := 2) C hP (iw hw (fi_1 hk0)) hk0 fl_X1_31 rfl rfl (zw hw) dX1_compare_46 ?_
      refine lv_iconst (v := (0)) hx hb dX1_compare_49 (by decide) ?_
      refine lv_aload_n hx hb dX1_compare_50 rfl (lv_at hl 0 rfl) ?_
      refine r_getF (off := 1) C hP (iw hw (fi_1 hk0)) hk0 fl_X1_11 rfl rfl (zw hw) dX1_compare_51 ?_
      refine lv_iconst (v := (0)) hx hb dX1_compare_54 (by decide) ?_
      refine lv_iconst (v := (4)) hx hb dX1_compare_55 (by decide) ?_
      obtain ⟨g14, h⟩ := gd_ok h
      refine r_copy C hl hP hS mc_X1_97 mc_all (iw hw (ff_1_6 hk0).2) (ff_1_6 hk0).1 (iw hw (ff_1_0 hk0).2) (ff_1_0 hk0).1 g14 (by decide) (Nat.le_of_ble_eq_true rfl) dX1_compare_56 (fun H locs hP hS => ?_)
      obtain ⟨μ13, eμ13, h⟩ := vl_ex h
      have hP : fP w μ13 H := by rw [eμ13]; exact hP
      exact r_vret C hr hP hS h dX1_compare_59

