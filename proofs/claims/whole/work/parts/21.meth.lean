def f_X11_goes_j85 (v0 : Nat) (v1 : Int32) (v2 : Int32) (t0 : Nat) (t1 : Int32) (t2 : Int64) (μ : fMem) : Option (Nat × (Int32 × fMem)) :=
  gd (ixo t1 64) (vl (sL μ t0 (Int32.toNatClampNeg t1) t2) fun μ19 => vl (sI μ19 v0 36 ((μ19.1 v0 36) + (1 : Int32))) fun μ21 => vl (v2 + (1 : Int32)) fun x22 => some (0, (x22, μ21)))
def f_X11_goes_L12 (v0 : Nat) (v1 : Int32) (v2 : Int32) (μ : fMem) : Option (Nat × (Int32 × fMem)) :=
  gd (ixo v1 6) (if (μ.1 (v0 + 17) (Int32.toNatClampNeg v1)) ≤ v2 then some (1, (v2, μ)) else gd (ixo v2 128) (if (μ.1 (v0 + 18) (Int32.toNatClampNeg v2)) = (2 : Int32) then gd (ixo v2 128) (bd (f_X11_works v0 (μ.1 (v0 + 19) (Int32.toNatClampNeg v2)) μ) fun r15 μ14 => if r15 = 0 then some (2, (v2, μ14)) else vl (v2 + (1 : Int32)) fun x18 => some (0, (x18, μ14))) else gd (ixo v2 128) (if (μ.1 (v0 + 18) (Int32.toNatClampNeg v2)) = 0 then gd (ixo v2 128) (f_X11_goes_j85 v0 v1 v2 (v0 + 21) (μ.1 v0 36) (((μ.1 (v0 + 19) (Int32.toNatClampNeg v2))).toInt64) μ) else gd (ixo v2 128) (gd (ixo (μ.1 (v0 + 19) (Int32.toNatClampNeg v2)) 7) (f_X11_goes_j85 v0 v1 v2 (v0 + 21) (μ.1 v0 36) (μ.2.1 (v0 + 20) (Int32.toNatClampNeg (μ.1 (v0 + 19) (Int32.toNatClampNeg v2)))) μ)))))
def f_X11_goes (v0 : Nat) (v1 : Int32) (μ : fMem) : Option (Int32 × fMem) :=
  vl (sI μ v0 36 (0 : Int32)) fun μ1 => gd (ixo v1 6) (vl (μ1.1 (v0 + 16) (Int32.toNatClampNeg v1)) fun x3 => bd (lpn (fun (q : Int32 × fMem) => f_X11_goes_L12 v0 v1 q.1 q.2) fuel (x3, μ1)) fun t23 q24 => (fun (x25 : Int32) (μ26 : fMem) => if t23 = 0 then gd (bl (1 : Int32)) (some ((1 : Int32), μ26)) else gd (bl (0 : Int32)) (some ((0 : Int32), μ26))) q24.1 q24.2)
def rm_X11_goes : Room := { frames := 2, cells := 0, slots := 0, locals := 107 }
set_option maxHeartbeats 4000000 in
set_option maxRecDepth 100000 in
theorem m_X11_goes (l : Launch) (w : fW) (hJ : fJ w) (hw : w.2.2.2 = sd 1) (v0 : Nat) (v1 : Int32) (hk0 : kd v0 = (4, 11)) (μ : fMem) {r : Int32} {μr : fMem} (h : f_X11_goes v0 v1 μ = some (r, μr)) : Met l yX11_goes (.code yX11_goes cX11_goes 3 (some .boolean) :: gw) rm_X11_goes (fPc w [.ref (w.2.2.1 v0), .int v1] μ) (fQi w r μr) 0 0 (fA w) := by
  refine met_of hJ (by decide) ?_ (Nat.le_of_ble_eq_true rfl)
  generalize ([.ref (w.2.2.1 v0), .int v1] : List Value).toArray = args
  intro p e s m below meth c ls C hr hP hl hS
  obtain ⟨hx, hb, hml, hown, hts, hK, -, hlk, hT⟩ := id C
  have hl : lv_has ls 3 [(0, .ref (w.2.2.1 v0)), (1, .int v1)] := hl
  unfold f_X11_goes at h
  refine lv_aload_n hx hb dX11_goes_0 rfl (lv_at hl 0 rfl) ?_
  refine lv_iconst (v := (0)) hx hb dX11_goes_1 (by decide) ?_
  refine r_putI C hP hS (iw hw (fi_11 hk0)) hk0 fp_X11_314 rfl dX11_goes_2 (fun H locs hP hS => ?_)
  obtain ⟨μ1, eμ1, h⟩ := vl_ex h
  have hP : fP w μ1 H := by rw [eμ1]; exact hP
  refine lv_aload_n hx hb dX11_goes_5 rfl (lv_at hl 0 rfl) ?_
  refine r_getF (off := 16) C hP (iw hw (fi_11 hk0)) hk0 fl_X11_55 rfl rfl (zw hw) dX11_goes_6 ?_
  refine lv_iload_n hx hb dX11_goes_9 rfl (lv_at hl 1 rfl) ?_
  obtain ⟨g2, h⟩ := gd_ok h
  refine r_iald C hP (iw hw (ff_11_17 hk0).2) (ff_11_17 hk0).1 g2 dX11_goes_10 ?_
  refine lv_topi (fun x3 ex3 => ?_)
  replace h := vl_ok ex3 h
  refine lv_istore_n (lv' := [(2, .int x3), (0, .ref (w.2.2.1 v0)), (1, .int v1)]) hx hb dX11_goes_11 rfl hl (by decide) rfl (fun ls hl => ?_)
  obtain ⟨t23, q24, h27, h⟩ := bd_ok h
  refine lpn_ind (b := (fun (q : Int32 × fMem) => f_X11_goes_L12 v0 v1 q.1 q.2)) (P := fun (q : Int32 × fMem) => WW p l e rm_X11_goes s m args below meth c (MQ below (fQi w r μr) args s 0 0 (fA w)) w q.2 3 12 [] [(0, .ref (w.2.2.1 v0)), (1, .int v1), (2, .int q.1)]) (K := fun t (q : Int32 × fMem) => (t = 0 → WW p l e rm_X11_goes s m args below meth c (MQ below (fQi w r μr) args s 0 0 (fA w)) w q.2 3 102 [] []) ∧ (t = 1 → WW p l e rm_X11_goes s m args below meth c (MQ below (fQi w r μr) args s 0 0 (fA w)) w q.2 3 45 [] [])) ?_ fuel (x3, μ1) t23 q24 h27 ?_ _ _ _ hP hS (lv_sub hl [1, 2, 0] rfl)
  · intro q tz12 sz12 h hP0_12 hK0_12 H locs ls hP hS hl
    obtain ⟨v2, μ⟩ := q
    have hP : fP w μ H := hP
    have hl : lv_has ls 3 [(0, .ref (w.2.2.1 v0)), (1, .int v1), (2, .int v2)] := hl
    have h : f_X11_goes_L12 v0 v1 v2 μ = some (tz12, sz12) := h
    unfold f_X11_goes_L12 at h
    have J85 : ∀ (v2 : Int32) (t0 : Nat) (t1 : Int32) (t2 : Int64) (μ : fMem) (_ : kd t0 = (2, 64)) (_ : inW w.2.2.2 t0), f_X11_goes_j85 v0 v1 v2 t0 t1 t2 μ = some (tz12, sz12) → WW p l e rm_X11_goes s m args below meth c (MQ below (fQi w r μr) args s 0 0 (fA w)) w μ 3 85 [.long t2, .int t1, .ref (w.2.2.1 t0)] [(0, .ref (w.2.2.1 v0)), (1, .int v1), (2, .int v2)] := by
      intro v2 t0 t1 t2 μ kt0 it0 h H locs ls hP hS hl
      unfold f_X11_goes_j85 at h
      obtain ⟨g20, h⟩ := gd_ok h
      refine r_last C hP hS it0 kt0 g20 dX11_goes_85 (fun H locs hP hS => ?_)
      obtain ⟨μ19, eμ19, h⟩ := vl_ex h
      have hP : fP w μ19 H := by rw [eμ19]; exact hP
      refine lv_aload_n hx hb dX11_goes_86 rfl (lv_at hl 0 rfl) ?_
      refine lv_dup hx hb dX11_goes_87 rfl ?_
      refine r_getI C hP (iw hw (fi_11 hk0)) hk0 fl_X11_314 (Or.inl rfl) dX11_goes_88 ?_
      refine lv_iconst (v := (1)) hx hb dX11_goes_91 (by decide) ?_
      refine lv_iadd hx hb dX11_goes_92 ?_
      refine r_putI C hP hS (iw hw (fi_11 hk0)) hk0 fp_X11_314 rfl dX11_goes_93 (fun H locs hP hS => ?_)
      obtain ⟨μ21, eμ21, h⟩ := vl_ex h
      have hP : fP w μ21 H := by rw [eμ21]; exact hP
      obtain ⟨x22, ex22⟩ : ∃ y : Int32, y = (v2 + (1 : Int32)) := ⟨_, rfl⟩
      replace h := vl_ok ex22 h
      refine lv_iinc (v := x22) (lv' := [(2, .int x22), (0, .ref (w.2.2.1 v0)), (1, .int v1)]) hx hb dX11_goes_96 hl (k := 2) rfl (by rw [ex22]; rfl) (by decide) rfl (fun ls hl => ?_)
      refine lv_goto (tgt := 12) hx hb dX11_goes_99 (by decide) ?_
      obtain ⟨rfl, rfl⟩ := leaf h
      exact hP0_12 rfl _ _ _ hP hS (lv_sub hl [1, 2, 0] rfl)
    refine lv_iload_n hx hb dX11_goes_12 rfl (lv_at hl 2 rfl) ?_
    refine lv_aload_n hx hb dX11_goes_13 rfl (lv_at hl 0 rfl) ?_
    refine r_getF (off := 17) C hP (iw hw (fi_11 hk0)) hk0 fl_X11_58 rfl rfl (zw hw) dX11_goes_14 ?_
    refine lv_iload_n hx hb dX11_goes_17 rfl (lv_at hl 1 rfl) ?_
    obtain ⟨g4, h⟩ := gd_ok h
    refine r_iald C hP (iw hw (ff_11_18 hk0).2) (ff_11_18 hk0).1 g4 dX11_goes_18 ?_
    refine lv_icmp_ge (tgt := 102) hx hb dX11_goes_19 (by decide) (fun c5 => ?_) (fun c5 => ?_)
    · replace h := if_t c5 h
      obtain ⟨rfl, rfl⟩ := leaf h
      exact ((hK0_12 0 rfl).1 rfl) _ _ _ hP hS (lv_sub hl [] rfl)
    · replace h := if_f c5 h
      refine lv_aload_n hx hb dX11_goes_22 rfl (lv_at hl 0 rfl) ?_
      refine r_getF (off := 18) C hP (iw hw (fi_11 hk0)) hk0 fl_X11_61 rfl rfl (zw hw) dX11_goes_23 ?_
      refine lv_iload_n hx hb dX11_goes_26 rfl (lv_at hl 2 rfl) ?_
      obtain ⟨g6, h⟩ := gd_ok h
      refine r_iald C hP (iw hw (ff_11_19 hk0).2) (ff_11_19 hk0).1 g6 dX11_goes_27 ?_
      refine lv_iconst (v := (2)) hx hb dX11_goes_28 (by decide) ?_
      refine lv_icmp_ne (tgt := 47) hx hb dX11_goes_29 (by decide) (fun c7 => ?_) (fun c7 => ?_)
      · replace h := if_f c7 h
        refine lv_aload_n hx hb dX11_goes_47 rfl (lv_at hl 0 rfl) ?_
        refine r_getF (off := 21) C hP (iw hw (fi_11 hk0)) hk0 fl_X11_75 rfl rfl (zw hw) dX11_goes_48 ?_
        refine lv_aload_n hx hb dX11_goes_51 rfl (lv_at hl 0 rfl) ?_
        refine r_getI C hP (iw hw (fi_11 hk0)) hk0 fl_X11_314 (Or.inl rfl) dX11_goes_52 ?_
        refine lv_aload_n hx hb dX11_goes_55 rfl (lv_at hl 0 rfl) ?_
        refine r_getF (off := 18) C hP (iw hw (fi_11 hk0)) hk0 fl_X11_61 rfl rfl (zw hw) dX11_goes_56 ?_
        refine lv_iload_n hx hb dX11_goes_59 rfl (lv_at hl 2 rfl) ?_
        obtain ⟨g8, h⟩ := gd_ok h
        refine r_iald C hP (iw hw (ff_11_19 hk0).2) (ff_11_19 hk0).1 g8 dX11_goes_60 ?_
        refine lv_if_ne (tgt := 74) hx hb dX11_goes_61 (by decide) (fun c9 => ?_) (fun c9 => ?_)
        · replace h := if_f c9 h
          refine lv_aload_n hx hb dX11_goes_74 rfl (lv_at hl 0 rfl) ?_
          refine r_getF (off := 20) C hP (iw hw (fi_11 hk0)) hk0 fl_X11_71 rfl rfl (zw hw) dX11_goes_75 ?_
          refine lv_aload_n hx hb dX11_goes_78 rfl (lv_at hl 0 rfl) ?_
          refine r_getF (off := 19) C hP (iw hw (fi_11 hk0)) hk0 fl_X11_64 rfl rfl (zw hw) dX11_goes_79 ?_
          refine lv_iload_n hx hb dX11_goes_82 rfl (lv_at hl 2 rfl) ?_
          obtain ⟨g10, h⟩ := gd_ok h
          refine r_iald C hP (iw hw (ff_11_20 hk0).2) (ff_11_20 hk0).1 g10 dX11_goes_83 ?_
          obtain ⟨g11, h⟩ := gd_ok h
          refine r_lald C hP (iw hw (ff_11_34 hk0).2) (ff_11_34 hk0).1 g11 dX11_goes_84 ?_
          exact J85 v2 (v0 + 21) (μ.1 v0 36) (μ.2.1 (v0 + 20) (Int32.toNatClampNeg (μ.1 (v0 + 19) (Int32.toNatClampNeg v2)))) μ (ff_11_35 hk0).1 (iw hw (ff_11_35 hk0).2) h _ _ _ hP hS (lv_sub hl [0, 1, 2] rfl)
        · replace h := if_t c9 h
          refine lv_aload_n hx hb dX11_goes_64 rfl (lv_at hl 0 rfl) ?_
          refine r_getF (off := 19) C hP (iw hw (fi_11 hk0)) hk0 fl_X11_64 rfl rfl (zw hw) dX11_goes_65 ?_
          refine lv_iload_n hx hb dX11_goes_68 rfl (lv_at hl 2 rfl) ?_
          obtain ⟨g12, h⟩ := gd_ok h
          refine r_iald C hP (iw hw (ff_11_20 hk0).2) (ff_11_20 hk0).1 g12 dX11_goes_69 ?_
          refine lv_i2l hx hb dX11_goes_70 rfl ?_
          refine lv_goto (tgt := 85) hx hb dX11_goes_71 (by decide) ?_
          exact J85 v2 (v0 + 21) (μ.1 v0 36) (((μ.1 (v0 + 19) (Int32.toNatClampNeg v2))).toInt64) μ (ff_11_35 hk0).1 (iw hw (ff_11_35 hk0).2) h _ _ _ hP hS (lv_sub hl [0, 1, 2] rfl)
      · replace h := if_t c7 h
        refine lv_aload_n hx hb dX11_goes_32 rfl (lv_at hl 0 rfl) ?_
        refine lv_aload_n hx hb dX11_goes_33 rfl (lv_at hl 0 rfl) ?_
        refine r_getF (off := 19) C hP (iw hw (fi_11 hk0)) hk0 fl_X11_64 rfl rfl (zw hw) dX11_goes_34 ?_
        refine lv_iload_n hx hb dX11_goes_37 rfl (lv_at hl 2 rfl) ?_
        obtain ⟨g13, h⟩ := gd_ok h
        refine r_iald C hP (iw hw (ff_11_20 hk0).2) (ff_11_20 hk0).1 g13 dX11_goes_38 ?_
        obtain ⟨r15, μ14, h16, h⟩ := bd_ok h
        refine go_i (callV_run (As := [.int (μ.1 (v0 + 19) (Int32.toNatClampNeg v2))]) (rest := []) C hl hP (hS.wide hJ).2.1 (iw hw (fi_11 hk0)) hk0 (m_X11_works l w hJ hw v0 (μ.1 (v0 + 19) (Int32.toNatClampNeg v2)) hk0 μ h16) mv_X11_331 ⟨rfl, rfl, by decide, by decide⟩ rfl rfl (Nat.le_of_ble_eq_true rfl) ⟨Nat.zero_le _, Nat.zero_le _⟩ dX11_goes_39) hS (fun H locs hP hS => ?_)
        refine lv_if_ne (tgt := 96) hx hb dX11_goes_42 (by decide) (fun c17 => ?_) (fun c17 => ?_)
        · replace h := if_f c17 h
          obtain ⟨x18, ex18⟩ : ∃ y : Int32, y = (v2 + (1 : Int32)) := ⟨_, rfl⟩
          replace h := vl_ok ex18 h
          refine lv_iinc (v := x18) (lv' := [(2, .int x18), (0, .ref (w.2.2.1 v0)), (1, .int v1)]) hx hb dX11_goes_96 hl (k := 2) rfl (by rw [ex18]; rfl) (by decide) rfl (fun ls hl => ?_)
          refine lv_goto (tgt := 12) hx hb dX11_goes_99 (by decide) ?_
          obtain ⟨rfl, rfl⟩ := leaf h
          exact hP0_12 rfl _ _ _ hP hS (lv_sub hl [1, 2, 0] rfl)
        · replace h := if_t c17 h
          obtain ⟨rfl, rfl⟩ := leaf h
          exact ((hK0_12 1 rfl).2 rfl) _ _ _ hP hS (lv_sub hl [] rfl)
  · obtain ⟨x25, μ26⟩ := q24
    try dsimp only at h
    refine ⟨fun ht => ?_, fun ht => ?_⟩
    · intro H locs ls hP hS hl
      have hP : fP w μ26 H := hP
      have hl : lv_has ls 3 [] := hl
      replace h := if_t ht h
      refine lv_iconst (v := (1)) hx hb dX11_goes_102 (by decide) ?_
      exact r_zret C hr hP hS h dX11_goes_103
    · intro H locs ls hP hS hl
      have hP : fP w μ26 H := hP
      have hl : lv_has ls 3 [] := hl
      replace h := if_f (by rw [ht]; decide) h
      refine lv_iconst (v := (0)) hx hb dX11_goes_45 (by decide) ?_
      exact r_zret C hr hP hS h dX11_goes_46

def f_X11_hasLaw (v0 : Nat) (v1 : Int32) (μ : fMem) : Option (Int32 × fMem) :=
  gd (ixo v1 6) (gd (ixo v1 6) (if (μ.1 (v0 + 17) (Int32.toNatClampNeg v1)) ≤ (μ.1 (v0 + 16) (Int32.toNatClampNeg v1)) then gd (bl (0 : Int32)) (some ((0 : Int32), μ)) else gd (bl (1 : Int32)) (some ((1 : Int32), μ))))
def rm_X11_hasLaw : Room := { frames := 0, cells := 0, slots := 0, locals := 0 }
set_option maxHeartbeats 4000000 in
set_option maxRecDepth 100000 in
theorem m_X11_hasLaw (l : Launch) (w : fW) (hJ : fJ w) (hw : w.2.2.2 = sd 1) (v0 : Nat) (v1 : Int32) (hk0 : kd v0 = (4, 11)) (μ : fMem) {r : Int32} {μr : fMem} (h : f_X11_hasLaw v0 v1 μ = some (r, μr)) : Met l yX11_hasLaw (.code yX11_hasLaw cX11_hasLaw 2 (some .boolean) :: gw) rm_X11_hasLaw (fPc w [.ref (w.2.2.1 v0), .int v1] μ) (fQi w r μr) 0 0 (fA w) := by
  refine met_of hJ (by decide) ?_ (Nat.le_of_ble_eq_true rfl)
  generalize ([.ref (w.2.2.1 v0), .int v1] : List Value).toArray = args
  intro p e s m below meth c ls C hr hP hl hS
  obtain ⟨hx, hb, hml, hown, hts, hK, -, hlk, hT⟩ := id C
  have hl : lv_has ls 2 [(0, .ref (w.2.2.1 v0)), (1, .int v1)] := hl
  unfold f_X11_hasLaw at h
  refine lv_aload_n hx hb dX11_hasLaw_0 rfl (lv_at hl 0 rfl) ?_
  refine r_getF (off := 17) C hP (iw hw (fi_11 hk0)) hk0 fl_X11_58 rfl rfl (zw hw) dX11_hasLaw_1 ?_
  refine lv_iload_n hx hb dX11_hasLaw_4 rfl (lv_at hl 1 rfl) ?_
  obtain ⟨g1, h⟩ := gd_ok h
  refine r_iald C hP (iw hw (ff_11_18 hk0).2) (ff_11_18 hk0).1 g1 dX11_hasLaw_5 ?_
  refine lv_aload_n hx hb dX11_hasLaw_6 rfl (lv_at hl 0 rfl) ?_
  refine r_getF (off := 16) C hP (iw hw (fi_11 hk0)) hk0 fl_X11_55 rfl rfl (zw hw) dX11_hasLaw_7 ?_
  refine lv_iload_n hx hb dX11_hasLaw_10 rfl (lv_at hl 1 rfl) ?_
  obtain ⟨g2, h⟩ := gd_ok h
  refine r_iald C hP (iw hw (ff_11_17 hk0).2) (ff_11_17 hk0).1 g2 dX11_hasLaw_11 ?_
  refine lv_icmp_le (tgt := 19) hx hb dX11_hasLaw_12 (by decide) (fun c3 => ?_) (fun c3 => ?_)
  · replace h := if_t c3 h
    refine lv_iconst (v := (0)) hx hb dX11_hasLaw_19 (by decide) ?_
    exact r_zret C hr hP hS h dX11_hasLaw_20
  · replace h := if_f c3 h
    refine lv_iconst (v := (1)) hx hb dX11_hasLaw_15 (by decide) ?_
    refine lv_goto (tgt := 20) hx hb dX11_hasLaw_16 (by decide) ?_
    exact r_zret C hr hP hS h dX11_hasLaw_20

def f_X11_copies_L38 (v0 : Nat) (v1 : Int32) (v2 : Int32) (v3 : Int32) (μ : fMem) : Option (Nat × (Int32 × fMem)) :=
  if (8 : Int32) ≤ v3 then some (1, (v3, μ)) else gd (ixo (((8 : Int32) * v2) + v3) 184) (gd (ixo (((8 : Int32) * v1) + v3) 184) (vl (sI μ (v0 + 25) (Int32.toNatClampNeg (((8 : Int32) * v1) + v3)) (μ.1 (v0 + 25) (Int32.toNatClampNeg (((8 : Int32) * v2) + v3)))) fun μ12 => gd (ixo (((8 : Int32) * v2) + v3) 184) (gd (ixo (((8 : Int32) * v1) + v3) 184) (vl (sI μ12 (v0 + 26) (Int32.toNatClampNeg (((8 : Int32) * v1) + v3)) (μ12.1 (v0 + 26) (Int32.toNatClampNeg (((8 : Int32) * v2) + v3)))) fun μ15 => gd (ixo (((8 : Int32) * v2) + v3) 184) (gd (ixo (((8 : Int32) * v1) + v3) 184) (vl (sI μ15 (v0 + 27) (Int32.toNatClampNeg (((8 : Int32) * v1) + v3)) (μ15.1 (v0 + 27) (Int32.toNatClampNeg (((8 : Int32) * v2) + v3)))) fun μ18 => vl (v3 + (1 : Int32)) fun x20 => some (0, (x20, μ18))))))))
def f_X11_copies_L118 (v0 : Nat) (v1 : Int32) (v2 : Int32) (v3 : Int32) (μ : fMem) : Option (Nat × (Int32 × fMem)) :=
  if (6 : Int32) ≤ v3 then some (1, (v3, μ)) else gd (ixo (((6 : Int32) * v2) + v3) 138) (gd (ixo (((6 : Int32) * v1) + v3) 138) (vl (sI μ (v0 + 28) (Int32.toNatClampNeg (((6 : Int32) * v1) + v3)) (μ.1 (v0 + 28) (Int32.toNatClampNeg (((6 : Int32) * v2) + v3)))) fun μ27 => gd (ixo (((6 : Int32) * v2) + v3) 138) (gd (ixo (((6 : Int32) * v1) + v3) 138) (vl (sI μ27 (v0 + 29) (Int32.toNatClampNeg (((6 : Int32) * v1) + v3)) (μ27.1 (v0 + 29) (Int32.toNatClampNeg (((6 : Int32) * v2) + v3)))) fun μ30 => vl (v3 + (1 : Int32)) fun x32 => some (0, (x32, μ30))))))
def f_X11_copies (v0 : Nat) (v1 : Int32) (v2 : Int32) (μ : fMem) : Option (Unit × fMem) :=
  gd (ixo v2 23) (gd (ixo v1 23) (vl (sI μ (v0 + 22) (Int32.toNatClampNeg v1) (μ.1 (v0 + 22) (Int32.toNatClampNeg v2))) fun μ2 => gd (ixo v2 23) (gd (ixo v1 23) (vl (sI μ2 (v0 + 23) (Int32.toNatClampNeg v1) (μ2.1 (v0 + 23) (Int32.toNatClampNeg v2))) fun μ5 => gd (ixo v2 23) (gd (ixo v1 23) (vl (sI μ5 (v0 + 24) (Int32.toNatClampNeg v1) (μ5.1 (v0 + 24) (Int32.toNatClampNeg v2))) fun μ8 => bd (lpn (fun (q : Int32 × fMem) => f_X11_copies_L38 v0 v1 v2 q.1 q.2) fuel ((0 : Int32), μ8)) fun t21 q22 => (fun (x23 : Int32) (μ24 : fMem) => bd (lpn (fun (q : Int32 × fMem) => f_X11_copies_L118 v0 v1 v2 q.1 q.2) fuel ((0 : Int32), μ24)) fun t33 q34 => (fun (x35 : Int32) (μ36 : fMem) => some ((), μ36)) q34.1 q34.2) q22.1 q22.2))))))
def rm_X11_copies : Room := { frames := 0, cells := 0, slots := 0, locals := 0 }
set_option maxHeartbeats 4000000 in
set_option maxRecDepth 100000 in
theorem m_X11_copies (l : Launch) (w : fW) (hJ : fJ w) (hw : w.2.2.2 = sd 1) (v0 : Nat) (v1 : Int32) (v2 : Int32) (hk0 : kd v0 = (4, 11)) (μ : fMem) {r : Unit} {μr : fMem} (h : f_X11_copies v0 v1 v2 μ = some (r, μr)) : Met l yX11_copies (.code yX11_copies cX11_copies 4 none :: gw) rm_X11_copies (fPc w [.ref (w.2.2.1 v0), .int v1, .int v2] μ) (fQv w μr) 0 0 (fA w) := by
  refine met_of hJ (by decide) ?_ (Nat.le_of_ble_eq_true rfl)
  generalize ([.ref (w.2.2.1 v0), .int v1, .int v2] : List Value).toArray = args
  intro p e s m below meth c ls C hr hP hl hS
  obtain ⟨hx, hb, hml, hown, hts, hK, -, hlk, hT⟩ := id C
  have hl : lv_has ls 4 [(0, .ref (w.2.2.1 v0)), (1, .int v1), (2, .int v2)] := hl
  unfold f_X11_copies at h
  refine lv_aload_n hx hb dX11_copies_0 rfl (lv_at hl 0 rfl) ?_
  refine r_getF (off := 22) C hP (iw hw (fi_11 hk0)) hk0 fl_X11_78 rfl rfl (zw hw) dX11_copies_1 ?_
  refine lv_iload_n hx hb dX11_copies_4 rfl (lv_at hl 1 rfl) ?_
  refine lv_aload_n hx hb dX11_copies_5 rfl (lv_at hl 0 rfl) ?_
  refine r_getF (off := 22) C hP (iw hw (fi_11 hk0)) hk0 fl_X11_78 rfl rfl (zw hw) dX11_copies_6 ?_
  refine lv_iload_n hx hb dX11_copies_9 rfl (lv_at hl 2 rfl) ?_
  obtain ⟨g1, h⟩ := gd_ok h
  refine r_iald C hP (iw hw (ff_11_37 hk0).2) (ff_11_37 hk0).1 g1 dX11_copies_10 ?_
  obtain ⟨g3, h⟩ := gd_ok h
  refine r_iast C hP hS (iw hw (ff_11_37 hk0).2) (ff_11_37 hk0).1 g3 dX11_copies_11 (fun H locs hP hS => ?_)
  obtain ⟨μ2, eμ2, h⟩ := vl_ex h
  have hP : fP w μ2 H := by rw [eμ2]; exact hP
  refine lv_aload_n hx hb dX11_copies_12 rfl (lv_at hl 0 rfl) ?_
  refine r_getF (off := 23) C hP (iw hw (fi_11 hk0)) hk0 fl_X11_81 rfl rfl (zw hw) dX11_copies_13 ?_
  refine lv_iload_n hx hb dX11_copies_16 rfl (lv_at hl 1 rfl) ?_
  refine lv_aload_n hx hb dX11_copies_17 rfl (lv_at hl 0 rfl) ?_
  refine r_getF (off := 23) C hP (iw hw (fi_11 hk0)) hk0 fl_X11_81 rfl rfl (zw hw) dX11_copies_18 ?_
  refine lv_iload_n hx hb dX11_copies_21 rfl (lv_at hl 2 rfl) ?_
  obtain ⟨g4, h⟩ := gd_ok h
  refine r_iald C hP (iw hw (ff_11_38 hk0).2) (ff_11_38 hk0).1 g4 dX11_copies_22 ?_
  obtain ⟨g6, h⟩ := gd_ok h
  refine r_iast C hP hS (iw hw (ff_11_38 hk0).2) (ff_11_38 hk0).1 g6 dX11_copies_23 (fun H locs hP hS => ?_)
  obtain ⟨μ5, eμ5, h⟩ := vl_ex h
  have hP : fP w μ5 H := by rw [eμ5]; exact hP
  refine lv_aload_n hx hb dX11_copies_24 rfl (lv_at hl 0 rfl) ?_
  refine r_getF (off := 24) C hP (iw hw (fi_11 hk0)) hk0 fl_X11_84 rfl rfl (zw hw) dX11_copies_25 ?_
  refine lv_iload_n hx hb dX11_copies_28 rfl (lv_at hl 1 rfl) ?_
  refine lv_aload_n hx hb dX11_copies_29 rfl (lv_at hl 0 rfl) ?_
  refine r_getF (off := 24) C hP (iw hw (fi_11 hk0)) hk0 fl_X11_84 rfl rfl (zw hw) dX11_copies_30 ?_
  refine lv_iload_n hx hb dX11_copies_33 rfl (lv_at hl 2 rfl) ?_
  obtain ⟨g7, h⟩ := gd_ok h
  refine r_iald C hP (iw hw (ff_11_39 hk0).2) (ff_11_39 hk0).1 g7 dX11_copies_34 ?_
  obtain ⟨g9, h⟩ := gd_ok h
  refine r_iast C hP hS (iw hw (ff_11_39 hk0).2) (ff_11_39 hk0).1 g9 dX11_copies_35 (fun H locs hP hS => ?_)
  obtain ⟨μ8, eμ8, h⟩ := vl_ex h
  have hP : fP w μ8 H := by rw [eμ8]; exact hP
  refine lv_iconst (v := (0)) hx hb dX11_copies_36 (by decide) ?_
  refine lv_istore_n (lv' := [(3, .int (0 : Int32)), (0, .ref (w.2.2.1 v0)), (1, .int v1), (2, .int v2)]) hx hb dX11_copies_37 rfl hl (by decide) rfl (fun ls hl => ?_)
  obtain ⟨t21, q22, h38, h⟩ := bd_ok h
  refine lpn_ind (b := (fun (q : Int32 × fMem) => f_X11_copies_L38 v0 v1 v2 q.1 q.2)) (P := fun (q : Int32 × fMem) => WW p l e rm_X11_copies s m args below meth c (MQ below (fQv w μr) args s 0 0 (fA w)) w q.2 4 38 [] [(0, .ref (w.2.2.1 v0)), (1, .int v1), (2, .int v2), (3, .int q.1)]) (K := fun _ (q : Int32 × fMem) => WW p l e rm_X11_copies s m args below meth c (MQ below (fQv w μr) args s 0 0 (fA w)) w q.2 4 116 [] [(0, .ref (w.2.2.1 v0)), (1, .int v1), (2, .int v2)]) ?_ fuel ((0 : Int32), μ8) t21 q22 h38 ?_ _ _ _ hP hS (lv_sub hl [1, 2, 3, 0] rfl)
  · intro q tz38 sz38 h hP0_38 hK0_38 H locs ls hP hS hl
    obtain ⟨v3, μ⟩ := q
    have hP : fP w μ H := hP
    have hl : lv_has ls 4 [(0, .ref (w.2.2.1 v0)), (1, .int v1), (2, .int v2), (3, .int v3)] := hl
    have h : f_X11_copies_L38 v0 v1 v2 v3 μ = some (tz38, sz38) := h
    unfold f_X11_copies_L38 at h
    refine lv_iload_n hx hb dX11_copies_38 rfl (lv_at hl 3 rfl) ?_
    refine lv_bipush (v := (8)) hx hb dX11_copies_39 (by decide) ?_
    refine lv_icmp_ge (tgt := 116) hx hb dX11_copies_41 (by decide) (fun c10 => ?_) (fun c10 => ?_)
    · replace h := if_t c10 h
      obtain ⟨rfl, rfl⟩ := leaf h
      exact (hK0_38 0 rfl) _ _ _ hP hS (lv_sub hl [0, 1, 2] rfl)
    · replace h := if_f c10 h
      refine lv_aload_n hx hb dX11_copies_44 rfl (lv_at hl 0 rfl) ?_
      refine r_getF (off := 25) C hP (iw hw (fi_11 hk0)) hk0 fl_X11_87 rfl rfl (zw hw) dX11_copies_45 ?_
      refine lv_bipush (v := (8)) hx hb dX11_copies_48 (by decide) ?_
      refine lv_iload_n hx hb dX11_copies_50 rfl (lv_at hl 1 rfl) ?_
      refine lv_imul hx hb dX11_copies_51 ?_
      refine lv_iload_n hx hb dX11_copies_52 rfl (lv_at hl 3 rfl) ?_
      refine lv_iadd hx hb dX11_copies_53 ?_
      refine lv_aload_n hx hb dX11_copies_54 rfl (lv_at hl 0 rfl) ?_
      refine r_getF (off := 25) C hP (iw hw (fi_11 hk0)) hk0 fl_X11_87 rfl rfl (zw hw) dX11_copies_55 ?_
      refine lv_bipush (v := (8)) hx hb dX11_copies_58 (by decide) ?_
      refine lv_iload_n hx hb dX11_copies_60 rfl (lv_at hl 2 rfl) ?_
      refine lv_imul hx hb dX11_copies_61 ?_
      refine lv_iload_n hx hb dX11_copies_62 rfl (lv_at hl 3 rfl) ?_
      refine lv_iadd hx hb dX11_copies_63 ?_
      obtain ⟨g11, h⟩ := gd_ok h
      refine r_iald C hP (iw hw (ff_11_40 hk0).2) (ff_11_40 hk0).1 g11 dX11_copies_64 ?_
      obtain ⟨g13, h⟩ := gd_ok h
      refine r_iast C hP hS (iw hw (ff_11_40 hk0).2) (ff_11_40 hk0).1 g13 dX11_copies_65 (fun H locs hP hS => ?_)
      obtain ⟨μ12, eμ12, h⟩ := vl_ex h
      have hP : fP w μ12 H := by rw [eμ12]; exact hP
      refine lv_aload_n hx hb dX11_copies_66 rfl (lv_at hl 0 rfl) ?_
      refine r_getF (off := 26) C hP (iw hw (fi_11 hk0)) hk0 fl_X11_90 rfl rfl (zw hw) dX11_copies_67 ?_
      refine lv_bipush (v := (8)) hx hb dX11_copies_70 (by decide) ?_
      refine lv_iload_n hx hb dX11_copies_72 rfl (lv_at hl 1 rfl) ?_
      refine lv_imul hx hb dX11_copies_73 ?_
      refine lv_iload_n hx hb dX11_copies_74 rfl (lv_at hl 3 rfl) ?_
      refine lv_iadd hx hb dX11_copies_75 ?_
      refine lv_aload_n hx hb dX11_copies_76 rfl (lv_at hl 0 rfl) ?_
      refine r_getF (off := 26) C hP (iw hw (fi_11 hk0)) hk0 fl_X11_90 rfl rfl (zw hw) dX11_copies_77 ?_
      refine lv_bipush (v := (8)) hx hb dX11_copies_80 (by decide) ?_
      refine lv_iload_n hx hb dX11_copies_82 rfl (lv_at hl 2 rfl) ?_
      refine lv_imul hx hb dX11_copies_83 ?_
      refine lv_iload_n hx hb dX11_copies_84 rfl (lv_at hl 3 rfl) ?_
      refine lv_iadd hx hb dX11_copies_85 ?_
      obtain ⟨g14, h⟩ := gd_ok h
      refine r_iald C hP (iw hw (ff_11_41 hk0).2) (ff_11_41 hk0).1 g14 dX11_copies_86 ?_
      obtain ⟨g16, h⟩ := gd_ok h
      refine r_iast C hP hS (iw hw (ff_11_41 hk0).2) (ff_11_41 hk0).1 g16 dX11_copies_87 (fun H locs hP hS => ?_)
      obtain ⟨μ15, eμ15, h⟩ := vl_ex h
      have hP : fP w μ15 H := by rw [eμ15]; exact hP
      refine lv_aload_n hx hb dX11_copies_88 rfl (lv_at hl 0 rfl) ?_
      refine r_getF (off := 27) C hP (iw hw (fi_11 hk0)) hk0 fl_X11_93 rfl rfl (zw hw) dX11_copies_89 ?_
      refine lv_bipush (v := (8)) hx hb dX11_copies_92 (by decide) ?_
      refine lv_iload_n hx hb dX11_copies_94 rfl (lv_at hl 1 rfl) ?_
      refine lv_imul hx hb dX11_copies_95 ?_
      refine lv_iload_n hx hb dX11_copies_96 rfl (lv_at hl 3 rfl) ?_
      refine lv_iadd hx hb dX11_copies_97 ?_
      refine lv_aload_n hx hb dX11_copies_98 rfl (lv_at hl 0 rfl) ?_
      refine r_getF (off := 27) C hP (iw hw (fi_11 hk0)) hk0 fl_X11_93 rfl rfl (zw hw) dX11_copies_99 ?_
      refine lv_bipush (v := (8)) hx hb dX11_copies_102 (by decide) ?_
      refine lv_iload_n hx hb dX11_copies_104 rfl (lv_at hl 2 rfl) ?_
      refine lv_imul hx hb dX11_copies_105 ?_
      refine lv_iload_n hx hb dX11_copies_106 rfl (lv_at hl 3 rfl) ?_
      refine lv_iadd hx hb dX11_copies_107 ?_
      obtain ⟨g17, h⟩ := gd_ok h
      refine r_iald C hP (iw hw (ff_11_42 hk0).2) (ff_11_42 hk0).1 g17 dX11_copies_108 ?_
      obtain ⟨g19, h⟩ := gd_ok h
      refine r_iast C hP hS (iw hw (ff_11_42 hk0).2) (ff_11_42 hk0).1 g19 dX11_copies_109 (fun H locs hP hS => ?_)
      obtain ⟨μ18, eμ18, h⟩ := vl_ex h
      have hP : fP w μ18 H := by rw [eμ18]; exact hP
      obtain ⟨x20, ex20⟩ : ∃ y : Int32, y = (v3 + (1 : Int32)) := ⟨_, rfl⟩
      replace h := vl_ok ex20 h
      refine lv_iinc (v := x20) (lv' := [(3, .int x20), (0, .ref (w.2.2.1 v0)), (1, .int v1), (2, .int v2)]) hx hb dX11_copies_110 hl (k := 3) rfl (by rw [ex20]; rfl) (by decide) rfl (fun ls hl => ?_)
      refine lv_goto (tgt := 38) hx hb dX11_copies_113 (by decide) ?_
      obtain ⟨rfl, rfl⟩ := leaf h
      exact hP0_38 rfl _ _ _ hP hS (lv_sub hl [1, 2, 3, 0] rfl)
  · obtain ⟨x23, μ24⟩ := q22
    intro H locs ls hP hS hl
    have hP : fP w μ24 H := hP
    have hl : lv_has ls 4 [(0, .ref (w.2.2.1 v0)), (1, .int v1), (2, .int v2)] := hl
    try dsimp only at h
    refine lv_iconst (v := (0)) hx hb dX11_copies_116 (by decide) ?_
    refine lv_istore_n (lv' := [(3, .int (0 : Int32)), (0, .ref (w.2.2.1 v0)), (1, .int v1), (2, .int v2)]) hx hb dX11_copies_117 rfl hl (by decide) rfl (fun ls hl => ?_)
    obtain ⟨t33, q34, h37, h⟩ := bd_ok h
    refine lpn_ind (b := (fun (q : Int32 × fMem) => f_X11_copies_L118 v0 v1 v2 q.1 q.2)) (P := fun (q : Int32 × fMem) => WW p l e rm_X11_copies s m args below meth c (MQ below (fQv w μr) args s 0 0 (fA w)) w q.2 4 118 [] [(0, .ref (w.2.2.1 v0)), (1, .int v1), (2, .int v2), (3, .int q.1)]) (K := fun _ (q : Int32 × fMem) => WW p l e rm_X11_copies s m args below meth c (MQ below (fQv w μr) args s 0 0 (fA w)) w q.2 4 174 [] []) ?_ fuel ((0 : Int32), μ24) t33 q34 h37 ?_ _ _ _ hP hS (lv_sub hl [1, 2, 3, 0] rfl)
    · intro q tz118 sz118 h hP0_118 hK0_118 H locs ls hP hS hl
      obtain ⟨v3, μ⟩ := q
      have hP : fP w μ H := hP
      have hl : lv_has ls 4 [(0, .ref (w.2.2.1 v0)), (1, .int v1), (2, .int v2), (3, .int v3)] := hl
      have h : f_X11_copies_L118 v0 v1 v2 v3 μ = some (tz118, sz118) := h
      unfold f_X11_copies_L118 at h
      refine lv_iload_n hx hb dX11_copies_118 rfl (lv_at hl 3 rfl) ?_
      refine lv_bipush (v := (6)) hx hb dX11_copies_119 (by decide) ?_
      refine lv_icmp_ge (tgt := 174) hx hb dX11_copies_121 (by decide) (fun c25 => ?_) (fun c25 => ?_)
      · replace h := if_t c25 h
        obtain ⟨rfl, rfl⟩ := leaf h
        exact (hK0_118 0 rfl) _ _ _ hP hS (lv_sub hl [] rfl)
      · replace h := if_f c25 h
        refine lv_aload_n hx hb dX11_copies_124 rfl (lv_at hl 0 rfl) ?_
        refine r_getF (off := 28) C hP (iw hw (fi_11 hk0)) hk0 fl_X11_96 rfl rfl (zw hw) dX11_copies_125 ?_
        refine lv_bipush (v := (6)) hx hb dX11_copies_128 (by decide) ?_
        refine lv_iload_n hx hb dX11_copies_130 rfl (lv_at hl 1 rfl) ?_
        refine lv_imul hx hb dX11_copies_131 ?_
        refine lv_iload_n hx hb dX11_copies_132 rfl (lv_at hl 3 rfl) ?_
        refine lv_iadd hx hb dX11_copies_133 ?_
        refine lv_aload_n hx hb dX11_copies_134 rfl (lv_at hl 0 rfl) ?_
        refine r_getF (off := 28) C hP (iw hw (fi_11 hk0)) hk0 fl_X11_96 rfl rfl (zw hw) dX11_copies_135 ?_
        refine lv_bipush (v := (6)) hx hb dX11_copies_138 (by decide) ?_
        refine lv_iload_n hx hb dX11_copies_140 rfl (lv_at hl 2 rfl) ?_
        refine lv_imul hx hb dX11_copies_141 ?_
        refine lv_iload_n hx hb dX11_copies_142 rfl (lv_at hl 3 rfl) ?_
        refine lv_iadd hx hb dX11_copies_143 ?_
        obtain ⟨g26, h⟩ := gd_ok h
        refine r_iald C hP (iw hw (ff_11_43 hk0).2) (ff_11_43 hk0).1 g26 dX11_copies_144 ?_
        obtain ⟨g28, h⟩ := gd_ok h
        refine r_iast C hP hS (iw hw (ff_11_43 hk0).2) (ff_11_43 hk0).1 g28 dX11_copies_145 (fun H locs hP hS => ?_)
        obtain ⟨μ27, eμ27, h⟩ := vl_ex h
        have hP : fP w μ27 H := by rw [eμ27]; exact hP
        refine lv_aload_n hx hb dX11_copies_146 rfl (lv_at hl 0 rfl) ?_
        refine r_getF (off := 29) C hP (iw hw (fi_11 hk0)) hk0 fl_X11_99 rfl rfl (zw hw) dX11_copies_147 ?_
        refine lv_bipush (v := (6)) hx hb dX11_copies_150 (by decide) ?_
        refine lv_iload_n hx hb dX11_copies_152 rfl (lv_at hl 1 rfl) ?_
        refine lv_imul hx hb dX11_copies_153 ?_
        refine lv_iload_n hx hb dX11_copies_154 rfl (lv_at hl 3 rfl) ?_
        refine lv_iadd hx hb dX11_copies_155 ?_
        refine lv_aload_n hx hb dX11_copies_156 rfl (lv_at hl 0 rfl) ?_
        refine r_getF (off := 29) C hP (iw hw (fi_11 hk0)) hk0 fl_X11_99 rfl rfl (zw hw) dX11_copies_157 ?_
        refine lv_bipush (v := (6)) hx hb dX11_copies_160 (by decide) ?_
        refine lv_iload_n hx hb dX11_copies_162 rfl (lv_at hl 2 rfl) ?_
        refine lv_imul hx hb dX11_copies_163 ?_
        refine lv_iload_n hx hb dX11_copies_164 rfl (lv_at hl 3 rfl) ?_
        refine lv_iadd hx hb dX11_copies_165 ?_
        obtain ⟨g29, h⟩ := gd_ok h
        refine r_iald C hP (iw hw (ff_11_44 hk0).2) (ff_11_44 hk0).1 g29 dX11_copies_166 ?_
        obtain ⟨g31, h⟩ := gd_ok h
        refine r_iast C hP hS (iw hw (ff_11_44 hk0).2) (ff_11_44 hk0).1 g31 dX11_copies_167 (fun H locs hP hS => ?_)
        obtain ⟨μ30, eμ30, h⟩ := vl_ex h
        have hP : fP w μ30 H := by rw [eμ30]; exact hP
        obtain ⟨x32, ex32⟩ : ∃ y : Int32, y = (v3 + (1 : Int32)) := ⟨_, rfl⟩
        replace h := vl_ok ex32 h
        refine lv_iinc (v := x32) (lv' := [(3, .int x32), (0, .ref (w.2.2.1 v0)), (1, .int v1), (2, .int v2)]) hx hb dX11_copies_168 hl (k := 3) rfl (by rw [ex32]; rfl) (by decide) rfl (fun ls hl => ?_)
        refine lv_goto (tgt := 118) hx hb dX11_copies_171 (by decide) ?_
        obtain ⟨rfl, rfl⟩ := leaf h
        exact hP0_118 rfl _ _ _ hP hS (lv_sub hl [1, 2, 3, 0] rfl)
    · obtain ⟨x35, μ36⟩ := q34
      intro H locs ls hP hS hl
      have hP : fP w μ36 H := hP
      have hl : lv_has ls 4 [] := hl
      try dsimp only at h
      exact r_vret C hr hP hS h dX11_copies_174

def f_X11_isRoom (v0 : Nat) (v1 : Int32) (μ : fMem) : Option (Int32 × fMem) :=
  if v1 < 0 then gd (bl (0 : Int32)) (some ((0 : Int32), μ)) else if (μ.1 (v0 + 2) 0) ≤ v1 then gd (bl (0 : Int32)) (some ((0 : Int32), μ)) else gd (bl (1 : Int32)) (some ((1 : Int32), μ))
def rm_X11_isRoom : Room := { frames := 0, cells := 0, slots := 0, locals := 0 }
set_option maxHeartbeats 4000000 in
set_option maxRecDepth 100000 in
theorem m_X11_isRoom (l : Launch) (w : fW) (hJ : fJ w) (hw : w.2.2.2 = sd 1) (v0 : Nat) (v1 : Int32) (hk0 : kd v0 = (4, 11)) (μ : fMem) {r : Int32} {μr : fMem} (h : f_X11_isRoom v0 v1 μ = some (r, μr)) : Met l yX11_isRoom (.code yX11_isRoom cX11_isRoom 2 (some .boolean) :: gw) rm_X11_isRoom (fPc w [.ref (w.2.2.1 v0), .int v1] μ) (fQi w r μr) 0 0 (fA w) := by
  refine met_of hJ (by decide) ?_ (Nat.le_of_ble_eq_true rfl)
  generalize ([.ref (w.2.2.1 v0), .int v1] : List Value).toArray = args
  intro p e s m below meth c ls C hr hP hl hS
  obtain ⟨hx, hb, hml, hown, hts, hK, -, hlk, hT⟩ := id C
  have hl : lv_has ls 2 [(0, .ref (w.2.2.1 v0)), (1, .int v1)] := hl
  unfold f_X11_isRoom at h
  refine lv_iload_n hx hb dX11_isRoom_0 rfl (lv_at hl 1 rfl) ?_
  refine lv_if_lt (tgt := 18) hx hb dX11_isRoom_1 (by decide) (fun c1 => ?_) (fun c1 => ?_)
  · replace h := if_t c1 h
    refine lv_iconst (v := (0)) hx hb dX11_isRoom_18 (by decide) ?_
    exact r_zret C hr hP hS h dX11_isRoom_19
  · replace h := if_f c1 h
    refine lv_iload_n hx hb dX11_isRoom_4 rfl (lv_at hl 1 rfl) ?_
    refine lv_aload_n hx hb dX11_isRoom_5 rfl (lv_at hl 0 rfl) ?_
    refine r_getF (off := 2) C hP (iw hw (fi_11 hk0)) hk0 fl_X11_13 rfl rfl (zw hw) dX11_isRoom_6 ?_
    refine lv_iconst (v := (0)) hx hb dX11_isRoom_9 (by decide) ?_
    refine n_iald (j := 0) C hP (iw hw (ff_11_3 hk0).2) (ff_11_3 hk0).1 (by decide) (by decide) dX11_isRoom_10 ?_
    refine lv_icmp_ge (tgt := 18) hx hb dX11_isRoom_11 (by decide) (fun c2 => ?_) (fun c2 => ?_)
    · replace h := if_t c2 h
      refine lv_iconst (v := (0)) hx hb dX11_isRoom_18 (by decide) ?_
      exact r_zret C hr hP hS h dX11_isRoom_19
    · replace h := if_f c2 h
      refine lv_iconst (v := (1)) hx hb dX11_isRoom_14 (by decide) ?_
      refine lv_goto (tgt := 19) hx hb dX11_isRoom_15 (by decide) ?_
      exact r_zret C hr hP hS h dX11_isRoom_19

def f_X11_isThing (v0 : Nat) (v1 : Int32) (μ : fMem) : Option (Int32 × fMem) :=
  if v1 < 0 then gd (bl (0 : Int32)) (some ((0 : Int32), μ)) else if (μ.1 (v0 + 2) 2) ≤ v1 then gd (bl (0 : Int32)) (some ((0 : Int32), μ)) else gd (bl (1 : Int32)) (some ((1 : Int32), μ))
def rm_X11_isThing : Room := { frames := 0, cells := 0, slots := 0, locals := 0 }
set_option maxHeartbeats 4000000 in
set_option maxRecDepth 100000 in
theorem m_X11_isThing (l : Launch) (w : fW) (hJ : fJ w) (hw : w.2.2.2 = sd 1) (v0 : Nat) (v1 : Int32) (hk0 : kd v0 = (4, 11)) (μ : fMem) {r : Int32} {μr : fMem} (h : f_X11_isThing v0 v1 μ = some (r, μr)) : Met l yX11_isThing (.code yX11_isThing cX11_isThing 2 (some .boolean) :: gw) rm_X11_isThing (fPc w [.ref (w.2.2.1 v0), .int v1] μ) (fQi w r μr) 0 0 (fA w) := by
  refine met_of hJ (by decide) ?_ (Nat.le_of_ble_eq_true rfl)
  generalize ([.ref (w.2.2.1 v0), .int v1] : List Value).toArray = args
  intro p e s m below meth c ls C hr hP hl hS
  obtain ⟨hx, hb, hml, hown, hts, hK, -, hlk, hT⟩ := id C
  have hl : lv_has ls 2 [(0, .ref (w.2.2.1 v0)), (1, .int v1)] := hl
  unfold f_X11_isThing at h
  refine lv_iload_n hx hb dX11_isThing_0 rfl (lv_at hl 1 rfl) ?_
  refine lv_if_lt (tgt := 18) hx hb dX11_isThing_1 (by decide) (fun c1 => ?_) (fun c1 => ?_)
  · replace h := if_t c1 h
    refine lv_iconst (v := (0)) hx hb dX11_isThing_18 (by decide) ?_
    exact r_zret C hr hP hS h dX11_isThing_19
  · replace h := if_f c1 h
    refine lv_iload_n hx hb dX11_isThing_4 rfl (lv_at hl 1 rfl) ?_
    refine lv_aload_n hx hb dX11_isThing_5 rfl (lv_at hl 0 rfl) ?_
    refine r_getF (off := 2) C hP (iw hw (fi_11 hk0)) hk0 fl_X11_13 rfl rfl (zw hw) dX11_isThing_6 ?_
    refine lv_iconst (v := (2)) hx hb dX11_isThing_9 (by decide) ?_
    refine n_iald (j := 2) C hP (iw hw (ff_11_3 hk0).2) (ff_11_3 hk0).1 (by decide) (by decide) dX11_isThing_10 ?_
    refine lv_icmp_ge (tgt := 18) hx hb dX11_isThing_11 (by decide) (fun c2 => ?_) (fun c2 => ?_)
    · replace h := if_t c2 h
      refine lv_iconst (v := (0)) hx hb dX11_isThing_18 (by decide) ?_
      exact r_zret C hr hP hS h dX11_isThing_19
    · replace h := if_f c2 h
      refine lv_iconst (v := (1)) hx hb dX11_isThing_14 (by decide) ?_
      refine lv_goto (tgt := 19) hx hb dX11_isThing_15 (by decide) ?_
      exact r_zret C hr hP hS h dX11_isThing_19

def f_X11_isDead (v0 : Nat) (v1 : Int32) (μ : fMem) : Option (Int32 × fMem) :=
  if v1 < 0 then gd (bl (0 : Int32)) (some ((0 : Int32), μ)) else if (μ.1 (v0 + 2) 3) ≤ v1 then gd (bl (0 : Int32)) (some ((0 : Int32), μ)) else gd (bl (1 : Int32)) (some ((1 : Int32), μ))
def rm_X11_isDead : Room := { frames := 0, cells := 0, slots := 0, locals := 0 }
set_option maxHeartbeats 4000000 in
set_option maxRecDepth 100000 in
theorem m_X11_isDead (l : Launch) (w : fW) (hJ : fJ w) (hw : w.2.2.2 = sd 1) (v0 : Nat) (v1 : Int32) (hk0 : kd v0 = (4, 11)) (μ : fMem) {r : Int32} {μr : fMem} (h : f_X11_isDead v0 v1 μ = some (r, μr)) : Met l yX11_isDead (.code yX11_isDead cX11_isDead 2 (some .boolean) :: gw) rm_X11_isDead (fPc w [.ref (w.2.2.1 v0), .int v1] μ) (fQi w r μr) 0 0 (fA w) := by
  refine met_of hJ (by decide) ?_ (Nat.le_of_ble_eq_true rfl)
  generalize ([.ref (w.2.2.1 v0), .int v1] : List Value).toArray = args
  intro p e s m below meth c ls C hr hP hl hS
  obtain ⟨hx, hb, hml, hown, hts, hK, -, hlk, hT⟩ := id C
  have hl : lv_has ls 2 [(0, .ref (w.2.2.1 v0)), (1, .int v1)] := hl
  unfold f_X11_isDead at h
  refine lv_iload_n hx hb dX11_isDead_0 rfl (lv_at hl 1 rfl) ?_
  refine lv_if_lt (tgt := 18) hx hb dX11_isDead_1 (by decide) (fun c1 => ?_) (fun c1 => ?_)
  · replace h := if_t c1 h
    refine lv_iconst (v := (0)) hx hb dX11_isDead_18 (by decide) ?_
    exact r_zret C hr hP hS h dX11_isDead_19
  · replace h := if_f c1 h
    refine lv_iload_n hx hb dX11_isDead_4 rfl (lv_at hl 1 rfl) ?_
    refine lv_aload_n hx hb dX11_isDead_5 rfl (lv_at hl 0 rfl) ?_
    refine r_getF (off := 2) C hP (iw hw (fi_11 hk0)) hk0 fl_X11_13 rfl rfl (zw hw) dX11_isDead_6 ?_
    refine lv_iconst (v := (3)) hx hb dX11_isDead_9 (by decide) ?_
    refine n_iald (j := 3) C hP (iw hw (ff_11_3 hk0).2) (ff_11_3 hk0).1 (by decide) (by decide) dX11_isDead_10 ?_
    refine lv_icmp_ge (tgt := 18) hx hb dX11_isDead_11 (by decide) (fun c2 => ?_) (fun c2 => ?_)
    · replace h := if_t c2 h
      refine lv_iconst (v := (0)) hx hb dX11_isDead_18 (by decide) ?_
      exact r_zret C hr hP hS h dX11_isDead_19
    · replace h := if_f c2 h
      refine lv_iconst (v := (1)) hx hb dX11_isDead_14 (by decide) ?_
      refine lv_goto (tgt := 19) hx hb dX11_isDead_15 (by decide) ?_
      exact r_zret C hr hP hS h dX11_isDead_19

def f_X11_isDoor_j32 (v0 : Nat) (v1 : Int32) (v2 : Int32) (v3 : Int32) (μ : fMem) : Option (Nat × (Int32 × fMem)) :=
  gd (ixo v3 18) (if (μ.1 (v0 + 4) (Int32.toNatClampNeg v3)) = v2 then gd (ixo v3 18) (if (μ.1 (v0 + 5) (Int32.toNatClampNeg v3)) = v1 then some (2, (v3, μ)) else vl (v3 + (1 : Int32)) fun x11 => some (0, (x11, μ))) else vl (v3 + (1 : Int32)) fun x8 => some (0, (x8, μ)))
def f_X11_isDoor_L2 (v0 : Nat) (v1 : Int32) (v2 : Int32) (v3 : Int32) (μ : fMem) : Option (Nat × (Int32 × fMem)) :=
  if (μ.1 (v0 + 2) 1) ≤ v3 then some (1, (v3, μ)) else gd (ixo v3 18) (if (μ.1 (v0 + 4) (Int32.toNatClampNeg v3)) = v1 then gd (ixo v3 18) (if (μ.1 (v0 + 5) (Int32.toNatClampNeg v3)) = v2 then some (2, (v3, μ)) else f_X11_isDoor_j32 v0 v1 v2 v3 μ) else f_X11_isDoor_j32 v0 v1 v2 v3 μ)
def f_X11_isDoor (v0 : Nat) (v1 : Int32) (v2 : Int32) (μ : fMem) : Option (Int32 × fMem) :=
  bd (lpn (fun (q : Int32 × fMem) => f_X11_isDoor_L2 v0 v1 v2 q.1 q.2) fuel ((0 : Int32), μ)) fun t12 q13 => (fun (x14 : Int32) (μ15 : fMem) => if t12 = 0 then gd (bl (0 : Int32)) (some ((0 : Int32), μ15)) else gd (bl (1 : Int32)) (some ((1 : Int32), μ15))) q13.1 q13.2
def rm_X11_isDoor : Room := { frames := 0, cells := 0, slots := 0, locals := 0 }
set_option maxHeartbeats 4000000 in
set_option maxRecDepth 100000 in
theorem m_X11_isDoor (l : Launch) (w : fW) (hJ : fJ w) (hw : w.2.2.2 = sd 1) (v0 : Nat) (v1 : Int32) (v2 : Int32) (hk0 : kd v0 = (4, 11)) (μ : fMem) {r : Int32} {μr : fMem} (h : f_X11_isDoor v0 v1 v2 μ = some (r, μr)) : Met l yX11_isDoor (.code yX11_isDoor cX11_isDoor 4 (some .boolean) :: gw) rm_X11_isDoor (fPc w [.ref (w.2.2.1 v0), .int v1, .int v2] μ) (fQi w r μr) 0 0 (fA w) := by
  refine met_of hJ (by decide) ?_ (Nat.le_of_ble_eq_true rfl)
  generalize ([.ref (w.2.2.1 v0), .int v1, .int v2] : List Value).toArray = args
  intro p e s m below meth c ls C hr hP hl hS
  obtain ⟨hx, hb, hml, hown, hts, hK, -, hlk, hT⟩ := id C
  have hl : lv_has ls 4 [(0, .ref (w.2.2.1 v0)), (1, .int v1), (2, .int v2)] := hl
  unfold f_X11_isDoor at h
  refine lv_iconst (v := (0)) hx hb dX11_isDoor_0 (by decide) ?_
  refine lv_istore_n (lv' := [(3, .int (0 : Int32)), (0, .ref (w.2.2.1 v0)), (1, .int v1), (2, .int v2)]) hx hb dX11_isDoor_1 rfl hl (by decide) rfl (fun ls hl => ?_)
  obtain ⟨t12, q13, h16, h⟩ := bd_ok h
  refine lpn_ind (b := (fun (q : Int32 × fMem) => f_X11_isDoor_L2 v0 v1 v2 q.1 q.2)) (P := fun (q : Int32 × fMem) => WW p l e rm_X11_isDoor s m args below meth c (MQ below (fQi w r μr) args s 0 0 (fA w)) w q.2 4 2 [] [(0, .ref (w.2.2.1 v0)), (1, .int v1), (2, .int v2), (3, .int q.1)]) (K := fun t (q : Int32 × fMem) => (t = 0 → WW p l e rm_X11_isDoor s m args below meth c (MQ below (fQi w r μr) args s 0 0 (fA w)) w q.2 4 60 [] []) ∧ (t = 1 → WW p l e rm_X11_isDoor s m args below meth c (MQ below (fQi w r μr) args s 0 0 (fA w)) w q.2 4 52 [] [])) ?_ fuel ((0 : Int32), μ) t12 q13 h16 ?_ _ _ _ hP hS (lv_sub hl [1, 2, 3, 0] rfl)
  · intro q tz2 sz2 h hP0_2 hK0_2 H locs ls hP hS hl
    obtain ⟨v3, μ⟩ := q
    have hP : fP w μ H := hP
    have hl : lv_has ls 4 [(0, .ref (w.2.2.1 v0)), (1, .int v1), (2, .int v2), (3, .int v3)] := hl
    have h : f_X11_isDoor_L2 v0 v1 v2 v3 μ = some (tz2, sz2) := h
    unfold f_X11_isDoor_L2 at h
    have J32 : ∀ (v3 : Int32) (μ : fMem), f_X11_isDoor_j32 v0 v1 v2 v3 μ = some (tz2, sz2) → WW p l e rm_X11_isDoor s m args below meth c (MQ below (fQi w r μr) args s 0 0 (fA w)) w μ 4 32 [] [(0, .ref (w.2.2.1 v0)), (1, .int v1), (2, .int v2), (3, .int v3)] := by
      intro v3 μ  h H locs ls hP hS hl
      unfold f_X11_isDoor_j32 at h
      refine lv_aload_n hx hb dX11_isDoor_32 rfl (lv_at hl 0 rfl) ?_
      refine r_getF (off := 4) C hP (iw hw (fi_11 hk0)) hk0 fl_X11_19 rfl rfl (zw hw) dX11_isDoor_33 ?_
      refine lv_iload_n hx hb dX11_isDoor_36 rfl (lv_at hl 3 rfl) ?_
      obtain ⟨g6, h⟩ := gd_ok h
      refine r_iald C hP (iw hw (ff_11_5 hk0).2) (ff_11_5 hk0).1 g6 dX11_isDoor_37 ?_
      refine lv_iload_n hx hb dX11_isDoor_38 rfl (lv_at hl 2 rfl) ?_
      refine lv_icmp_ne (tgt := 54) hx hb dX11_isDoor_39 (by decide) (fun c7 => ?_) (fun c7 => ?_)
      · replace h := if_f c7 h
        obtain ⟨x8, ex8⟩ : ∃ y : Int32, y = (v3 + (1 : Int32)) := ⟨_, rfl⟩
        replace h := vl_ok ex8 h
        refine lv_iinc (v := x8) (lv' := [(3, .int x8), (0, .ref (w.2.2.1 v0)), (1, .int v1), (2, .int v2)]) hx hb dX11_isDoor_54 hl (k := 3) rfl (by rw [ex8]; rfl) (by decide) rfl (fun ls hl => ?_)
        refine lv_goto (tgt := 2) hx hb dX11_isDoor_57 (by decide) ?_
        obtain ⟨rfl, rfl⟩ := leaf h
        exact hP0_2 rfl _ _ _ hP hS (lv_sub hl [1, 2, 3, 0] rfl)
      · replace h := if_t c7 h
        refine lv_aload_n hx hb dX11_isDoor_42 rfl (lv_at hl 0 rfl) ?_
        refine r_getF (off := 5) C hP (iw hw (fi_11 hk0)) hk0 fl_X11_22 rfl rfl (zw hw) dX11_isDoor_43 ?_
        refine lv_iload_n hx hb dX11_isDoor_46 rfl (lv_at hl 3 rfl) ?_
        obtain ⟨g9, h⟩ := gd_ok h
        refine r_iald C hP (iw hw (ff_11_6 hk0).2) (ff_11_6 hk0).1 g9 dX11_isDoor_47 ?_
        refine lv_iload_n hx hb dX11_isDoor_48 rfl (lv_at hl 1 rfl) ?_
        refine lv_icmp_ne (tgt := 54) hx hb dX11_isDoor_49 (by decide) (fun c10 => ?_) (fun c10 => ?_)
        · replace h := if_f c10 h
          obtain ⟨x11, ex11⟩ : ∃ y : Int32, y = (v3 + (1 : Int32)) := ⟨_, rfl⟩
          replace h := vl_ok ex11 h
          refine lv_iinc (v := x11) (lv' := [(3, .int x11), (0, .ref (w.2.2.1 v0)), (1, .int v1), (2, .int v2)]) hx hb dX11_isDoor_54 hl (k := 3) rfl (by rw [ex11]; rfl) (by decide) rfl (fun ls hl => ?_)
          refine lv_goto (tgt := 2) hx hb dX11_isDoor_57 (by decide) ?_
          obtain ⟨rfl, rfl⟩ := leaf h
          exact hP0_2 rfl _ _ _ hP hS (lv_sub hl [1, 2, 3, 0] rfl)
        · replace h := if_t c10 h
          obtain ⟨rfl, rfl⟩ := leaf h
          exact ((hK0_2 1 rfl).2 rfl) _ _ _ hP hS (lv_sub hl [] rfl)
    refine lv_iload_n hx hb dX11_isDoor_2 rfl (lv_at hl 3 rfl) ?_
    refine lv_aload_n hx hb dX11_isDoor_3 rfl (lv_at hl 0 rfl) ?_
    refine r_getF (off := 2) C hP (iw hw (fi_11 hk0)) hk0 fl_X11_13 rfl rfl (zw hw) dX11_isDoor_4 ?_
    refine lv_iconst (v := (1)) hx hb dX11_isDoor_7 (by decide) ?_
    refine n_iald (j := 1) C hP (iw hw (ff_11_3 hk0).2) (ff_11_3 hk0).1 (by decide) (by decide) dX11_isDoor_8 ?_
    refine lv_icmp_ge (tgt := 60) hx hb dX11_isDoor_9 (by decide) (fun c1 => ?_) (fun c1 => ?_)
    · replace h := if_t c1 h
      obtain ⟨rfl, rfl⟩ := leaf h
      exact ((hK0_2 0 rfl).1 rfl) _ _ _ hP hS (lv_sub hl [] rfl)
    · replace h := if_f c1 h
      refine lv_aload_n hx hb dX11_isDoor_12 rfl (lv_at hl 0 rfl) ?_
      refine r_getF (off := 4) C hP (iw hw (fi_11 hk0)) hk0 fl_X11_19 rfl rfl (zw hw) dX11_isDoor_13 ?_
      refine lv_iload_n hx hb dX11_isDoor_16 rfl (lv_at hl 3 rfl) ?_
      obtain ⟨g2, h⟩ := gd_ok h
      refine r_iald C hP (iw hw (ff_11_5 hk0).2) (ff_11_5 hk0).1 g2 dX11_isDoor_17 ?_
      refine lv_iload_n hx hb dX11_isDoor_18 rfl (lv_at hl 1 rfl) ?_
      refine lv_icmp_ne (tgt := 32) hx hb dX11_isDoor_19 (by decide) (fun c3 => ?_) (fun c3 => ?_)
      · replace h := if_f c3 h
        exact J32 v3 μ  h _ _ _ hP hS (lv_sub hl [0, 1, 2, 3] rfl)
      · replace h := if_t c3 h
        refine lv_aload_n hx hb dX11_isDoor_22 rfl (lv_at hl 0 rfl) ?_
        refine r_getF (off := 5) C hP (iw hw (fi_11 hk0)) hk0 fl_X11_22 rfl rfl (zw hw) dX11_isDoor_23 ?_
        refine lv_iload_n hx hb dX11_isDoor_26 rfl (lv_at hl 3 rfl) ?_
        obtain ⟨g4, h⟩ := gd_ok h
        refine r_iald C hP (iw hw (ff_11_6 hk0).2) (ff_11_6 hk0).1 g4 dX11_isDoor_27 ?_
        refine lv_iload_n hx hb dX11_isDoor_28 rfl (lv_at hl 2 rfl) ?_
        refine lv_icmp_eq (tgt := 52) hx hb dX11_isDoor_29 (by decide) (fun c5 => ?_) (fun c5 => ?_)
        · replace h := if_t c5 h
          obtain ⟨rfl, rfl⟩ := leaf h
          exact ((hK0_2 1 rfl).2 rfl) _ _ _ hP hS (lv_sub hl [] rfl)
        · replace h := if_f c5 h
          exact J32 v3 μ  h _ _ _ hP hS (lv_sub hl [0, 1, 2, 3] rfl)
  · obtain ⟨x14, μ15⟩ := q13
    try dsimp only at h
    refine ⟨fun ht => ?_, fun ht => ?_⟩
    · intro H locs ls hP hS hl
      have hP : fP w μ15 H := hP
      have hl : lv_has ls 4 [] := hl
      replace h := if_t ht h
      refine lv_iconst (v := (0)) hx hb dX11_isDoor_60 (by decide) ?_
      exact r_zret C hr hP hS h dX11_isDoor_61
    · intro H locs ls hP hS hl
      have hP : fP w μ15 H := hP
      have hl : lv_has ls 4 [] := hl
      replace h := if_f (by rw [ht]; decide) h
      refine lv_iconst (v := (1)) hx hb dX11_isDoor_52 (by decide) ?_
      exact r_zret C hr hP hS h dX11_isDoor_53

def f_X11_tasteIn (v0 : Nat) (v1 : Int32) (μ : fMem) : Option (Int32 × fMem) :=
  if v1 = (μ.1 v0 50) then some ((μ.1 v0 51), μ) else gd (ixo v1 12) (some ((μ.1 (v0 + 11) (Int32.toNatClampNeg v1)), μ))
def rm_X11_tasteIn : Room := { frames := 0, cells := 0, slots := 0, locals := 0 }
set_option maxHeartbeats 4000000 in
set_option maxRecDepth 100000 in
theorem m_X11_tasteIn (l : Launch) (w : fW) (hJ : fJ w) (hw : w.2.2.2 = sd 1) (v0 : Nat) (v1 : Int32) (hk0 : kd v0 = (4, 11)) (μ : fMem) {r : Int32} {μr : fMem} (h : f_X11_tasteIn v0 v1 μ = some (r, μr)) : Met l yX11_tasteIn (.code yX11_tasteIn cX11_tasteIn 2 (some .int) :: gw) rm_X11_tasteIn (fPc w [.ref (w.2.2.1 v0), .int v1] μ) (fQi w r μr) 0 0 (fA w) := by
  refine met_of hJ (by decide) ?_ (Nat.le_of_ble_eq_true rfl)
  generalize ([.ref (w.2.2.1 v0), .int v1] : List Value).toArray = args
  intro p e s m below meth c ls C hr hP hl hS
  obtain ⟨hx, hb, hml, hown, hts, hK, -, hlk, hT⟩ := id C
  have hl : lv_has ls 2 [(0, .ref (w.2.2.1 v0)), (1, .int v1)] := hl
  unfold f_X11_tasteIn at h
  refine lv_iload_n hx hb dX11_tasteIn_0 rfl (lv_at hl 1 rfl) ?_
  refine lv_aload_n hx hb dX11_tasteIn_1 rfl (lv_at hl 0 rfl) ?_
  refine r_getI C hP (iw hw (fi_11 hk0)) hk0 fl_X11_108 (Or.inl rfl) dX11_tasteIn_2 ?_
  refine lv_icmp_ne (tgt := 15) hx hb dX11_tasteIn_5 (by decide) (fun c1 => ?_) (fun c1 => ?_)
  · replace h := if_f c1 h
    refine lv_aload_n hx hb dX11_tasteIn_15 rfl (lv_at hl 0 rfl) ?_
    refine r_getF (off := 11) C hP (iw hw (fi_11 hk0)) hk0 fl_X11_40 rfl rfl (zw hw) dX11_tasteIn_16 ?_
    refine lv_iload_n hx hb dX11_tasteIn_19 rfl (lv_at hl 1 rfl) ?_
    obtain ⟨g2, h⟩ := gd_ok h
    refine r_iald C hP (iw hw (ff_11_12 hk0).2) (ff_11_12 hk0).1 g2 dX11_tasteIn_20 ?_
    exact r_iret C hr hP hS h dX11_tasteIn_21
  · replace h := if_t c1 h
    refine lv_aload_n hx hb dX11_tasteIn_8 rfl (lv_at hl 0 rfl) ?_
    refine r_getI C hP (iw hw (fi_11 hk0)) hk0 fl_X11_337 (Or.inl rfl) dX11_tasteIn_9 ?_
    refine lv_goto (tgt := 21) hx hb dX11_tasteIn_12 (by decide) ?_
    exact r_iret C hr hP hS h dX11_tasteIn_21

def f_X11_glassAt (v0 : Nat) (v1 : Int32) (μ : fMem) : Option (Int32 × fMem) :=
  if (μ.1 (v0 + 2) 4) = 0 then some ((50 : Int32), μ) else gd (¬ (μ.1 (v0 + 2) 4) = 0) (gd (ixo (irm v1 (μ.1 (v0 + 2) 4)) 18) (some ((μ.1 (v0 + 15) (Int32.toNatClampNeg (irm v1 (μ.1 (v0 + 2) 4)))), μ)))
def rm_X11_glassAt : Room := { frames := 0, cells := 0, slots := 0, locals := 0 }
set_option maxHeartbeats 4000000 in
set_option maxRecDepth 100000 in
theorem m_X11_glassAt (l : Launch) (w : fW) (hJ : fJ w) (hw : w.2.2.2 = sd 1) (v0 : Nat) (v1 : Int32) (hk0 : kd v0 = (4, 11)) (μ : fMem) {r : Int32} {μr : fMem} (h : f_X11_glassAt v0 v1 μ = some (r, μr)) : Met l yX11_glassAt (.code yX11_glassAt cX11_glassAt 2 (some .int) :: gw) rm_X11_glassAt (fPc w [.ref (w.2.2.1 v0), .int v1] μ) (fQi w r μr) 0 0 (fA w) := by
  refine met_of hJ (by decide) ?_ (Nat.le_of_ble_eq_true rfl)
  generalize ([.ref (w.2.2.1 v0), .int v1] : List Value).toArray = args
  intro p e s m below meth c ls C hr hP hl hS
  obtain ⟨hx, hb, hml, hown, hts, hK, -, hlk, hT⟩ := id C
  have hl : lv_has ls 2 [(0, .ref (w.2.2.1 v0)), (1, .int v1)] := hl
  unfold f_X11_glassAt at h
  refine lv_aload_n hx hb dX11_glassAt_0 rfl (lv_at hl 0 rfl) ?_
  refine r_getF (off := 2) C hP (iw hw (fi_11 hk0)) hk0 fl_X11_13 rfl rfl (zw hw) dX11_glassAt_1 ?_
  refine lv_iconst (v := (4)) hx hb dX11_glassAt_4 (by decide) ?_
  refine n_iald (j := 4) C hP (iw hw (ff_11_3 hk0).2) (ff_11_3 hk0).1 (by decide) (by decide) dX11_glassAt_5 ?_
  refine lv_if_ne (tgt := 14) hx hb dX11_glassAt_6 (by decide) (fun c1 => ?_) (fun c1 => ?_)
  · replace h := if_f c1 h
    refine lv_aload_n hx hb dX11_glassAt_14 rfl (lv_at hl 0 rfl) ?_
    refine r_getF (off := 15) C hP (iw hw (fi_11 hk0)) hk0 fl_X11_52 rfl rfl (zw hw) dX11_glassAt_15 ?_
    refine lv_iload_n hx hb dX11_glassAt_18 rfl (lv_at hl 1 rfl) ?_
    refine lv_aload_n hx hb dX11_glassAt_19 rfl (lv_at hl 0 rfl) ?_
    refine r_getF (off := 2) C hP (iw hw (fi_11 hk0)) hk0 fl_X11_13 rfl rfl (zw hw) dX11_glassAt_20 ?_
    refine lv_iconst (v := (4)) hx hb dX11_glassAt_23 (by decide) ?_
    refine n_iald (j := 4) C hP (iw hw (ff_11_3 hk0).2) (ff_11_3 hk0).1 (by decide) (by decide) dX11_glassAt_24 ?_
    obtain ⟨g2, h⟩ := gd_ok h
    refine r_irem hx hb dX11_glassAt_25 g2 ?_
    obtain ⟨g3, h⟩ := gd_ok h
    refine r_iald C hP (iw hw (ff_11_16 hk0).2) (ff_11_16 hk0).1 g3 dX11_glassAt_26 ?_
    exact r_iret C hr hP hS h dX11_glassAt_27
  · replace h := if_t c1 h
    refine lv_bipush (v := (50)) hx hb dX11_glassAt_9 (by decide) ?_
    refine lv_goto (tgt := 27) hx hb dX11_glassAt_11 (by decide) ?_
    exact r_iret C hr hP hS h dX11_glassAt_27

def f_X11_gaugeIn (v0 : Nat) (v1 : Int32) (μ : fMem) : Option (Int32 × fMem) :=
  if (μ.1 v0 49) = (-1 : Int32) then gd (ixo v1 23) (bd (f_X11_glassAt v0 (μ.1 (v0 + 22) (Int32.toNatClampNeg v1)) μ) fun r4 μ3 => some (r4, μ3)) else some ((μ.1 v0 49), μ)
def rm_X11_gaugeIn : Room := { frames := 1, cells := 0, slots := 0, locals := 21 }
set_option maxHeartbeats 4000000 in
set_option maxRecDepth 100000 in
theorem m_X11_gaugeIn (l : Launch) (w : fW) (hJ : fJ w) (hw : w.2.2.2 = sd 1) (v0 : Nat) (v1 : Int32) (hk0 : kd v0 = (4, 11)) (μ : fMem) {r : Int32} {μr : fMem} (h : f_X11_gaugeIn v0 v1 μ = some (r, μr)) : Met l yX11_gaugeIn (.code yX11_gaugeIn cX11_gaugeIn 2 (some .int) :: gw) rm_X11_gaugeIn (fPc w [.ref (w.2.2.1 v0), .int v1] μ) (fQi w r μr) 0 0 (fA w) := by
  refine met_of hJ (by decide) ?_ (Nat.le_of_ble_eq_true rfl)
  generalize ([.ref (w.2.2.1 v0), .int v1] : List Value).toArray = args
  intro p e s m below meth c ls C hr hP hl hS
  obtain ⟨hx, hb, hml, hown, hts, hK, -, hlk, hT⟩ := id C
  have hl : lv_has ls 2 [(0, .ref (w.2.2.1 v0)), (1, .int v1)] := hl
  unfold f_X11_gaugeIn at h
  refine lv_aload_n hx hb dX11_gaugeIn_0 rfl (lv_at hl 0 rfl) ?_
  refine r_getI C hP (iw hw (fi_11 hk0)) hk0 fl_X11_105 (Or.inl rfl) dX11_gaugeIn_1 ?_
  refine lv_iconst (v := (-1)) hx hb dX11_gaugeIn_4 (by decide) ?_
  refine lv_icmp_eq (tgt := 15) hx hb dX11_gaugeIn_5 (by decide) (fun c1 => ?_) (fun c1 => ?_)
  · replace h := if_t c1 h
    refine lv_aload_n hx hb dX11_gaugeIn_15 rfl (lv_at hl 0 rfl) ?_
    refine lv_aload_n hx hb dX11_gaugeIn_16 rfl (lv_at hl 0 rfl) ?_
    refine r_getF (off := 22) C hP (iw hw (fi_11 hk0)) hk0 fl_X11_78 rfl rfl (zw hw) dX11_gaugeIn_17 ?_
    refine lv_iload_n hx hb dX11_gaugeIn_20 rfl (lv_at hl 1 rfl) ?_
    obtain ⟨g2, h⟩ := gd_ok h
    refine r_iald C hP (iw hw (ff_11_37 hk0).2) (ff_11_37 hk0).1 g2 dX11_gaugeIn_21 ?_
    obtain ⟨r4, μ3, h5, h⟩ := bd_ok h
    refine go_i (callV_run (As := [.int (μ.1 (v0 + 22) (Int32.toNatClampNeg v1))]) (rest := []) C hl hP (hS.wide hJ).2.1 (iw hw (fi_11 hk0)) hk0 (m_X11_glassAt l w hJ hw v0 (μ.1 (v0 + 22) (Int32.toNatClampNeg v1)) hk0 μ h5) mv_X11_340 ⟨rfl, rfl, by decide, by decide⟩ rfl rfl (Nat.le_of_ble_eq_true rfl) ⟨Nat.zero_le _, Nat.zero_le _⟩ dX11_gaugeIn_22) hS (fun H locs hP hS => ?_)
    exact r_iret C hr hP hS h dX11_gaugeIn_25
  · replace h := if_f c1 h
    refine lv_aload_n hx hb dX11_gaugeIn_8 rfl (lv_at hl 0 rfl) ?_
    refine r_getI C hP (iw hw (fi_11 hk0)) hk0 fl_X11_105 (Or.inl rfl) dX11_gaugeIn_9 ?_
    refine lv_goto (tgt := 25) hx hb dX11_gaugeIn_12 (by decide) ?_
    exact r_iret C hr hP hS h dX11_gaugeIn_25

def f_X11_isHung (v0 : Nat) (v1 : Int32) (μ : fMem) : Option (Int32 × fMem) :=
  if (μ.1 v0 47) = (5 : Int32) then if v1 = (μ.1 v0 48) then gd (bl (0 : Int32)) (some ((0 : Int32), μ)) else gd (bl (1 : Int32)) (some ((1 : Int32), μ)) else gd (bl (1 : Int32)) (some ((1 : Int32), μ))
def rm_X11_isHung : Room := { frames := 0, cells := 0, slots := 0, locals := 0 }
set_option maxHeartbeats 4000000 in
set_option maxRecDepth 100000 in
theorem m_X11_isHung (l : Launch) (w : fW) (hJ : fJ w) (hw : w.2.2.2 = sd 1) (v0 : Nat) (v1 : Int32) (hk0 : kd v0 = (4, 11)) (μ : fMem) {r : Int32} {μr : fMem} (h : f_X11_isHung v0 v1 μ = some (r, μr)) : Met l yX11_isHung (.code yX11_isHung cX11_isHung 2 (some .boolean) :: gw) rm_X11_isHung (fPc w [.ref (w.2.2.1 v0), .int v1] μ) (fQi w r μr) 0 0 (fA w) := by
  refine met_of hJ (by decide) ?_ (Nat.le_of_ble_eq_true rfl)
  generalize ([.ref (w.2.2.1 v0), .int v1] : List Value).toArray = args
  intro p e s m below meth c ls C hr hP hl hS
  obtain ⟨hx, hb, hml, hown, hts, hK, -, hlk, hT⟩ := id C
  have hl : lv_has ls 2 [(0, .ref (w.2.2.1 v0)), (1, .int v1)] := hl
  unfold f_X11_isHung at h
  refine lv_aload_n hx hb dX11_isHung_0 rfl (lv_at hl 0 rfl) ?_
  refine r_getI C hP (iw hw (fi_11 hk0)) hk0 fl_X11_343 (Or.inl rfl) dX11_isHung_1 ?_
  refine lv_iconst (v := (5)) hx hb dX11_isHung_4 (by decide) ?_
  refine lv_icmp_ne (tgt := 16) hx hb dX11_isHung_5 (by decide) (fun c1 => ?_) (fun c1 => ?_)
  · replace h := if_f c1 h
    refine lv_iconst (v := (1)) hx hb dX11_isHung_16 (by decide) ?_
    refine lv_goto (tgt := 21) hx hb dX11_isHung_17 (by decide) ?_
    exact r_zret C hr hP hS h dX11_isHung_21
  · replace h := if_t c1 h
    refine lv_iload_n hx hb dX11_isHung_8 rfl (lv_at hl 1 rfl) ?_
    refine lv_aload_n hx hb dX11_isHung_9 rfl (lv_at hl 0 rfl) ?_
    refine r_getI C hP (iw hw (fi_11 hk0)) hk0 fl_X11_102 (Or.inl rfl) dX11_isHung_10 ?_
    refine lv_icmp_eq (tgt := 20) hx hb dX11_isHung_13 (by decide) (fun c2 => ?_) (fun c2 => ?_)
    · replace h := if_t c2 h
      refine lv_iconst (v := (0)) hx hb dX11_isHung_20 (by decide) ?_
      exact r_zret C hr hP hS h dX11_isHung_21
    · replace h := if_f c2 h
      refine lv_iconst (v := (1)) hx hb dX11_isHung_16 (by decide) ?_
      refine lv_goto (tgt := 21) hx hb dX11_isHung_17 (by decide) ?_
      exact r_zret C hr hP hS h dX11_isHung_21

def f_X11_isOpen (v0 : Nat) (v1 : Int32) (v2 : Int32) (μ : fMem) : Option (Int32 × fMem) :=
  if (μ.1 v0 47) = (1 : Int32) then gd (bl (1 : Int32)) (some ((1 : Int32), μ)) else gd (ixo v1 23) (if ((shr (μ.1 (v0 + 24) (Int32.toNatClampNeg v1)) v2) &&& (1 : Int32)) = 0 then gd (bl (1 : Int32)) (some ((1 : Int32), μ)) else gd (bl (0 : Int32)) (some ((0 : Int32), μ)))
def rm_X11_isOpen : Room := { frames := 0, cells := 0, slots := 0, locals := 0 }
set_option maxHeartbeats 4000000 in
set_option maxRecDepth 100000 in
theorem m_X11_isOpen (l : Launch) (w : fW) (hJ : fJ w) (hw : w.2.2.2 = sd 1) (v0 : Nat) (v1 : Int32) (v2 : Int32) (hk0 : kd v0 = (4, 11)) (μ : fMem) {r : Int32} {μr : fMem} (h : f_X11_isOpen v0 v1 v2 μ = some (r, μr)) : Met l yX11_isOpen (.code yX11_isOpen cX11_isOpen 3 (some .boolean) :: gw) rm_X11_isOpen (fPc w [.ref (w.2.2.1 v0), .int v1, .int v2] μ) (fQi w r μr) 0 0 (fA w) := by
  refine met_of hJ (by decide) ?_ (Nat.le_of_ble_eq_true rfl)
  generalize ([.ref (w.2.2.1 v0), .int v1, .int v2] : List Value).toArray = args
  intro p e s m below meth c ls C hr hP hl hS
  obtain ⟨hx, hb, hml, hown, hts, hK, -, hlk, hT⟩ := id C
  have hl : lv_has ls 3 [(0, .ref (w.2.2.1 v0)), (1, .int v1), (2, .int v2)] := hl
  unfold f_X11_isOpen at h
  refine lv_aload_n hx hb dX11_isOpen_0 rfl (lv_at hl 0 rfl) ?_
  refine r_getI C hP (iw hw (fi_11 hk0)) hk0 fl_X11_343 (Or.inl rfl) dX11_isOpen_1 ?_
  refine lv_iconst (v := (1)) hx hb dX11_isOpen_4 (by decide) ?_
  refine lv_icmp_eq (tgt := 21) hx hb dX11_isOpen_5 (by decide) (fun c1 => ?_) (fun c1 => ?_)
  · replace h := if_t c1 h
    refine lv_iconst (v := (1)) hx hb dX11_isOpen_21 (by decide) ?_
    refine lv_goto (tgt := 26) hx hb dX11_isOpen_22 (by decide) ?_
    exact r_zret C hr hP hS h dX11_isOpen_26
  · replace h := if_f c1 h
    refine lv_aload_n hx hb dX11_isOpen_8 rfl (lv_at hl 0 rfl) ?_
    refine r_getF (off := 24) C hP (iw hw (fi_11 hk0)) hk0 fl_X11_84 rfl rfl (zw hw) dX11_isOpen_9 ?_
    refine lv_iload_n hx hb dX11_isOpen_12 rfl (lv_at hl 1 rfl) ?_
    obtain ⟨g2, h⟩ := gd_ok h
    refine r_iald C hP (iw hw (ff_11_39 hk0).2) (ff_11_39 hk0).1 g2 dX11_isOpen_13 ?_
    refine lv_iload_n hx hb dX11_isOpen_14 rfl (lv_at hl 2 rfl) ?_
    refine r_ishr hx hb dX11_isOpen_15 ?_
    refine lv_iconst (v := (1)) hx hb dX11_isOpen_16 (by decide) ?_
    refine lv_iand hx hb dX11_isOpen_17 ?_
    refine lv_if_ne (tgt := 25) hx hb dX11_isOpen_18 (by decide) (fun c3 => ?_) (fun c3 => ?_)
    · replace h := if_f c3 h
      refine lv_iconst (v := (0)) hx hb dX11_isOpen_25 (by decide) ?_
      exact r_zret C hr hP hS h dX11_isOpen_26
    · replace h := if_t c3 h
      refine lv_iconst (v := (1)) hx hb dX11_isOpen_21 (by decide) ?_
      refine lv_goto (tgt := 26) hx hb dX11_isOpen_22 (by decide) ?_
      exact r_zret C hr hP hS h dX11_isOpen_26

def f_X11_calls_j105 (v0 : Nat) (v1 : Int32) (t0 : Nat) (t1 : Int32) (t2 : Int64) (μ : fMem) : Option (Unit × fMem) :=
  gd (ixo t1 7) (vl (sL μ t0 (Int32.toNatClampNeg t1) t2) fun μ18 => bd (f_X11_gaugeIn v0 v1 μ18) fun r21 μ20 => vl (sL μ20 (v0 + 20) 5 (r21.toInt64)) fun μ23 => gd (ixo v1 23) (vl (sL μ23 (v0 + 20) 6 (((μ23.1 (v0 + 22) (Int32.toNatClampNeg v1))).toInt64)) fun μ25 => some ((), μ25)))
def f_X11_calls_j43 (v0 : Nat) (v1 : Int32) (v2 : Int32) (v3 : Int32) (t0 : Nat) (t1 : Int32) (t2 : Int64) (μ : fMem) : Option (Unit × fMem) :=
  gd (ixo t1 7) (vl (sL μ t0 (Int32.toNatClampNeg t1) t2) fun μ7 => bd (f_X11_tasteIn v0 v2 μ7) fun r10 μ9 => vl (sL μ9 (v0 + 20) 2 (r10.toInt64)) fun μ12 => gd (ixo v2 12) (vl (sL μ12 (v0 + 20) 3 (((μ12.1 (v0 + 12) (Int32.toNatClampNeg v2))).toInt64)) fun μ14 => if v3 = (-1 : Int32) then f_X11_calls_j105 v0 v1 (v0 + 20) (4 : Int32) (0 : Int64) μ14 else gd (ixo (((8 : Int32) * v1) + v3) 184) (gd (ixo (((6 : Int32) * v1) + (μ14.1 (v0 + 25) (Int32.toNatClampNeg (((8 : Int32) * v1) + v3)))) 138) (f_X11_calls_j105 v0 v1 (v0 + 20) (4 : Int32) (((μ14.1 (v0 + 28) (Int32.toNatClampNeg (((6 : Int32) * v1) + (μ14.1 (v0 + 25) (Int32.toNatClampNeg (((8 : Int32) * v1) + v3))))))).toInt64) μ14))))
def f_X11_calls_j21 (v0 : Nat) (v1 : Int32) (v2 : Int32) (v3 : Int32) (t0 : Nat) (t1 : Int32) (t2 : Int64) (μ : fMem) : Option (Unit × fMem) :=
  gd (ixo t1 7) (vl (sL μ t0 (Int32.toNatClampNeg t1) t2) fun μ3 => if v3 = (-1 : Int32) then f_X11_calls_j43 v0 v1 v2 v3 (v0 + 20) (1 : Int32) (0 : Int64) μ3 else gd (ixo v3 16) (f_X11_calls_j43 v0 v1 v2 v3 (v0 + 20) (1 : Int32) (((μ3.1 (v0 + 8) (Int32.toNatClampNeg v3))).toInt64) μ3))
def f_X11_calls (v0 : Nat) (v1 : Int32) (v2 : Int32) (v3 : Int32) (μ : fMem) : Option (Unit × fMem) :=
  if v3 = (-1 : Int32) then f_X11_calls_j21 v0 v1 v2 v3 (v0 + 20) (0 : Int32) (0 : Int64) μ else gd (ixo v3 16) (f_X11_calls_j21 v0 v1 v2 v3 (v0 + 20) (0 : Int32) (((μ.1 (v0 + 9) (Int32.toNatClampNeg v3))).toInt64) μ)
def rm_X11_calls : Room := { frames := 2, cells := 0, slots := 0, locals := 42 }
set_option maxHeartbeats 4000000 in
set_option maxRecDepth 100000 in
theorem m_X11_calls (l : Launch) (w : fW) (hJ : fJ w) (hw : w.2.2.2 = sd 1) (v0 : Nat) (v1 : Int32) (v2 : Int32) (v3 : Int32) (hk0 : kd v0 = (4, 11)) (μ : fMem) {r : Unit} {μr : fMem} (h : f_X11_calls v0 v1 v2 v3 μ = some (r, μr)) : Met l yX11_calls (.code yX11_calls cX11_calls 4 none :: gw) rm_X11_calls (fPc w [.ref (w.2.2.1 v0), .int v1, .int v2, .int v3] μ) (fQv w μr) 0 0 (fA w) := by
  refine met_of hJ (by decide) ?_ (Nat.le_of_ble_eq_true rfl)
  generalize ([.ref (w.2.2.1 v0), .int v1, .int v2, .int v3] : List Value).toArray = args
  intro p e s m below meth c ls C hr hP hl hS
  obtain ⟨hx, hb, hml, hown, hts, hK, -, hlk, hT⟩ := id C
  have hl : lv_has ls 4 [(0, .ref (w.2.2.1 v0)), (1, .int v1), (2, .int v2), (3, .int v3)] := hl
  unfold f_X11_calls at h
  have J105 : ∀ (t0 : Nat) (t1 : Int32) (t2 : Int64) (μ : fMem) (_ : kd t0 = (2, 7)) (_ : inW w.2.2.2 t0), f_X11_calls_j105 v0 v1 t0 t1 t2 μ = some (r, μr) → WW p l e rm_X11_calls s m args below meth c (MQ below (fQv w μr) args s 0 0 (fA w)) w μ 4 105 [.long t2, .int t1, .ref (w.2.2.1 t0)] [(0, .ref (w.2.2.1 v0)), (1, .int v1)] := by
    intro t0 t1 t2 μ kt0 it0 h H locs ls hP hS hl
    unfold f_X11_calls_j105 at h
    obtain ⟨g19, h⟩ := gd_ok h
    refine r_last C hP hS it0 kt0 g19 dX11_calls_105 (fun H locs hP hS => ?_)
    obtain ⟨μ18, eμ18, h⟩ := vl_ex h
    have hP : fP w μ18 H := by rw [eμ18]; exact hP
    refine lv_aload_n hx hb dX11_calls_106 rfl (lv_at hl 0 rfl) ?_
    refine r_getF (off := 20) C hP (iw hw (fi_11 hk0)) hk0 fl_X11_71 rfl rfl (zw hw) dX11_calls_107 ?_
    refine lv_iconst (v := (5)) hx hb dX11_calls_110 (by decide) ?_
    refine lv_aload_n hx hb dX11_calls_111 rfl (lv_at hl 0 rfl) ?_
    refine lv_iload_n hx hb dX11_calls_112 rfl (lv_at hl 1 rfl) ?_
    obtain ⟨r21, μ20, h22, h⟩ := bd_ok h
    refine go_i (callV_run (As := [.int v1]) (rest := [.int (5 : Int32), .ref (w.2.2.1 (v0 + 20))]) C hl hP (hS.wide hJ).2.1 (iw hw (fi_11 hk0)) hk0 (m_X11_gaugeIn l w hJ hw v0 v1 hk0 μ18 h22) mv_X11_349 ⟨rfl, rfl, by decide, by decide⟩ rfl rfl (Nat.le_of_ble_eq_true rfl) ⟨Nat.zero_le _, Nat.zero_le _⟩ dX11_calls_113) hS (fun H locs hP hS => ?_)
    refine lv_i2l hx hb dX11_calls_116 rfl ?_
    refine n_last (j := 5) C hP hS (iw hw (ff_11_34 hk0).2) (ff_11_34 hk0).1 (by decide) (by decide) dX11_calls_117 (fun H locs hP hS => ?_)
    obtain ⟨μ23, eμ23, h⟩ := vl_ex h
    have hP : fP w μ23 H := by rw [eμ23]; exact hP
    refine lv_aload_n hx hb dX11_calls_118 rfl (lv_at hl 0 rfl) ?_
    refine r_getF (off := 20) C hP (iw hw (fi_11 hk0)) hk0 fl_X11_71 rfl rfl (zw hw) dX11_calls_119 ?_
    refine lv_bipush (v := (6)) hx hb dX11_calls_122 (by decide) ?_
    refine lv_aload_n hx hb dX11_calls_124 rfl (lv_at hl 0 rfl) ?_
    refine r_getF (off := 22) C hP (iw hw (fi_11 hk0)) hk0 fl_X11_78 rfl rfl (zw hw) dX11_calls_125 ?_
    refine lv_iload_n hx hb dX11_calls_128 rfl (lv_at hl 1 rfl) ?_
    obtain ⟨g24, h⟩ := gd_ok h
    refine r_iald C hP (iw hw (ff_11_37 hk0).2) (ff_11_37 hk0).1 g24 dX11_calls_129 ?_
    refine lv_i2l hx hb dX11_calls_130 rfl ?_
    refine n_last (j := 6) C hP hS (iw hw (ff_11_34 hk0).2) (ff_11_34 hk0).1 (by decide) (by decide) dX11_calls_131 (fun H locs hP hS => ?_)
    obtain ⟨μ25, eμ25, h⟩ := vl_ex h
    have hP : fP w μ25 H := by rw [eμ25]; exact hP
    exact r_vret C hr hP hS h dX11_calls_132
  have J43 : ∀ (t0 : Nat) (t1 : Int32) (t2 : Int64) (μ : fMem) (_ : kd t0 = (2, 7)) (_ : inW w.2.2.2 t0), f_X11_calls_j43 v0 v1 v2 v3 t0 t1 t2 μ = some (r, μr) → WW p l e rm_X11_calls s m args below meth c (MQ below (fQv w μr) args s 0 0 (fA w)) w μ 4 43 [.long t2, .int t1, .ref (w.2.2.1 t0)] [(0, .ref (w.2.2.1 v0)), (1, .int v1), (2, .int v2), (3, .int v3)] := by
    intro t0 t1 t2 μ kt0 it0 h H locs ls hP hS hl
    unfold f_X11_calls_j43 at h
    obtain ⟨g8, h⟩ := gd_ok h
    refine r_last C hP hS it0 kt0 g8 dX11_calls_43 (fun H locs hP hS => ?_)
    obtain ⟨μ7, eμ7, h⟩ := vl_ex h
    have hP : fP w μ7 H := by rw [eμ7]; exact hP
    refine lv_aload_n hx hb dX11_calls_44 rfl (lv_at hl 0 rfl) ?_
    refine r_getF (off := 20) C hP (iw hw (fi_11 hk0)) hk0 fl_X11_71 rfl rfl (zw hw) dX11_calls_45 ?_
    refine lv_iconst (v := (2)) hx hb dX11_calls_48 (by decide) ?_
    refine lv_aload_n hx hb dX11_calls_49 rfl (lv_at hl 0 rfl) ?_
    refine lv_iload_n hx hb dX11_calls_50 rfl (lv_at hl 2 rfl) ?_
    obtain ⟨r10, μ9, h11, h⟩ := bd_ok h
    refine go_i (callV_run (As := [.int v2]) (rest := [.int (2 : Int32), .ref (w.2.2.1 (v0 + 20))]) C hl hP (hS.wide hJ).2.1 (iw hw (fi_11 hk0)) hk0 (m_X11_tasteIn l w hJ hw v0 v2 hk0 μ7 h11) mv_X11_346 ⟨rfl, rfl, by decide, by decide⟩ rfl rfl (Nat.le_of_ble_eq_true rfl) ⟨Nat.zero_le _, Nat.zero_le _⟩ dX11_calls_51) hS (fun H locs hP hS => ?_)
    refine lv_i2l hx hb dX11_calls_54 rfl ?_
    refine n_last (j := 2) C hP hS (iw hw (ff_11_34 hk0).2) (ff_11_34 hk0).1 (by decide) (by decide) dX11_calls_55 (fun H locs hP hS => ?_)
    obtain ⟨μ12, eμ12, h⟩ := vl_ex h
    have hP : fP w μ12 H := by rw [eμ12]; exact hP
    refine lv_aload_n hx hb dX11_calls_56 rfl (lv_at hl 0 rfl) ?_
    refine r_getF (off := 20) C hP (iw hw (fi_11 hk0)) hk0 fl_X11_71 rfl rfl (zw hw) dX11_calls_57 ?_
    refine lv_iconst (v := (3)) hx hb dX11_calls_60 (by decide) ?_
    refine lv_aload_n hx hb dX11_calls_61 rfl (lv_at hl 0 rfl) ?_
    refine r_getF (off := 12) C hP (iw hw (fi_11 hk0)) hk0 fl_X11_43 rfl rfl (zw hw) dX11_calls_62 ?_
    refine lv_iload_n hx hb dX11_calls_65 rfl (lv_at hl 2 rfl) ?_
    obtain ⟨g13, h⟩ := gd_ok h
    refine r_iald C hP (iw hw (ff_11_13 hk0).2) (ff_11_13 hk0).1 g13 dX11_calls_66 ?_
    refine lv_i2l hx hb dX11_calls_67 rfl ?_
    refine n_last (j := 3) C hP hS (iw hw (ff_11_34 hk0).2) (ff_11_34 hk0).1 (by decide) (by decide) dX11_calls_68 (fun H locs hP hS => ?_)
    obtain ⟨μ14, eμ14, h⟩ := vl_ex h
    have hP : fP w μ14 H := by rw [eμ14]; exact hP
    refine lv_aload_n hx hb dX11_calls_69 rfl (lv_at hl 0 rfl) ?_
    refine r_getF (off := 20) C hP (iw hw (fi_11 hk0)) hk0 fl_X11_71 rfl rfl (zw hw) dX11_calls_70 ?_
    refine lv_iconst (v := (4)) hx hb dX11_calls_73 (by decide) ?_
    refine lv_iload_n hx hb dX11_calls_74 rfl (lv_at hl 3 rfl) ?_
    refine lv_iconst (v := (-1)) hx hb dX11_calls_75 (by decide) ?_
    refine lv_icmp_ne (tgt := 83) hx hb dX11_calls_76 (by decide) (fun c15 => ?_) (fun c15 => ?_)
    · replace h := if_f c15 h
      refine lv_aload_n hx hb dX11_calls_83 rfl (lv_at hl 0 rfl) ?_
      refine r_getF (off := 28) C hP (iw hw (fi_11 hk0)) hk0 fl_X11_96 rfl rfl (zw hw) dX11_calls_84 ?_
      refine lv_bipush (v := (6)) hx hb dX11_calls_87 (by decide) ?_
      refine lv_iload_n hx hb dX11_calls_89 rfl (lv_at hl 1 rfl) ?_
      refine lv_imul hx hb dX11_calls_90 ?_
      refine lv_aload_n hx hb dX11_calls_91 rfl (lv_at hl 0 rfl) ?_
      refine r_getF (off := 25) C hP (iw hw (fi_11 hk0)) hk0 fl_X11_87 rfl rfl (zw hw) dX11_calls_92 ?_
      refine lv_bipush (v := (8)) hx hb dX11_calls_95 (by decide) ?_
      refine lv_iload_n hx hb dX11_calls_97 rfl (lv_at hl 1 rfl) ?_
      refine lv_imul hx hb dX11_calls_98 ?_
      refine lv_iload_n hx hb dX11_calls_99 rfl (lv_at hl 3 rfl) ?_
      refine lv_iadd hx hb dX11_calls_100 ?_
      obtain ⟨g16, h⟩ := gd_ok h
      refine r_iald C hP (iw hw (ff_11_40 hk0).2) (ff_11_40 hk0).1 g16 dX11_calls_101 ?_
      refine lv_iadd hx hb dX11_calls_102 ?_
      obtain ⟨g17, h⟩ := gd_ok h
      refine r_iald C hP (iw hw (ff_11_43 hk0).2) (ff_11_43 hk0).1 g17 dX11_calls_103 ?_
      refine lv_i2l hx hb dX11_calls_104 rfl ?_
      exact J105 (v0 + 20) (4 : Int32) (((μ14.1 (v0 + 28) (Int32.toNatClampNeg (((6 : Int32) * v1) + (μ14.1 (v0 + 25) (Int32.toNatClampNeg (((8 : Int32) * v1) + v3))))))).toInt64) μ14 (ff_11_34 hk0).1 (iw hw (ff_11_34 hk0).2) h _ _ _ hP hS (lv_sub hl [0, 1] rfl)
    · replace h := if_t c15 h
      refine lv_lconst (v := 0) hx hb dX11_calls_79 (by decide) ?_
      refine lv_goto (tgt := 105) hx hb dX11_calls_80 (by decide) ?_
      exact J105 (v0 + 20) (4 : Int32) (0 : Int64) μ14 (ff_11_34 hk0).1 (iw hw (ff_11_34 hk0).2) h _ _ _ hP hS (lv_sub hl [0, 1] rfl)
  have J21 : ∀ (t0 : Nat) (t1 : Int32) (t2 : Int64) (μ : fMem) (_ : kd t0 = (2, 7)) (_ : inW w.2.2.2 t0), f_X11_calls_j21 v0 v1 v2 v3 t0 t1 t2 μ = some (r, μr) → WW p l e rm_X11_calls s m args below meth c (MQ below (fQv w μr) args s 0 0 (fA w)) w μ 4 21 [.long t2, .int t1, .ref (w.2.2.1 t0)] [(0, .ref (w.2.2.1 v0)), (1, .int v1), (2, .int v2), (3, .int v3)] := by
    intro t0 t1 t2 μ kt0 it0 h H locs ls hP hS hl
    unfold f_X11_calls_j21 at h
    obtain ⟨g4, h⟩ := gd_ok h
    refine r_last C hP hS it0 kt0 g4 dX11_calls_21 (fun H locs hP hS => ?_)
    obtain ⟨μ3, eμ3, h⟩ := vl_ex h
    have hP : fP w μ3 H := by rw [eμ3]; exact hP
    refine lv_aload_n hx hb dX11_calls_22 rfl (lv_at hl 0 rfl) ?_
    refine r_getF (off := 20) C hP (iw hw (fi_11 hk0)) hk0 fl_X11_71 rfl rfl (zw hw) dX11_calls_23 ?_
    refine lv_iconst (v := (1)) hx hb dX11_calls_26 (by decide) ?_
    refine lv_iload_n hx hb dX11_calls_27 rfl (lv_at hl 3 rfl) ?_
    refine lv_iconst (v := (-1)) hx hb dX11_calls_28 (by decide) ?_
    refine lv_icmp_ne (tgt := 36) hx hb dX11_calls_29 (by decide) (fun c5 => ?_) (fun c5 => ?_)
    · replace h := if_f c5 h
      refine lv_aload_n hx hb dX11_calls_36 rfl (lv_at hl 0 rfl) ?_
      refine r_getF (off := 8) C hP (iw hw (fi_11 hk0)) hk0 fl_X11_31 rfl rfl (zw hw) dX11_calls_37 ?_
      refine lv_iload_n hx hb dX11_calls_40 rfl (lv_at hl 3 rfl) ?_
      obtain ⟨g6, h⟩ := gd_ok h
      refine r_iald C hP (iw hw (ff_11_9 hk0).2) (ff_11_9 hk0).1 g6 dX11_calls_41 ?_
      refine lv_i2l hx hb dX11_calls_42 rfl ?_
      exact J43 (v0 + 20) (1 : Int32) (((μ3.1 (v0 + 8) (Int32.toNatClampNeg v3))).toInt64) μ3 (ff_11_34 hk0).1 (iw hw (ff_11_34 hk0).2) h _ _ _ hP hS (lv_sub hl [0, 1, 2, 3] rfl)
    · replace h := if_t c5 h
      refine lv_lconst (v := 0) hx hb dX11_calls_32 (by decide) ?_
      refine lv_goto (tgt := 43) hx hb dX11_calls_33 (by decide) ?_
      exact J43 (v0 + 20) (1 : Int32) (0 : Int64) μ3 (ff_11_34 hk0).1 (iw hw (ff_11_34 hk0).2) h _ _ _ hP hS (lv_sub hl [0, 1, 2, 3] rfl)
  refine lv_aload_n hx hb dX11_calls_0 rfl (lv_at hl 0 rfl) ?_
  refine r_getF (off := 20) C hP (iw hw (fi_11 hk0)) hk0 fl_X11_71 rfl rfl (zw hw) dX11_calls_1 ?_
  refine lv_iconst (v := (0)) hx hb dX11_calls_4 (by decide) ?_
  refine lv_iload_n hx hb dX11_calls_5 rfl (lv_at hl 3 rfl) ?_
  refine lv_iconst (v := (-1)) hx hb dX11_calls_6 (by decide) ?_
  refine lv_icmp_ne (tgt := 14) hx hb dX11_calls_7 (by decide) (fun c1 => ?_) (fun c1 => ?_)
  · replace h := if_f c1 h
    refine lv_aload_n hx hb dX11_calls_14 rfl (lv_at hl 0 rfl) ?_
    refine r_getF (off := 9) C hP (iw hw (fi_11 hk0)) hk0 fl_X11_34 rfl rfl (zw hw) dX11_calls_15 ?_
    refine lv_iload_n hx hb dX11_calls_18 rfl (lv_at hl 3 rfl) ?_
    obtain ⟨g2, h⟩ := gd_ok h
    refine r_iald C hP (iw hw (ff_11_10 hk0).2) (ff_11_10 hk0).1 g2 dX11_calls_19 ?_
    refine lv_i2l hx hb dX11_calls_20 rfl ?_
    exact J21 (v0 + 20) (0 : Int32) (((μ.1 (v0 + 9) (Int32.toNatClampNeg v3))).toInt64) μ (ff_11_34 hk0).1 (iw hw (ff_11_34 hk0).2) h _ _ _ hP hS (lv_sub hl [0, 1, 2, 3] rfl)
  · replace h := if_t c1 h
    refine lv_lconst (v := 0) hx hb dX11_calls_10 (by decide) ?_
    refine lv_goto (tgt := 21) hx hb dX11_calls_11 (by decide) ?_
    exact J21 (v0 + 20) (0 : Int32) (0 : Int64) μ (ff_11_34 hk0).1 (iw hw (ff_11_34 hk0).2) h _ _ _ hP hS (lv_sub hl [0, 1, 2, 3] rfl)

def f_X11_within (v0 : Nat) (v1 : Int32) (v2 : Int32) (v3 : Int32) (μ : fMem) : Option (Int32 × fMem) :=
  bd (f_X11_hasLaw v0 v1 μ) fun r2 μ1 => if r2 = 0 then some (v3, μ1) else bd (f_X11_goes v0 v1 μ1) fun r6 μ5 => if r6 = 0 then some (v3, μ5) else some ((Int64.toInt32 (lmx (0 : Int64) (lmn (v2.toInt64) (μ5.2.1 (v0 + 21) 0)))), μ5)
def rm_X11_within : Room := { frames := 3, cells := 0, slots := 0, locals := 129 }
set_option maxHeartbeats 4000000 in
set_option maxRecDepth 100000 in
theorem m_X11_within (l : Launch) (w : fW) (hJ : fJ w) (hw : w.2.2.2 = sd 1) (v0 : Nat) (v1 : Int32) (v2 : Int32) (v3 : Int32) (hk0 : kd v0 = (4, 11)) (μ : fMem) {r : Int32} {μr : fMem} (h : f_X11_within v0 v1 v2 v3 μ = some (r, μr)) : Met l yX11_within (.code yX11_within cX11_within 4 (some .int) :: gw) rm_X11_within (fPc w [.ref (w.2.2.1 v0), .int v1, .int v2, .int v3] μ) (fQi w r μr) 0 0 (fA w) := by
  refine met_of hJ (by decide) ?_ (Nat.le_of_ble_eq_true rfl)
  generalize ([.ref (w.2.2.1 v0), .int v1, .int v2, .int v3] : List Value).toArray = args
  intro p e s m below meth c ls C hr hP hl hS
  obtain ⟨hx, hb, hml, hown, hts, hK, -, hlk, hT⟩ := id C
  have hl : lv_has ls 4 [(0, .ref (w.2.2.1 v0)), (1, .int v1), (2, .int v2), (3, .int v3)] := hl
  unfold f_X11_within at h
  refine lv_aload_n hx hb dX11_within_0 rfl (lv_at hl 0 rfl) ?_
  refine lv_iload_n hx hb dX11_within_1 rfl (lv_at hl 1 rfl) ?_
  obtain ⟨r2, μ1, h3, h⟩ := bd_ok h
  refine go_i (callV_run (As := [.int v1]) (rest := []) C hl hP (hS.wide hJ).2.1 (iw hw (fi_11 hk0)) hk0 (m_X11_hasLaw l w hJ hw v0 v1 hk0 μ h3) mv_X11_352 ⟨rfl, rfl, by decide, by decide⟩ rfl rfl (Nat.le_of_ble_eq_true rfl) ⟨Nat.zero_le _, Nat.zero_le _⟩ dX11_within_2) hS (fun H locs hP hS => ?_)
  refine lv_if_eq (tgt := 16) hx hb dX11_within_5 (by decide) (fun c4 => ?_) (fun c4 => ?_)
  · replace h := if_t c4 h
    refine lv_iload_n hx hb dX11_within_16 rfl (lv_at hl 3 rfl) ?_
    exact r_iret C hr hP hS h dX11_within_17
  · replace h := if_f c4 h
    refine lv_aload_n hx hb dX11_within_8 rfl (lv_at hl 0 rfl) ?_
    refine lv_iload_n hx hb dX11_within_9 rfl (lv_at hl 1 rfl) ?_
    obtain ⟨r6, μ5, h7, h⟩ := bd_ok h
    refine go_i (callV_run (As := [.int v1]) (rest := []) C hl hP (hS.wide hJ).2.1 (iw hw (fi_11 hk0)) hk0 (m_X11_goes l w hJ hw v0 v1 hk0 μ1 h7) mv_X11_355 ⟨rfl, rfl, by decide, by decide⟩ rfl rfl (Nat.le_of_ble_eq_true rfl) ⟨Nat.zero_le _, Nat.zero_le _⟩ dX11_within_10) hS (fun H locs hP hS => ?_)
    refine lv_if_ne (tgt := 18) hx hb dX11_within_13 (by decide) (fun c8 => ?_) (fun c8 => ?_)
    · replace h := if_f c8 h
      refine lv_lconst (v := 0) hx hb dX11_within_18 (by decide) ?_
      refine lv_iload_n hx hb dX11_within_19 rfl (lv_at hl 2 rfl) ?_
      refine lv_i2l hx hb dX11_within_20 rfl ?_
      refine lv_aload_n hx hb dX11_within_21 rfl (lv_at hl 0 rfl) ?_
      refine r_getF (off := 21) C hP (iw hw (fi_11 hk0)) hk0 fl_X11_75 rfl rfl (zw hw) dX11_within_22 ?_
      refine lv_iconst (v := (0)) hx hb dX11_within_25 (by decide) ?_
      refine n_lald (j := 0) C hP (iw hw (ff_11_35 hk0).2) (ff_11_35 hk0).1 (by decide) (by decide) dX11_within_26 ?_
      refine b_lmin (rest := [.long (0 : Int64)]) C hl mm_X11_358 (by decide) (Nat.le_of_ble_eq_true rfl) dX11_within_27 ?_
      refine b_lmax (rest := []) C hl mm_X11_362 (by decide) (Nat.le_of_ble_eq_true rfl) dX11_within_30 ?_
      refine lv_l2i hx hb dX11_within_33 rfl ?_
      exact r_iret C hr hP hS h dX11_within_34
    · replace h := if_t c8 h
      refine lv_iload_n hx hb dX11_within_16 rfl (lv_at hl 3 rfl) ?_
      exact r_iret C hr hP hS h dX11_within_17

def f_X11_likingOf_j48 (v0 : Nat) (t0 : Int32) (t1 : Int32) (μ : fMem) : Option (Int32 × fMem) :=
  vl (t0 + t1) fun x11 => bd (f_X11_within v0 (0 : Int32) (99 : Int32) x11 μ) fun r13 μ12 => some (r13, μ12)
def f_X11_likingOf (v0 : Nat) (v1 : Int32) (v2 : Int32) (v3 : Int32) (μ : fMem) : Option (Int32 × fMem) :=
  bd (f_X11_calls v0 v1 v2 v3 μ) fun r2 μ1 => gd (ixo v3 16) (bd (f_X11_tasteIn v0 v2 μ1) fun r6 μ5 => gd (ixo v3 16) (gd (ixo v2 12) (if (μ5.1 (v0 + 8) (Int32.toNatClampNeg v3)) = (μ5.1 (v0 + 12) (Int32.toNatClampNeg v2)) then f_X11_likingOf_j48 v0 ((50 : Int32) - ((5 : Int32) * (iab ((μ1.1 (v0 + 9) (Int32.toNatClampNeg v3)) - r6)))) (20 : Int32) μ5 else f_X11_likingOf_j48 v0 ((50 : Int32) - ((5 : Int32) * (iab ((μ1.1 (v0 + 9) (Int32.toNatClampNeg v3)) - r6)))) (0 : Int32) μ5)))
def rm_X11_likingOf : Room := { frames := 4, cells := 0, slots := 0, locals := 152 }
set_option maxHeartbeats 4000000 in
set_option maxRecDepth 100000 in
theorem m_X11_likingOf (l : Launch) (w : fW) (hJ : fJ w) (hw : w.2.2.2 = sd 1) (v0 : Nat) (v1 : Int32) (v2 : Int32) (v3 : Int32) (hk0 : kd v0 = (4, 11)) (μ : fMem) {r : Int32} {μr : fMem} (h : f_X11_likingOf v0 v1 v2 v3 μ = some (r, μr)) : Met l yX11_likingOf (.code yX11_likingOf cX11_likingOf 5 (some .int) :: gw) rm_X11_likingOf (fPc w [.ref (w.2.2.1 v0), .int v1, .int v2, .int v3] μ) (fQi w r μr) 0 0 (fA w) := by
  refine met_of hJ (by decide) ?_ (Nat.le_of_ble_eq_true rfl)
  generalize ([.ref (w.2.2.1 v0), .int v1, .int v2, .int v3] : List Value).toArray = args
  intro p e s m below meth c ls C hr hP hl hS
  obtain ⟨hx, hb, hml, hown, hts, hK, -, hlk, hT⟩ := id C
  have hl : lv_has ls 5 [(0, .ref (w.2.2.1 v0)), (1, .int v1), (2, .int v2), (3, .int v3)] := hl
  unfold f_X11_likingOf at h
  have J48 : ∀ (t0 : Int32) (t1 : Int32) (μ : fMem), f_X11_likingOf_j48 v0 t0 t1 μ = some (r, μr) → WW p l e rm_X11_likingOf s m args below meth c (MQ below (fQi w r μr) args s 0 0 (fA w)) w μ 5 48 [.int t1, .int t0] [(0, .ref (w.2.2.1 v0))] := by
    intro t0 t1 μ  h H locs ls hP hS hl
    unfold f_X11_likingOf_j48 at h
    refine lv_iadd hx hb dX11_likingOf_48 ?_
    refine lv_topi (fun x11 ex11 => ?_)
    replace h := vl_ok ex11 h
    refine lv_istore (lv' := [(4, .int x11), (0, .ref (w.2.2.1 v0))]) hx hb dX11_likingOf_49 hl (by decide) rfl (fun ls hl => ?_)
    refine lv_aload_n hx hb dX11_likingOf_51 rfl (lv_at hl 1 rfl) ?_
    refine lv_iconst (v := (0)) hx hb dX11_likingOf_52 (by decide) ?_
    refine lv_bipush (v := (99)) hx hb dX11_likingOf_53 (by decide) ?_
    refine lv_iload hx hb dX11_likingOf_55 (lv_at hl 0 rfl) ?_
    obtain ⟨r13, μ12, h14, h⟩ := bd_ok h
    refine go_i (callV_run (As := [.int (0 : Int32), .int (99 : Int32), .int x11]) (rest := []) C hl hP (hS.wide hJ).2.1 (iw hw (fi_11 hk0)) hk0 (m_X11_within l w hJ hw v0 (0 : Int32) (99 : Int32) x11 hk0 μ h14) mv_X11_371 ⟨rfl, rfl, by decide, by decide⟩ rfl rfl (Nat.le_of_ble_eq_true rfl) ⟨Nat.zero_le _, Nat.zero_le _⟩ dX11_likingOf_57) hS (fun H locs hP hS => ?_)
    exact r_iret C hr hP hS h dX11_likingOf_60
  refine lv_aload_n hx hb dX11_likingOf_0 rfl (lv_at hl 0 rfl) ?_
  refine lv_iload_n hx hb dX11_likingOf_1 rfl (lv_at hl 1 rfl) ?_
  refine lv_iload_n hx hb dX11_likingOf_2 rfl (lv_at hl 2 rfl) ?_
  refine lv_iload_n hx hb dX11_likingOf_3 rfl (lv_at hl 3 rfl) ?_
  obtain ⟨r2, μ1, h3, h⟩ := bd_ok h
  refine go_v (callV_run (As := [.int v1, .int v2, .int v3]) (rest := []) C hl hP (hS.wide hJ).2.1 (iw hw (fi_11 hk0)) hk0 (m_X11_calls l w hJ hw v0 v1 v2 v3 hk0 μ h3) mv_X11_365 ⟨rfl, rfl, by decide, by decide⟩ rfl rfl (Nat.le_of_ble_eq_true rfl) ⟨Nat.zero_le _, Nat.zero_le _⟩ dX11_likingOf_4) hS (fun H locs hP hS => ?_)
  refine lv_bipush (v := (50)) hx hb dX11_likingOf_7 (by decide) ?_
  refine lv_iconst (v := (5)) hx hb dX11_likingOf_9 (by decide) ?_
  refine lv_aload_n hx hb dX11_likingOf_10 rfl (lv_at hl 0 rfl) ?_
  refine r_getF (off := 9) C hP (iw hw (fi_11 hk0)) hk0 fl_X11_34 rfl rfl (zw hw) dX11_likingOf_11 ?_
  refine lv_iload_n hx hb dX11_likingOf_14 rfl (lv_at hl 3 rfl) ?_
  obtain ⟨g4, h⟩ := gd_ok h
  refine r_iald C hP (iw hw (ff_11_10 hk0).2) (ff_11_10 hk0).1 g4 dX11_likingOf_15 ?_
  refine lv_aload_n hx hb dX11_likingOf_16 rfl (lv_at hl 0 rfl) ?_
  refine lv_iload_n hx hb dX11_likingOf_17 rfl (lv_at hl 2 rfl) ?_
  obtain ⟨r6, μ5, h7, h⟩ := bd_ok h
  refine go_i (callV_run (As := [.int v2]) (rest := [.int (μ1.1 (v0 + 9) (Int32.toNatClampNeg v3)), .int (5 : Int32), .int (50 : Int32)]) C hl hP (hS.wide hJ).2.1 (iw hw (fi_11 hk0)) hk0 (m_X11_tasteIn l w hJ hw v0 v2 hk0 μ1 h7) mv_X11_346 ⟨rfl, rfl, by decide, by decide⟩ rfl rfl (Nat.le_of_ble_eq_true rfl) ⟨Nat.zero_le _, Nat.zero_le _⟩ dX11_likingOf_18) hS (fun H locs hP hS => ?_)
  refine lv_isub hx hb dX11_likingOf_21 ?_
  refine b_mabs (rest := [.int (5 : Int32), .int (50 : Int32)]) C hl mm_X11_369 (by decide) (Nat.le_of_ble_eq_true rfl) dX11_likingOf_22 ?_
  refine lv_imul hx hb dX11_likingOf_25 ?_
  refine lv_isub hx hb dX11_likingOf_26 ?_
  refine lv_aload_n hx hb dX11_likingOf_27 rfl (lv_at hl 0 rfl) ?_
  refine r_getF (off := 8) C hP (iw hw (fi_11 hk0)) hk0 fl_X11_31 rfl rfl (zw hw) dX11_likingOf_28 ?_
  refine lv_iload_n hx hb dX11_likingOf_31 rfl (lv_at hl 3 rfl) ?_
  obtain ⟨g8, h⟩ := gd_ok h
  refine r_iald C hP (iw hw (ff_11_9 hk0).2) (ff_11_9 hk0).1 g8 dX11_likingOf_32 ?_
  refine lv_aload_n hx hb dX11_likingOf_33 rfl (lv_at hl 0 rfl) ?_
  refine r_getF (off := 12) C hP (iw hw (fi_11 hk0)) hk0 fl_X11_43 rfl rfl (zw hw) dX11_likingOf_34 ?_
  refine lv_iload_n hx hb dX11_likingOf_37 rfl (lv_at hl 2 rfl) ?_
  obtain ⟨g9, h⟩ := gd_ok h
  refine r_iald C hP (iw hw (ff_11_13 hk0).2) (ff_11_13 hk0).1 g9 dX11_likingOf_38 ?_
  refine lv_icmp_ne (tgt := 47) hx hb dX11_likingOf_39 (by decide) (fun c10 => ?_) (fun c10 => ?_)
  · replace h := if_f c10 h
    refine lv_iconst (v := (0)) hx hb dX11_likingOf_47 (by decide) ?_
    exact J48 ((50 : Int32) - ((5 : Int32) * (iab ((μ1.1 (v0 + 9) (Int32.toNatClampNeg v3)) - r6)))) (0 : Int32) μ5  h _ _ _ hP hS (lv_sub hl [0] rfl)
  · replace h := if_t c10 h
    refine lv_bipush (v := (20)) hx hb dX11_likingOf_42 (by decide) ?_
    refine lv_goto (tgt := 48) hx hb dX11_likingOf_44 (by decide) ?_
    exact J48 ((50 : Int32) - ((5 : Int32) * (iab ((μ1.1 (v0 + 9) (Int32.toNatClampNeg v3)) - r6)))) (20 : Int32) μ5  h _ _ _ hP hS (lv_sub hl [0] rfl)

def f_X11_likingFor_L6 (v0 : Nat) (v1 : Int32) (v2 : Int32) (v3 : Int32) (v4 : Int32) (v5 : Int32) (μ : fMem) : Option (Nat × (Int32 × Int32 × fMem)) :=
  if (μ.1 (v0 + 2) 2) ≤ v5 then some (1, (v4, v5, μ)) else bd (f_X11_isHung v0 v5 μ) fun r3 μ2 => if r3 = 0 then vl (v5 + (1 : Int32)) fun x6 => some (0, (v4, x6, μ2)) else gd (ixo (((8 : Int32) * v1) + v5) 184) (if (μ2.1 (v0 + 25) (Int32.toNatClampNeg (((8 : Int32) * v1) + v5))) = v3 then bd (f_X11_likingOf v0 v1 v2 v5 μ2) fun r11 μ10 => vl (v4 + r11) fun x13 => vl (v5 + (1 : Int32)) fun x14 => some (0, (x13, x14, μ10)) else vl (v5 + (1 : Int32)) fun x9 => some (0, (v4, x9, μ2)))
def f_X11_likingFor (v0 : Nat) (v1 : Int32) (v2 : Int32) (v3 : Int32) (μ : fMem) : Option (Int32 × fMem) :=
  bd (lpn (fun (q : Int32 × Int32 × fMem) => f_X11_likingFor_L6 v0 v1 v2 v3 q.1 q.2.1 q.2.2) fuel ((0 : Int32), (0 : Int32), μ)) fun t15 q16 => (fun (x17 : Int32) (x18 : Int32) (μ19 : fMem) => some (x17, μ19)) q16.1 q16.2.1 q16.2.2
def rm_X11_likingFor : Room := { frames := 5, cells := 0, slots := 0, locals := 176 }
set_option maxHeartbeats 4000000 in
set_option maxRecDepth 100000 in
theorem m_X11_likingFor (l : Launch) (w : fW) (hJ : fJ w) (hw : w.2.2.2 = sd 1) (v0 : Nat) (v1 : Int32) (v2 : Int32) (v3 : Int32) (hk0 : kd v0 = (4, 11)) (μ : fMem) {r : Int32} {μr : fMem} (h : f_X11_likingFor v0 v1 v2 v3 μ = some (r, μr)) : Met l yX11_likingFor (.code yX11_likingFor cX11_likingFor 6 (some .int) :: gw) rm_X11_likingFor (fPc w [.ref (w.2.2.1 v0), .int v1, .int v2, .int v3] μ) (fQi w r μr) 0 0 (fA w) := by
  refine met_of hJ (by decide) ?_ (Nat.le_of_ble_eq_true rfl)
  generalize ([.ref (w.2.2.1 v0), .int v1, .int v2, .int v3] : List Value).toArray = args
  intro p e s m below meth c ls C hr hP hl hS
  obtain ⟨hx, hb, hml, hown, hts, hK, -, hlk, hT⟩ := id C
  have hl : lv_has ls 6 [(0, .ref (w.2.2.1 v0)), (1, .int v1), (2, .int v2), (3, .int v3)] := hl
  unfold f_X11_likingFor at h
  refine lv_iconst (v := (0)) hx hb dX11_likingFor_0 (by decide) ?_
  refine lv_istore (lv' := [(4, .int (0 : Int32)), (0, .ref (w.2.2.1 v0)), (1, .int v1), (2, .int v2), (3, .int v3)]) hx hb dX11_likingFor_1 hl (by decide) rfl (fun ls hl => ?_)
  refine lv_iconst (v := (0)) hx hb dX11_likingFor_3 (by decide) ?_
  refine lv_istore (lv' := [(5, .int (0 : Int32)), (4, .int (0 : Int32)), (0, .ref (w.2.2.1 v0)), (1, .int v1), (2, .int v2), (3, .int v3)]) hx hb dX11_likingFor_4 hl (by decide) rfl (fun ls hl => ?_)
  obtain ⟨t15, q16, h20, h⟩ := bd_ok h
  refine lpn_ind (b := (fun (q : Int32 × Int32 × fMem) => f_X11_likingFor_L6 v0 v1 v2 v3 q.1 q.2.1 q.2.2)) (P := fun (q : Int32 × Int32 × fMem) => WW p l e rm_X11_likingFor s m args below meth c (MQ below (fQi w r μr) args s 0 0 (fA w)) w q.2.2 6 6 [] [(0, .ref (w.2.2.1 v0)), (1, .int v1), (2, .int v2), (3, .int v3), (4, .int q.1), (5, .int q.2.1)]) (K := fun _ (q : Int32 × Int32 × fMem) => WW p l e rm_X11_likingFor s m args below meth c (MQ below (fQi w r μr) args s 0 0 (fA w)) w q.2.2 6 61 [] [(4, .int q.1)]) ?_ fuel ((0 : Int32), (0 : Int32), μ) t15 q16 h20 ?_ _ _ _ hP hS (lv_sub hl [2, 3, 4, 5, 1, 0] rfl)
  · intro q tz6 sz6 h hP0_6 hK0_6 H locs ls hP hS hl
    obtain ⟨v4, v5, μ⟩ := q
    have hP : fP w μ H := hP
    have hl : lv_has ls 6 [(0, .ref (w.2.2.1 v0)), (1, .int v1), (2, .int v2), (3, .int v3), (4, .int v4), (5, .int v5)] := hl
    have h : f_X11_likingFor_L6 v0 v1 v2 v3 v4 v5 μ = some (tz6, sz6) := h
    unfold f_X11_likingFor_L6 at h
    refine lv_iload hx hb dX11_likingFor_6 (lv_at hl 5 rfl) ?_
    refine lv_aload_n hx hb dX11_likingFor_8 rfl (lv_at hl 0 rfl) ?_
    refine r_getF (off := 2) C hP (iw hw (fi_11 hk0)) hk0 fl_X11_13 rfl rfl (zw hw) dX11_likingFor_9 ?_
    refine lv_iconst (v := (2)) hx hb dX11_likingFor_12 (by decide) ?_
    refine n_iald (j := 2) C hP (iw hw (ff_11_3 hk0).2) (ff_11_3 hk0).1 (by decide) (by decide) dX11_likingFor_13 ?_
    refine lv_icmp_ge (tgt := 61) hx hb dX11_likingFor_14 (by decide) (fun c1 => ?_) (fun c1 => ?_)
    · replace h := if_t c1 h
      obtain ⟨rfl, rfl⟩ := leaf h
      exact (hK0_6 0 rfl) _ _ _ hP hS (lv_sub hl [4] rfl)
    · replace h := if_f c1 h
      refine lv_aload_n hx hb dX11_likingFor_17 rfl (lv_at hl 0 rfl) ?_
      refine lv_iload hx hb dX11_likingFor_18 (lv_at hl 5 rfl) ?_
      obtain ⟨r3, μ2, h4, h⟩ := bd_ok h
      refine go_i (callV_run (As := [.int v5]) (rest := []) C hl hP (hS.wide hJ).2.1 (iw hw (fi_11 hk0)) hk0 (m_X11_isHung l w hJ hw v0 v5 hk0 μ h4) mv_X11_375 ⟨rfl, rfl, by decide, by decide⟩ rfl rfl (Nat.le_of_ble_eq_true rfl) ⟨Nat.zero_le _, Nat.zero_le _⟩ dX11_likingFor_20) hS (fun H locs hP hS => ?_)
      refine lv_if_eq (tgt := 55) hx hb dX11_likingFor_23 (by decide) (fun c5 => ?_) (fun c5 => ?_)
      · replace h := if_t c5 h
        obtain ⟨x6, ex6⟩ : ∃ y : Int32, y = (v5 + (1 : Int32)) := ⟨_, rfl⟩
        replace h := vl_ok ex6 h
        refine lv_iinc (v := x6) (lv' := [(5, .int x6), (0, .ref (w.2.2.1 v0)), (1, .int v1), (2, .int v2), (3, .int v3), (4, .int v4)]) hx hb dX11_likingFor_55 hl (k := 5) rfl (by rw [ex6]; rfl) (by decide) rfl (fun ls hl => ?_)
        refine lv_goto (tgt := 6) hx hb dX11_likingFor_58 (by decide) ?_
        obtain ⟨rfl, rfl⟩ := leaf h
        exact hP0_6 rfl _ _ _ hP hS (lv_sub hl [1, 2, 3, 4, 5, 0] rfl)
      · replace h := if_f c5 h
        refine lv_aload_n hx hb dX11_likingFor_26 rfl (lv_at hl 0 rfl) ?_
        refine r_getF (off := 25) C hP (iw hw (fi_11 hk0)) hk0 fl_X11_87 rfl rfl (zw hw) dX11_likingFor_27 ?_
        refine lv_bipush (v := (8)) hx hb dX11_likingFor_30 (by decide) ?_
        refine lv_iload_n hx hb dX11_likingFor_32 rfl (lv_at hl 1 rfl) ?_
        refine lv_imul hx hb dX11_likingFor_33 ?_
        refine lv_iload hx hb dX11_likingFor_34 (lv_at hl 5 rfl) ?_
        refine lv_iadd hx hb dX11_likingFor_36 ?_
        obtain ⟨g7, h⟩ := gd_ok h
        refine r_iald C hP (iw hw (ff_11_40 hk0).2) (ff_11_40 hk0).1 g7 dX11_likingFor_37 ?_
        refine lv_iload_n hx hb dX11_likingFor_38 rfl (lv_at hl 3 rfl) ?_
        refine lv_icmp_ne (tgt := 55) hx hb dX11_likingFor_39 (by decide) (fun c8 => ?_) (fun c8 => ?_)
        · replace h := if_f c8 h
          obtain ⟨x9, ex9⟩ : ∃ y : Int32, y = (v5 + (1 : Int32)) := ⟨_, rfl⟩
          replace h := vl_ok ex9 h
          refine lv_iinc (v := x9) (lv' := [(5, .int x9), (0, .ref (w.2.2.1 v0)), (1, .int v1), (2, .int v2), (3, .int v3), (4, .int v4)]) hx hb dX11_likingFor_55 hl (k := 5) rfl (by rw [ex9]; rfl) (by decide) rfl (fun ls hl => ?_)
          refine lv_goto (tgt := 6) hx hb dX11_likingFor_58 (by decide) ?_
          obtain ⟨rfl, rfl⟩ := leaf h
          exact hP0_6 rfl _ _ _ hP hS (lv_sub hl [1, 2, 3, 4, 5, 0] rfl)
        · replace h := if_t c8 h
          refine lv_iload hx hb dX11_likingFor_42 (lv_at hl 4 rfl) ?_
          refine lv_aload_n hx hb dX11_likingFor_44 rfl (lv_at hl 0 rfl) ?_
          refine lv_iload_n hx hb dX11_likingFor_45 rfl (lv_at hl 1 rfl) ?_
          refine lv_iload_n hx hb dX11_likingFor_46 rfl (lv_at hl 2 rfl) ?_
          refine lv_iload hx hb dX11_likingFor_47 (lv_at hl 5 rfl) ?_
          obtain ⟨r11, μ10, h12, h⟩ := bd_ok h
          refine go_i (callV_run (As := [.int v1, .int v2, .int v5]) (rest := [.int v4]) C hl hP (hS.wide hJ).2.1 (iw hw (fi_11 hk0)) hk0 (m_X11_likingOf l w hJ hw v0 v1 v2 v5 hk0 μ2 h12) mv_X11_378 ⟨rfl, rfl, by decide, by decide⟩ rfl rfl (Nat.le_of_ble_eq_true rfl) ⟨Nat.zero_le _, Nat.zero_le _⟩ dX11_likingFor_49) hS (fun H locs hP hS => ?_)
          refine lv_iadd hx hb dX11_likingFor_52 ?_
          refine lv_topi (fun x13 ex13 => ?_)
          replace h := vl_ok ex13 h
          refine lv_istore (lv' := [(4, .int x13), (0, .ref (w.2.2.1 v0)), (1, .int v1), (2, .int v2), (3, .int v3), (5, .int v5)]) hx hb dX11_likingFor_53 hl (by decide) rfl (fun ls hl => ?_)
          obtain ⟨x14, ex14⟩ : ∃ y : Int32, y = (v5 + (1 : Int32)) := ⟨_, rfl⟩
          replace h := vl_ok ex14 h
          refine lv_iinc (v := x14) (lv' := [(5, .int x14), (4, .int x13), (0, .ref (w.2.2.1 v0)), (1, .int v1), (2, .int v2), (3, .int v3)]) hx hb dX11_likingFor_55 hl (k := 5) rfl (by rw [ex14]; rfl) (by decide) rfl (fun ls hl => ?_)
          refine lv_goto (tgt := 6) hx hb dX11_likingFor_58 (by decide) ?_
          obtain ⟨rfl, rfl⟩ := leaf h
          exact hP0_6 rfl _ _ _ hP hS (lv_sub hl [2, 3, 4, 5, 1, 0] rfl)
  · obtain ⟨x17, x18, μ19⟩ := q16
    intro H locs ls hP hS hl
    have hP : fP w μ19 H := hP
    have hl : lv_has ls 6 [(4, .int x17)] := hl
    try dsimp only at h
    refine lv_iload hx hb dX11_likingFor_61 (lv_at hl 0 rfl) ?_
    exact r_iret C hr hP hS h dX11_likingFor_63

def f_X11_seatOf_j57 (v0 : Nat) (v1 : Int32) (v2 : Int32) (v5 : Int32) (v6 : Int32) (μ : fMem) : Option (Nat × (Int32 × Int32 × Int32 × fMem)) :=
  vl (v5 + (1 : Int32)) fun x13 => some (0, (v5, v6, x13, μ))
def f_X11_seatOf_L8 (v0 : Nat) (v1 : Int32) (v2 : Int32) (v3 : Int32) (v4 : Int32) (v5 : Int32) (μ : fMem) : Option (Nat × (Int32 × Int32 × Int32 × fMem)) :=
  if (μ.1 (v0 + 2) 0) ≤ v5 then some (1, (v3, v4, v5, μ)) else bd (f_X11_isOpen v0 v1 v5 μ) fun r3 μ2 => if r3 = 0 then vl (v5 + (1 : Int32)) fun x12 => some (0, (v3, v4, x12, μ2)) else bd (f_X11_likingFor v0 v1 v2 v5 μ2) fun r7 μ6 => if v3 = (-1 : Int32) then f_X11_seatOf_j57 v0 v1 v2 v5 r7 μ6 else if v4 < r7 then f_X11_seatOf_j57 v0 v1 v2 v5 r7 μ6 else vl (v5 + (1 : Int32)) fun x11 => some (0, (v3, v4, x11, μ6))
def f_X11_seatOf (v0 : Nat) (v1 : Int32) (v2 : Int32) (μ : fMem) : Option (Int32 × fMem) :=
  bd (lpn (fun (q : Int32 × Int32 × Int32 × fMem) => f_X11_seatOf_L8 v0 v1 v2 q.1 q.2.1 q.2.2.1 q.2.2.2) fuel ((-1 : Int32), (0 : Int32), (0 : Int32), μ)) fun t14 q15 => (fun (x16 : Int32) (x17 : Int32) (x18 : Int32) (μ19 : fMem) => some (x16, μ19)) q15.1 q15.2.1 q15.2.2.1 q15.2.2.2
def rm_X11_seatOf : Room := { frames := 6, cells := 0, slots := 0, locals := 201 }
set_option maxHeartbeats 4000000 in
set_option maxRecDepth 100000 in
theorem m_X11_seatOf (l : Launch) (w : fW) (hJ : fJ w) (hw : w.2.2.2 = sd 1) (v0 : Nat) (v1 : Int32) (v2 : Int32) (hk0 : kd v0 = (4, 11)) (μ : fMem) {r : Int32} {μr : fMem} (h : f_X11_seatOf v0 v1 v2 μ = some (r, μr)) : Met l yX11_seatOf (.code yX11_seatOf cX11_seatOf 7 (some .int) :: gw) rm_X11_seatOf (fPc w [.ref (w.2.2.1 v0), .int v1, .int v2] μ) (fQi w r μr) 0 0 (fA w) := by
  refine met_of hJ (by decide) ?_ (Nat.le_of_ble_eq_true rfl)
  generalize ([.ref (w.2.2.1 v0), .int v1, .int v2] : List Value).toArray = args
  intro p e s m below meth c ls C hr hP hl hS
  obtain ⟨hx, hb, hml, hown, hts, hK, -, hlk, hT⟩ := id C
  have hl : lv_has ls 7 [(0, .ref (w.2.2.1 v0)), (1, .int v1), (2, .int v2)] := hl
  unfold f_X11_seatOf at h
  refine lv_iconst (v := (-1)) hx hb dX11_seatOf_0 (by decide) ?_
  refine lv_istore_n (lv' := [(3, .int (-1 : Int32)), (0, .ref (w.2.2.1 v0)), (1, .int v1), (2, .int v2)]) hx hb dX11_seatOf_1 rfl hl (by decide) rfl (fun ls hl => ?_)
  refine lv_iconst (v := (0)) hx hb dX11_seatOf_2 (by decide) ?_
  refine lv_istore (lv' := [(4, .int (0 : Int32)), (3, .int (-1 : Int32)), (0, .ref (w.2.2.1 v0)), (1, .int v1), (2, .int v2)]) hx hb dX11_seatOf_3 hl (by decide) rfl (fun ls hl => ?_)
  refine lv_iconst (v := (0)) hx hb dX11_seatOf_5 (by decide) ?_
  refine lv_istore (lv' := [(5, .int (0 : Int32)), (4, .int (0 : Int32)), (3, .int (-1 : Int32)), (0, .ref (w.2.2.1 v0)), (1, .int v1), (2, .int v2)]) hx hb dX11_seatOf_6 hl (by decide) rfl (fun ls hl => ?_)
  obtain ⟨t14, q15, h20, h⟩ := bd_ok h
  refine lpn_ind (b := (fun (q : Int32 × Int32 × Int32 × fMem) => f_X11_seatOf_L8 v0 v1 v2 q.1 q.2.1 q.2.2.1 q.2.2.2)) (P := fun (q : Int32 × Int32 × Int32 × fMem) => WW p l e rm_X11_seatOf s m args below meth c (MQ below (fQi w r μr) args s 0 0 (fA w)) w q.2.2.2 7 8 [] [(0, .ref (w.2.2.1 v0)), (1, .int v1), (2, .int v2), (3, .int q.1), (4, .int q.2.1), (5, .int q.2.2.1)]) (K := fun _ (q : Int32 × Int32 × Int32 × fMem) => WW p l e rm_X11_seatOf s m args below meth c (MQ below (fQi w r μr) args s 0 0 (fA w)) w q.2.2.2 7 70 [] [(3, .int q.1)]) ?_ fuel ((-1 : Int32), (0 : Int32), (0 : Int32), μ) t14 q15 h20 ?_ _ _ _ hP hS (lv_sub hl [3, 4, 5, 2, 1, 0] rfl)
  · intro q tz8 sz8 h hP0_8 hK0_8 H locs ls hP hS hl
    obtain ⟨v3, v4, v5, μ⟩ := q
    have hP : fP w μ H := hP
    have hl : lv_has ls 7 [(0, .ref (w.2.2.1 v0)), (1, .int v1), (2, .int v2), (3, .int v3), (4, .int v4), (5, .int v5)] := hl
    have h : f_X11_seatOf_L8 v0 v1 v2 v3 v4 v5 μ = some (tz8, sz8) := h
    unfold f_X11_seatOf_L8 at h
    have J57 : ∀ (v5 : Int32) (v6 : Int32) (μ : fMem), f_X11_seatOf_j57 v0 v1 v2 v5 v6 μ = some (tz8, sz8) → WW p l e rm_X11_seatOf s m args below meth c (MQ below (fQi w r μr) args s 0 0 (fA w)) w μ 7 57 [] [(0, .ref (w.2.2.1 v0)), (1, .int v1), (2, .int v2), (5, .int v5), (6, .int v6)] := by
      intro v5 v6 μ  h H locs ls hP hS hl
      unfold f_X11_seatOf_j57 at h
      refine lv_iload hx hb dX11_seatOf_57 (lv_at hl 3 rfl) ?_
      refine lv_istore_n (lv' := [(3, .int v5), (0, .ref (w.2.2.1 v0)), (1, .int v1), (2, .int v2), (5, .int v5), (6, .int v6)]) hx hb dX11_seatOf_59 rfl hl (by decide) rfl (fun ls hl => ?_)
      refine lv_iload hx hb dX11_seatOf_60 (lv_at hl 5 rfl) ?_
      refine lv_istore (lv' := [(4, .int v6), (3, .int v5), (0, .ref (w.2.2.1 v0)), (1, .int v1), (2, .int v2), (5, .int v5), (6, .int v6)]) hx hb dX11_seatOf_62 hl (by decide) rfl (fun ls hl => ?_)
      obtain ⟨x13, ex13⟩ : ∃ y : Int32, y = (v5 + (1 : Int32)) := ⟨_, rfl⟩
      replace h := vl_ok ex13 h
      refine lv_iinc (v := x13) (lv' := [(5, .int x13), (4, .int v6), (3, .int v5), (0, .ref (w.2.2.1 v0)), (1, .int v1), (2, .int v2), (6, .int v6)]) hx hb dX11_seatOf_64 hl (k := 5) rfl (by rw [ex13]; rfl) (by decide) rfl (fun ls hl => ?_)
      refine lv_goto (tgt := 8) hx hb dX11_seatOf_67 (by decide) ?_
      obtain ⟨rfl, rfl⟩ := leaf h
      exact hP0_8 rfl _ _ _ hP hS (lv_sub hl [3, 4, 5, 2, 1, 0] rfl)
    refine lv_iload hx hb dX11_seatOf_8 (lv_at hl 5 rfl) ?_
    refine lv_aload_n hx hb dX11_seatOf_10 rfl (lv_at hl 0 rfl) ?_
    refine r_getF (off := 2) C hP (iw hw (fi_11 hk0)) hk0 fl_X11_13 rfl rfl (zw hw) dX11_seatOf_11 ?_
    refine lv_iconst (v := (0)) hx hb dX11_seatOf_14 (by decide) ?_
    refine n_iald (j := 0) C hP (iw hw (ff_11_3 hk0).2) (ff_11_3 hk0).1 (by decide) (by decide) dX11_seatOf_15 ?_
    refine lv_icmp_ge (tgt := 70) hx hb dX11_seatOf_16 (by decide) (fun c1 => ?_) (fun c1 => ?_)
    · replace h := if_t c1 h
      obtain ⟨rfl, rfl⟩ := leaf h
      exact (hK0_8 0 rfl) _ _ _ hP hS (lv_sub hl [3] rfl)
    · replace h := if_f c1 h
      refine lv_aload_n hx hb dX11_seatOf_19 rfl (lv_at hl 0 rfl) ?_
      refine lv_iload_n hx hb dX11_seatOf_20 rfl (lv_at hl 1 rfl) ?_
      refine lv_iload hx hb dX11_seatOf_21 (lv_at hl 5 rfl) ?_
      obtain ⟨r3, μ2, h4, h⟩ := bd_ok h
      refine go_i (callV_run (As := [.int v1, .int v5]) (rest := []) C hl hP (hS.wide hJ).2.1 (iw hw (fi_11 hk0)) hk0 (m_X11_isOpen l w hJ hw v0 v1 v5 hk0 μ h4) mv_X11_381 ⟨rfl, rfl, by decide, by decide⟩ rfl rfl (Nat.le_of_ble_eq_true rfl) ⟨Nat.zero_le _, Nat.zero_le _⟩ dX11_seatOf_23) hS (fun H locs hP hS => ?_)
      refine lv_if_ne (tgt := 32) hx hb dX11_seatOf_26 (by decide) (fun c5 => ?_) (fun c5 => ?_)
      · replace h := if_f c5 h
        refine lv_aload_n hx hb dX11_seatOf_32 rfl (lv_at hl 0 rfl) ?_
        refine lv_iload_n hx hb dX11_seatOf_33 rfl (lv_at hl 1 rfl) ?_
        refine lv_iload_n hx hb dX11_seatOf_34 rfl (lv_at hl 2 rfl) ?_
        refine lv_iload hx hb dX11_seatOf_35 (lv_at hl 5 rfl) ?_
        obtain ⟨r7, μ6, h8, h⟩ := bd_ok h
        refine go_i (callV_run (As := [.int v1, .int v2, .int v5]) (rest := []) C hl hP (hS.wide hJ).2.1 (iw hw (fi_11 hk0)) hk0 (m_X11_likingFor l w hJ hw v0 v1 v2 v5 hk0 μ2 h8) mv_X11_385 ⟨rfl, rfl, by decide, by decide⟩ rfl rfl (Nat.le_of_ble_eq_true rfl) ⟨Nat.zero_le _, Nat.zero_le _⟩ dX11_seatOf_37) hS (fun H locs hP hS => ?_)
        refine lv_istore (lv' := [(6, .int r7), (0, .ref (w.2.2.1 v0)), (1, .int v1), (2, .int v2), (3, .int v3), (4, .int v4), (5, .int v5)]) hx hb dX11_seatOf_40 hl (by decide) rfl (fun ls hl => ?_)
        refine lv_iload_n hx hb dX11_seatOf_42 rfl (lv_at hl 4 rfl) ?_
        refine lv_iconst (v := (-1)) hx hb dX11_seatOf_43 (by decide) ?_
        refine lv_icmp_eq (tgt := 57) hx hb dX11_seatOf_44 (by decide) (fun c9 => ?_) (fun c9 => ?_)
        · replace h := if_t c9 h
          exact J57 v5 r7 μ6  h _ _ _ hP hS (lv_sub hl [1, 2, 3, 6, 0] rfl)
        · replace h := if_f c9 h
          refine lv_iload hx hb dX11_seatOf_47 (lv_at hl 0 rfl) ?_
          refine lv_iload hx hb dX11_seatOf_49 (lv_at hl 5 rfl) ?_
          refine lv_icmp_gt (tgt := 57) hx hb dX11_seatOf_51 (by decide) (fun c10 => ?_) (fun c10 => ?_)
          · replace h := if_t c10 h
            exact J57 v5 r7 μ6  h _ _ _ hP hS (lv_sub hl [1, 2, 3, 6, 0] rfl)
          · replace h := if_f c10 h
            refine lv_goto (tgt := 64) hx hb dX11_seatOf_54 (by decide) ?_
            obtain ⟨x11, ex11⟩ : ∃ y : Int32, y = (v5 + (1 : Int32)) := ⟨_, rfl⟩
            replace h := vl_ok ex11 h
            refine lv_iinc (v := x11) (lv' := [(5, .int x11), (6, .int r7), (0, .ref (w.2.2.1 v0)), (1, .int v1), (2, .int v2), (3, .int v3), (4, .int v4)]) hx hb dX11_seatOf_64 hl (k := 6) rfl (by rw [ex11]; rfl) (by decide) rfl (fun ls hl => ?_)
            refine lv_goto (tgt := 8) hx hb dX11_seatOf_67 (by decide) ?_
            obtain ⟨rfl, rfl⟩ := leaf h
            exact hP0_8 rfl _ _ _ hP hS (lv_sub hl [2, 3, 4, 5, 6, 0] rfl)
      · replace h := if_t c5 h
        refine lv_goto (tgt := 64) hx hb dX11_seatOf_29 (by decide) ?_
        obtain ⟨x12, ex12⟩ : ∃ y : Int32, y = (v5 + (1 : Int32)) := ⟨_, rfl⟩
        replace h := vl_ok ex12 h
        refine lv_iinc (v := x12) (lv' := [(5, .int x12), (0, .ref (w.2.2.1 v0)), (1, .int v1), (2, .int v2), (3, .int v3), (4, .int v4)]) hx hb dX11_seatOf_64 hl (k := 5) rfl (by rw [ex12]; rfl) (by decide) rfl (fun ls hl => ?_)
        refine lv_goto (tgt := 8) hx hb dX11_seatOf_67 (by decide) ?_
        obtain ⟨rfl, rfl⟩ := leaf h
        exact hP0_8 rfl _ _ _ hP hS (lv_sub hl [1, 2, 3, 4, 5, 0] rfl)
  · obtain ⟨x16, x17, x18, μ19⟩ := q15
    intro H locs ls hP hS hl
    have hP : fP w μ19 H := hP
    have hl : lv_has ls 7 [(3, .int x16)] := hl
    try dsimp only at h
    refine lv_iload_n hx hb dX11_seatOf_70 rfl (lv_at hl 0 rfl) ?_
    exact r_iret C hr hP hS h dX11_seatOf_71

def f_X11_doesCome_j70 (v0 : Nat) (v1 : Int32) (v2 : Int32) (μ : fMem) : Option (Int32 × fMem) :=
  bd (f_X11_gaugeIn v0 v1 μ) fun r17 μ16 => gd (ixo v2 12) (if r17 < (μ16.1 (v0 + 14) (Int32.toNatClampNeg v2)) then gd (bl (0 : Int32)) (some ((0 : Int32), μ16)) else gd (bl (1 : Int32)) (some ((1 : Int32), μ16)))
def f_X11_doesCome_j18 (v0 : Nat) (v1 : Int32) (v2 : Int32) (μ : fMem) : Option (Int32 × fMem) :=
  if (μ.1 v0 47) = (3 : Int32) then gd (bl (1 : Int32)) (some ((1 : Int32), μ)) else bd (f_X11_calls v0 v1 v2 (-1 : Int32) μ) fun r5 μ4 => bd (f_X11_hasLaw v0 (2 : Int32) μ4) fun r8 μ7 => if r8 = 0 then f_X11_doesCome_j70 v0 v1 v2 μ7 else bd (f_X11_goes v0 (2 : Int32) μ7) fun r12 μ11 => if r12 = 0 then f_X11_doesCome_j70 v0 v1 v2 μ11 else if (lg_cmp (μ11.2.1 (v0 + 21) 0) (0 : Int64)) = 0 then gd (bl (0 : Int32)) (some ((0 : Int32), μ11)) else gd (bl (1 : Int32)) (some ((1 : Int32), μ11))
def f_X11_doesCome (v0 : Nat) (v1 : Int32) (v2 : Int32) (μ : fMem) : Option (Int32 × fMem) :=
  if (μ.1 v0 47) = (2 : Int32) then if v2 = (μ.1 v0 48) then gd (bl (0 : Int32)) (some ((0 : Int32), μ)) else f_X11_doesCome_j18 v0 v1 v2 μ else f_X11_doesCome_j18 v0 v1 v2 μ
def rm_X11_doesCome : Room := { frames := 3, cells := 0, slots := 0, locals := 129 }
set_option maxHeartbeats 4000000 in
set_option maxRecDepth 100000 in
theorem m_X11_doesCome (l : Launch) (w : fW) (hJ : fJ w) (hw : w.2.2.2 = sd 1) (v0 : Nat) (v1 : Int32) (v2 : Int32) (hk0 : kd v0 = (4, 11)) (μ : fMem) {r : Int32} {μr : fMem} (h : f_X11_doesCome v0 v1 v2 μ = some (r, μr)) : Met l yX11_doesCome (.code yX11_doesCome cX11_doesCome 3 (some .boolean) :: gw) rm_X11_doesCome (fPc w [.ref (w.2.2.1 v0), .int v1, .int v2] μ) (fQi w r μr) 0 0 (fA w) := by
  refine met_of hJ (by decide) ?_ (Nat.le_of_ble_eq_true rfl)
  generalize ([.ref (w.2.2.1 v0), .int v1, .int v2] : List Value).toArray = args
  intro p e s m below meth c ls C hr hP hl hS
  obtain ⟨hx, hb, hml, hown, hts, hK, -, hlk, hT⟩ := id C
  have hl : lv_has ls 3 [(0, .ref (w.2.2.1 v0)), (1, .int v1), (2, .int v2)] := hl
  unfold f_X11_doesCome at h
  have J70 : ∀  (μ : fMem), f_X11_doesCome_j70 v0 v1 v2 μ = some (r, μr) → WW p l e rm_X11_doesCome s m args below meth c (MQ below (fQi w r μr) args s 0 0 (fA w)) w μ 3 70 [] [(0, .ref (w.2.2.1 v0)), (1, .int v1), (2, .int v2)] := by
    intro  μ  h H locs ls hP hS hl
    unfold f_X11_doesCome_j70 at h
    refine lv_aload_n hx hb dX11_doesCome_70 rfl (lv_at hl 0 rfl) ?_
    refine lv_iload_n hx hb dX11_doesCome_71 rfl (lv_at hl 1 rfl) ?_
    obtain ⟨r17, μ16, h18, h⟩ := bd_ok h
    refine go_i (callV_run (As := [.int v1]) (rest := []) C hl hP (hS.wide hJ).2.1 (iw hw (fi_11 hk0)) hk0 (m_X11_gaugeIn l w hJ hw v0 v1 hk0 μ h18) mv_X11_349 ⟨rfl, rfl, by decide, by decide⟩ rfl rfl (Nat.le_of_ble_eq_true rfl) ⟨Nat.zero_le _, Nat.zero_le _⟩ dX11_doesCome_72) hS (fun H locs hP hS => ?_)
    refine lv_aload_n hx hb dX11_doesCome_75 rfl (lv_at hl 0 rfl) ?_
    refine r_getF (off := 14) C hP (iw hw (fi_11 hk0)) hk0 fl_X11_49 rfl rfl (zw hw) dX11_doesCome_76 ?_
    refine lv_iload_n hx hb dX11_doesCome_79 rfl (lv_at hl 2 rfl) ?_
    obtain ⟨g19, h⟩ := gd_ok h
    refine r_iald C hP (iw hw (ff_11_15 hk0).2) (ff_11_15 hk0).1 g19 dX11_doesCome_80 ?_
    refine lv_icmp_lt (tgt := 88) hx hb dX11_doesCome_81 (by decide) (fun c20 => ?_) (fun c20 => ?_)
    · replace h := if_t c20 h
      refine lv_iconst (v := (0)) hx hb dX11_doesCome_88 (by decide) ?_
      exact r_zret C hr hP hS h dX11_doesCome_89
    · replace h := if_f c20 h
      refine lv_iconst (v := (1)) hx hb dX11_doesCome_84 (by decide) ?_
      refine lv_goto (tgt := 89) hx hb dX11_doesCome_85 (by decide) ?_
      exact r_zret C hr hP hS h dX11_doesCome_89
  have J18 : ∀  (μ : fMem), f_X11_doesCome_j18 v0 v1 v2 μ = some (r, μr) → WW p l e rm_X11_doesCome s m args below meth c (MQ below (fQi w r μr) args s 0 0 (fA w)) w μ 3 18 [] [(0, .ref (w.2.2.1 v0)), (1, .int v1), (2, .int v2)] := by
    intro  μ  h H locs ls hP hS hl
    unfold f_X11_doesCome_j18 at h
    refine lv_aload_n hx hb dX11_doesCome_18 rfl (lv_at hl 0 rfl) ?_
    refine r_getI C hP (iw hw (fi_11 hk0)) hk0 fl_X11_343 (Or.inl rfl) dX11_doesCome_19 ?_
    refine lv_iconst (v := (3)) hx hb dX11_doesCome_22 (by decide) ?_
    refine lv_icmp_ne (tgt := 28) hx hb dX11_doesCome_23 (by decide) (fun c3 => ?_) (fun c3 => ?_)
    · replace h := if_f c3 h
      refine lv_aload_n hx hb dX11_doesCome_28 rfl (lv_at hl 0 rfl) ?_
      refine lv_iload_n hx hb dX11_doesCome_29 rfl (lv_at hl 1 rfl) ?_
      refine lv_iload_n hx hb dX11_doesCome_30 rfl (lv_at hl 2 rfl) ?_
      refine lv_iconst (v := (-1)) hx hb dX11_doesCome_31 (by decide) ?_
      obtain ⟨r5, μ4, h6, h⟩ := bd_ok h
      refine go_v (callV_run (As := [.int v1, .int v2, .int (-1 : Int32)]) (rest := []) C hl hP (hS.wide hJ).2.1 (iw hw (fi_11 hk0)) hk0 (m_X11_calls l w hJ hw v0 v1 v2 (-1 : Int32) hk0 μ h6) mv_X11_365 ⟨rfl, rfl, by decide, by decide⟩ rfl rfl (Nat.le_of_ble_eq_true rfl) ⟨Nat.zero_le _, Nat.zero_le _⟩ dX11_doesCome_32) hS (fun H locs hP hS => ?_)
      refine lv_aload_n hx hb dX11_doesCome_35 rfl (lv_at hl 0 rfl) ?_
      refine lv_iconst (v := (2)) hx hb dX11_doesCome_36 (by decide) ?_
      obtain ⟨r8, μ7, h9, h⟩ := bd_ok h
      refine go_i (callV_run (As := [.int (2 : Int32)]) (rest := []) C hl hP (hS.wide hJ).2.1 (iw hw (fi_11 hk0)) hk0 (m_X11_hasLaw l w hJ hw v0 (2 : Int32) hk0 μ4 h9) mv_X11_352 ⟨rfl, rfl, by decide, by decide⟩ rfl rfl (Nat.le_of_ble_eq_true rfl) ⟨Nat.zero_le _, Nat.zero_le _⟩ dX11_doesCome_37) hS (fun H locs hP hS => ?_)
      refine lv_if_eq (tgt := 70) hx hb dX11_doesCome_40 (by decide) (fun c10 => ?_) (fun c10 => ?_)
      · replace h := if_t c10 h
        exact J70  μ7  h _ _ _ hP hS (lv_sub hl [0, 1, 2] rfl)
      · replace h := if_f c10 h
        refine lv_aload_n hx hb dX11_doesCome_43 rfl (lv_at hl 0 rfl) ?_
        refine lv_iconst (v := (2)) hx hb dX11_doesCome_44 (by decide) ?_
        obtain ⟨r12, μ11, h13, h⟩ := bd_ok h
        refine go_i (callV_run (As := [.int (2 : Int32)]) (rest := []) C hl hP (hS.wide hJ).2.1 (iw hw (fi_11 hk0)) hk0 (m_X11_goes l w hJ hw v0 (2 : Int32) hk0 μ7 h13) mv_X11_355 ⟨rfl, rfl, by decide, by decide⟩ rfl rfl (Nat.le_of_ble_eq_true rfl) ⟨Nat.zero_le _, Nat.zero_le _⟩ dX11_doesCome_45) hS (fun H locs hP hS => ?_)
        refine lv_if_eq (tgt := 70) hx hb dX11_doesCome_48 (by decide) (fun c14 => ?_) (fun c14 => ?_)
        · replace h := if_t c14 h
          exact J70  μ11  h _ _ _ hP hS (lv_sub hl [0, 1, 2] rfl)
        · replace h := if_f c14 h
          refine lv_aload_n hx hb dX11_doesCome_51 rfl (lv_at hl 0 rfl) ?_
          refine r_getF (off := 21) C hP (iw hw (fi_11 hk0)) hk0 fl_X11_75 rfl rfl (zw hw) dX11_doesCome_52 ?_
          refine lv_iconst (v := (0)) hx hb dX11_doesCome_55 (by decide) ?_
          refine n_lald (j := 0) C hP (iw hw (ff_11_35 hk0).2) (ff_11_35 hk0).1 (by decide) (by decide) dX11_doesCome_56 ?_
          refine lv_lconst (v := 0) hx hb dX11_doesCome_57 (by decide) ?_
          refine W.lcmp hx hb dX11_doesCome_58 ?_
          refine lv_if_eq (tgt := 66) hx hb dX11_doesCome_59 (by decide) (fun c15 => ?_) (fun c15 => ?_)
          · replace h := if_t c15 h
            refine lv_iconst (v := (0)) hx hb dX11_doesCome_66 (by decide) ?_
            refine lv_goto (tgt := 89) hx hb dX11_doesCome_67 (by decide) ?_
            exact r_zret C hr hP hS h dX11_doesCome_89
          · replace h := if_f c15 h
            refine lv_iconst (v := (1)) hx hb dX11_doesCome_62 (by decide) ?_
            refine lv_goto (tgt := 89) hx hb dX11_doesCome_63 (by decide) ?_
            exact r_zret C hr hP hS h dX11_doesCome_89
    · replace h := if_t c3 h
      refine lv_iconst (v := (1)) hx hb dX11_doesCome_26 (by decide) ?_
      exact r_zret C hr hP hS h dX11_doesCome_27
  refine lv_aload_n hx hb dX11_doesCome_0 rfl (lv_at hl 0 rfl) ?_
  refine r_getI C hP (iw hw (fi_11 hk0)) hk0 fl_X11_343 (Or.inl rfl) dX11_doesCome_1 ?_
  refine lv_iconst (v := (2)) hx hb dX11_doesCome_4 (by decide) ?_
  refine lv_icmp_ne (tgt := 18) hx hb dX11_doesCome_5 (by decide) (fun c1 => ?_) (fun c1 => ?_)
  · replace h := if_f c1 h
    exact J18  μ  h _ _ _ hP hS (lv_sub hl [0, 1, 2] rfl)
  · replace h := if_t c1 h
    refine lv_iload_n hx hb dX11_doesCome_8 rfl (lv_at hl 2 rfl) ?_
    refine lv_aload_n hx hb dX11_doesCome_9 rfl (lv_at hl 0 rfl) ?_
    refine r_getI C hP (iw hw (fi_11 hk0)) hk0 fl_X11_102 (Or.inl rfl) dX11_doesCome_10 ?_
    refine lv_icmp_ne (tgt := 18) hx hb dX11_doesCome_13 (by decide) (fun c2 => ?_) (fun c2 => ?_)
    · replace h := if_f c2 h
      exact J18  μ  h _ _ _ hP hS (lv_sub hl [0, 1, 2] rfl)
    · replace h := if_t c2 h
      refine lv_iconst (v := (0)) hx hb dX11_doesCome_16 (by decide) ?_
      exact r_zret C hr hP hS h dX11_doesCome_17

def f_X11_nextTo_L2 (v0 : Nat) (v1 : Int32) (v2 : Int32) (μ : fMem) : Option (Nat × (Int32 × fMem)) :=
  if (μ.1 (v0 + 2) 0) ≤ v2 then some (1, (v2, μ)) else bd (f_X11_isDoor v0 v1 v2 μ) fun r3 μ2 => if r3 = 0 then vl (v2 + (1 : Int32)) fun x6 => some (0, (x6, μ2)) else some (2, (v2, μ2))
def f_X11_nextTo (v0 : Nat) (v1 : Int32) (μ : fMem) : Option (Int32 × fMem) :=
  bd (lpn (fun (q : Int32 × fMem) => f_X11_nextTo_L2 v0 v1 q.1 q.2) fuel ((0 : Int32), μ)) fun t7 q8 => (fun (x9 : Int32) (μ10 : fMem) => if t7 = 0 then some ((-1 : Int32), μ10) else some (x9, μ10)) q8.1 q8.2
def rm_X11_nextTo : Room := { frames := 1, cells := 0, slots := 0, locals := 23 }
set_option maxHeartbeats 4000000 in
set_option maxRecDepth 100000 in
theorem m_X11_nextTo (l : Launch) (w : fW) (hJ : fJ w) (hw : w.2.2.2 = sd 1) (v0 : Nat) (v1 : Int32) (hk0 : kd v0 = (4, 11)) (μ : fMem) {r : Int32} {μr : fMem} (h : f_X11_nextTo v0 v1 μ = some (r, μr)) : Met l yX11_nextTo (.code yX11_nextTo cX11_nextTo 3 (some .int) :: gw) rm_X11_nextTo (fPc w [.ref (w.2.2.1 v0), .int v1] μ) (fQi w r μr) 0 0 (fA w) := by
  refine met_of hJ (by decide) ?_ (Nat.le_of_ble_eq_true rfl)
  generalize ([.ref (w.2.2.1 v0), .int v1] : List Value).toArray = args
  intro p e s m below meth c ls C hr hP hl hS
  obtain ⟨hx, hb, hml, hown, hts, hK, -, hlk, hT⟩ := id C
  have hl : lv_has ls 3 [(0, .ref (w.2.2.1 v0)), (1, .int v1)] := hl
  unfold f_X11_nextTo at h
  refine lv_iconst (v := (0)) hx hb dX11_nextTo_0 (by decide) ?_
  refine lv_istore_n (lv' := [(2, .int (0 : Int32)), (0, .ref (w.2.2.1 v0)), (1, .int v1)]) hx hb dX11_nextTo_1 rfl hl (by decide) rfl (fun ls hl => ?_)
  obtain ⟨t7, q8, h11, h⟩ := bd_ok h
  refine lpn_ind (b := (fun (q : Int32 × fMem) => f_X11_nextTo_L2 v0 v1 q.1 q.2)) (P := fun (q : Int32 × fMem) => WW p l e rm_X11_nextTo s m args below meth c (MQ below (fQi w r μr) args s 0 0 (fA w)) w q.2 3 2 [] [(0, .ref (w.2.2.1 v0)), (1, .int v1), (2, .int q.1)]) (K := fun t (q : Int32 × fMem) => (t = 0 → WW p l e rm_X11_nextTo s m args below meth c (MQ below (fQi w r μr) args s 0 0 (fA w)) w q.2 3 29 [] []) ∧ (t = 1 → WW p l e rm_X11_nextTo s m args below meth c (MQ below (fQi w r μr) args s 0 0 (fA w)) w q.2 3 21 [] [(2, .int q.1)])) ?_ fuel ((0 : Int32), μ) t7 q8 h11 ?_ _ _ _ hP hS (lv_sub hl [1, 2, 0] rfl)
  · intro q tz2 sz2 h hP0_2 hK0_2 H locs ls hP hS hl
    obtain ⟨v2, μ⟩ := q
    have hP : fP w μ H := hP
    have hl : lv_has ls 3 [(0, .ref (w.2.2.1 v0)), (1, .int v1), (2, .int v2)] := hl
    have h : f_X11_nextTo_L2 v0 v1 v2 μ = some (tz2, sz2) := h
    unfold f_X11_nextTo_L2 at h
    refine lv_iload_n hx hb dX11_nextTo_2 rfl (lv_at hl 2 rfl) ?_
    refine lv_aload_n hx hb dX11_nextTo_3 rfl (lv_at hl 0 rfl) ?_
    refine r_getF (off := 2) C hP (iw hw (fi_11 hk0)) hk0 fl_X11_13 rfl rfl (zw hw) dX11_nextTo_4 ?_
    refine lv_iconst (v := (0)) hx hb dX11_nextTo_7 (by decide) ?_
    refine n_iald (j := 0) C hP (iw hw (ff_11_3 hk0).2) (ff_11_3 hk0).1 (by decide) (by decide) dX11_nextTo_8 ?_
    refine lv_icmp_ge (tgt := 29) hx hb dX11_nextTo_9 (by decide) (fun c1 => ?_) (fun c1 => ?_)
    · replace h := if_t c1 h
      obtain ⟨rfl, rfl⟩ := leaf h
      exact ((hK0_2 0 rfl).1 rfl) _ _ _ hP hS (lv_sub hl [] rfl)
    · replace h := if_f c1 h
      refine lv_aload_n hx hb dX11_nextTo_12 rfl (lv_at hl 0 rfl) ?_
      refine lv_iload_n hx hb dX11_nextTo_13 rfl (lv_at hl 1 rfl) ?_
      refine lv_iload_n hx hb dX11_nextTo_14 rfl (lv_at hl 2 rfl) ?_
      obtain ⟨r3, μ2, h4, h⟩ := bd_ok h
      refine go_i (callV_run (As := [.int v1, .int v2]) (rest := []) C hl hP (hS.wide hJ).2.1 (iw hw (fi_11 hk0)) hk0 (m_X11_isDoor l w hJ hw v0 v1 v2 hk0 μ h4) mv_X11_388 ⟨rfl, rfl, by decide, by decide⟩ rfl rfl (Nat.le_of_ble_eq_true rfl) ⟨Nat.zero_le _, Nat.zero_le _⟩ dX11_nextTo_15) hS (fun H locs hP hS => ?_)
      refine lv_if_eq (tgt := 23) hx hb dX11_nextTo_18 (by decide) (fun c5 => ?_) (fun c5 => ?_)
      · replace h := if_t c5 h
        obtain ⟨x6, ex6⟩ : ∃ y : Int32, y = (v2 + (1 : Int32)) := ⟨_, rfl⟩
        replace h := vl_ok ex6 h
        refine lv_iinc (v := x6) (lv' := [(2, .int x6), (0, .ref (w.2.2.1 v0)), (1, .int v1)]) hx hb dX11_nextTo_23 hl (k := 2) rfl (by rw [ex6]; rfl) (by decide) rfl (fun ls hl => ?_)
        refine lv_goto (tgt := 2) hx hb dX11_nextTo_26 (by decide) ?_
        obtain ⟨rfl, rfl⟩ := leaf h
        exact hP0_2 rfl _ _ _ hP hS (lv_sub hl [1, 2, 0] rfl)
      · replace h := if_f c5 h
        obtain ⟨rfl, rfl⟩ := leaf h
        exact ((hK0_2 1 rfl).2 rfl) _ _ _ hP hS (lv_sub hl [2] rfl)
  · obtain ⟨x9, μ10⟩ := q8
    try dsimp only at h
    refine ⟨fun ht => ?_, fun ht => ?_⟩
    · intro H locs ls hP hS hl
      have hP : fP w μ10 H := hP
      have hl : lv_has ls 3 [] := hl
      replace h := if_t ht h
      refine lv_iconst (v := (-1)) hx hb dX11_nextTo_29 (by decide) ?_
      exact r_iret C hr hP hS h dX11_nextTo_30
    · intro H locs ls hP hS hl
      have hP : fP w μ10 H := hP
      have hl : lv_has ls 3 [(2, .int x9)] := hl
      replace h := if_f (by rw [ht]; decide) h
      refine lv_iload_n hx hb dX11_nextTo_21 rfl (lv_at hl 0 rfl) ?_
      exact r_iret C hr hP hS h dX11_nextTo_22

def f_X11_visits_j117 (v0 : Nat) (v1 : Int32) (v2 : Int32) (r2 : Int32) (v6 : Int32) (v7 : Int32) (μ : fMem) : Option (Nat × (Int32 × Int32 × Int32 × fMem)) :=
  vl (v6 + (1 : Int32)) fun x26 => some (0, (v6, v7, x26, μ))
def f_X11_visits_L52 (v0 : Nat) (v1 : Int32) (v2 : Int32) (r2 : Int32) (v4 : Int32) (v5 : Int32) (v6 : Int32) (μ : fMem) : Option (Nat × (Int32 × Int32 × Int32 × fMem)) :=
  if (μ.1 (v0 + 2) 2) ≤ v6 then some (1, (v4, v5, v6, μ)) else bd (f_X11_isHung v0 v6 μ) fun r13 μ12 => if r13 = 0 then vl (v6 + (1 : Int32)) fun x16 => some (0, (v4, v5, x16, μ12)) else gd (ixo (((8 : Int32) * v1) + v6) 184) (if (μ12.1 (v0 + 25) (Int32.toNatClampNeg (((8 : Int32) * v1) + v6))) = r2 then bd (f_X11_likingOf v0 v1 v2 v6 μ12) fun r20 μ19 => if v4 = (-1 : Int32) then f_X11_visits_j117 v0 v1 v2 r2 v6 r20 μ19 else if r20 < v5 then f_X11_visits_j117 v0 v1 v2 r2 v6 r20 μ19 else vl (v6 + (1 : Int32)) fun x24 => some (0, (v4, v5, x24, μ19)) else vl (v6 + (1 : Int32)) fun x25 => some (0, (v4, v5, x25, μ12)))
def f_X11_visits (v0 : Nat) (v1 : Int32) (v2 : Int32) (μ : fMem) : Option (Unit × fMem) :=
  bd (f_X11_seatOf v0 v1 v2 μ) fun r2 μ1 => if r2 = (-1 : Int32) then some ((), μ1) else gd (ixo (((6 : Int32) * v1) + r2) 138) (gd (ixo (((6 : Int32) * v1) + r2) 138) (vl (sI μ1 (v0 + 28) (Int32.toNatClampNeg (((6 : Int32) * v1) + r2)) ((μ1.1 (v0 + 28) (Int32.toNatClampNeg (((6 : Int32) * v1) + r2))) + (1 : Int32))) fun μ6 => gd (ixo (((6 : Int32) * v1) + v2) 138) (gd (ixo (((6 : Int32) * v1) + v2) 138) (vl (sI μ6 (v0 + 29) (Int32.toNatClampNeg (((6 : Int32) * v1) + v2)) ((μ6.1 (v0 + 29) (Int32.toNatClampNeg (((6 : Int32) * v1) + v2))) + (1 : Int32))) fun μ9 => bd (lpn (fun (q : Int32 × Int32 × Int32 × fMem) => f_X11_visits_L52 v0 v1 v2 r2 q.1 q.2.1 q.2.2.1 q.2.2.2) fuel ((-1 : Int32), (0 : Int32), (0 : Int32), μ9)) fun t27 q28 => (fun (x29 : Int32) (x30 : Int32) (x31 : Int32) (μ32 : fMem) => if x29 = (-1 : Int32) then some ((), μ32) else if (μ32.1 v0 47) = (4 : Int32) then some ((), μ32) else bd (f_X11_calls v0 v1 v2 x29 μ32) fun r36 μ35 => bd (f_X11_within v0 (1 : Int32) (100 : Int32) (30 : Int32) μ35) fun r39 μ38 => if x30 < r39 then bd (f_X11_nextTo v0 r2 μ38) fun r43 μ42 => if r43 = (-1 : Int32) then gd (ixo (((8 : Int32) * v1) + x29) 184) (gd (ixo (((8 : Int32) * v1) + x29) 184) (vl (sI μ42 (v0 + 27) (Int32.toNatClampNeg (((8 : Int32) * v1) + x29)) ((μ42.1 (v0 + 27) (Int32.toNatClampNeg (((8 : Int32) * v1) + x29))) + (1 : Int32))) fun μ52 => some ((), μ52))) else gd (ixo (((8 : Int32) * v1) + x29) 184) (vl (sI μ42 (v0 + 25) (Int32.toNatClampNeg (((8 : Int32) * v1) + x29)) r43) fun μ46 => gd (ixo (((8 : Int32) * v1) + x29) 184) (gd (ixo (((8 : Int32) * v1) + x29) 184) (vl (sI μ46 (v0 + 26) (Int32.toNatClampNeg (((8 : Int32) * v1) + x29)) ((μ46.1 (v0 + 26) (Int32.toNatClampNeg (((8 : Int32) * v1) + x29))) + (1 : Int32))) fun μ49 => some ((), μ49)))) else some ((), μ38)) q28.1 q28.2.1 q28.2.2.1 q28.2.2.2))))
def rm_X11_visits : Room := { frames := 7, cells := 0, slots := 0, locals := 227 }
set_option maxHeartbeats 4000000 in
set_option maxRecDepth 100000 in
theorem m_X11_visits (l : Launch) (w : fW) (hJ : fJ w) (hw : w.2.2.2 = sd 1) (v0 : Nat) (v1 : Int32) (v2 : Int32) (hk0 : kd v0 = (4, 11)) (μ : fMem) {r : Unit} {μr : fMem} (h : f_X11_visits v0 v1 v2 μ = some (r, μr)) : Met l yX11_visits (.code yX11_visits cX11_visits 8 none :: gw) rm_X11_visits (fPc w [.ref (w.2.2.1 v0), .int v1, .int v2] μ) (fQv w μr) 0 0 (fA w) := by
  refine met_of hJ (by decide) ?_ (Nat.le_of_ble_eq_true rfl)
  generalize ([.ref (w.2.2.1 v0), .int v1, .int v2] : List Value).toArray = args
  intro p e s m below meth c ls C hr hP hl hS
  obtain ⟨hx, hb, hml, hown, hts, hK, -, hlk, hT⟩ := id C
  have hl : lv_has ls 8 [(0, .ref (w.2.2.1 v0)), (1, .int v1), (2, .int v2)] := hl
  unfold f_X11_visits at h
  refine lv_aload_n hx hb dX11_visits_0 rfl (lv_at hl 0 rfl) ?_
  refine lv_iload_n hx hb dX11_visits_1 rfl (lv_at hl 1 rfl) ?_
  refine lv_iload_n hx hb dX11_visits_2 rfl (lv_at hl 2 rfl) ?_
  obtain ⟨r2, μ1, h3, h⟩ := bd_ok h
  refine go_i (callV_run (As := [.int v1, .int v2]) (rest := []) C hl hP (hS.wide hJ).2.1 (iw hw (fi_11 hk0)) hk0 (m_X11_seatOf l w hJ hw v0 v1 v2 hk0 μ h3) mv_X11_391 ⟨rfl, rfl, by decide, by decide⟩ rfl rfl (Nat.le_of_ble_eq_true rfl) ⟨Nat.zero_le _, Nat.zero_le _⟩ dX11_visits_3) hS (fun H locs hP hS => ?_)
  refine lv_istore_n (lv' := [(3, .int r2), (0, .ref (w.2.2.1 v0)), (1, .int v1), (2, .int v2)]) hx hb dX11_visits_6 rfl hl (by decide) rfl (fun ls hl => ?_)
  refine lv_iload_n hx hb dX11_visits_7 rfl (lv_at hl 0 rfl) ?_
  refine lv_iconst (v := (-1)) hx hb dX11_visits_8 (by decide) ?_
  refine lv_icmp_ne (tgt := 13) hx hb dX11_visits_9 (by decide) (fun c4 => ?_) (fun c4 => ?_)
  · replace h := if_f c4 h
    refine lv_aload_n hx hb dX11_visits_13 rfl (lv_at hl 1 rfl) ?_
    refine r_getF (off := 28) C hP (iw hw (fi_11 hk0)) hk0 fl_X11_96 rfl rfl (zw hw) dX11_visits_14 ?_
    refine lv_bipush (v := (6)) hx hb dX11_visits_17 (by decide) ?_
    refine lv_iload_n hx hb dX11_visits_19 rfl (lv_at hl 2 rfl) ?_
    refine lv_imul hx hb dX11_visits_20 ?_
    refine lv_iload_n hx hb dX11_visits_21 rfl (lv_at hl 0 rfl) ?_
    refine lv_iadd hx hb dX11_visits_22 ?_
    refine lv_dup2_11 hx hb dX11_visits_23 rfl rfl ?_
    obtain ⟨g5, h⟩ := gd_ok h
    refine r_iald C hP (iw hw (ff_11_43 hk0).2) (ff_11_43 hk0).1 g5 dX11_visits_24 ?_
    refine lv_iconst (v := (1)) hx hb dX11_visits_25 (by decide) ?_
    refine lv_iadd hx hb dX11_visits_26 ?_
    obtain ⟨g7, h⟩ := gd_ok h
    refine r_iast C hP hS (iw hw (ff_11_43 hk0).2) (ff_11_43 hk0).1 g7 dX11_visits_27 (fun H locs hP hS => ?_)
    obtain ⟨μ6, eμ6, h⟩ := vl_ex h
    have hP : fP w μ6 H := by rw [eμ6]; exact hP
    refine lv_aload_n hx hb dX11_visits_28 rfl (lv_at hl 1 rfl) ?_
    refine r_getF (off := 29) C hP (iw hw (fi_11 hk0)) hk0 fl_X11_99 rfl rfl (zw hw) dX11_visits_29 ?_
    refine lv_bipush (v := (6)) hx hb dX11_visits_32 (by decide) ?_
    refine lv_iload_n hx hb dX11_visits_34 rfl (lv_at hl 2 rfl) ?_
    refine lv_imul hx hb dX11_visits_35 ?_
    refine lv_iload_n hx hb dX11_visits_36 rfl (lv_at hl 3 rfl) ?_
    refine lv_iadd hx hb dX11_visits_37 ?_
    refine lv_dup2_11 hx hb dX11_visits_38 rfl rfl ?_
    obtain ⟨g8, h⟩ := gd_ok h
    refine r_iald C hP (iw hw (ff_11_44 hk0).2) (ff_11_44 hk0).1 g8 dX11_visits_39 ?_
    refine lv_iconst (v := (1)) hx hb dX11_visits_40 (by decide) ?_
    refine lv_iadd hx hb dX11_visits_41 ?_
    obtain ⟨g10, h⟩ := gd_ok h
    refine r_iast C hP hS (iw hw (ff_11_44 hk0).2) (ff_11_44 hk0).1 g10 dX11_visits_42 (fun H locs hP hS => ?_)
    obtain ⟨μ9, eμ9, h⟩ := vl_ex h
    have hP : fP w μ9 H := by rw [eμ9]; exact hP
    refine lv_iconst (v := (-1)) hx hb dX11_visits_43 (by decide) ?_
    refine lv_istore (lv' := [(4, .int (-1 : Int32)), (3, .int r2), (0, .ref (w.2.2.1 v0)), (1, .int v1), (2, .int v2)]) hx hb dX11_visits_44 hl (by decide) rfl (fun ls hl => ?_)
    refine lv_iconst (v := (0)) hx hb dX11_visits_46 (by decide) ?_
    refine lv_istore (lv' := [(5, .int (0 : Int32)), (4, .int (-1 : Int32)), (3, .int r2), (0, .ref (w.2.2.1 v0)), (1, .int v1), (2, .int v2)]) hx hb dX11_visits_47 hl (by decide) rfl (fun ls hl => ?_)
    refine lv_iconst (v := (0)) hx hb dX11_visits_49 (by decide) ?_
    refine lv_istore (lv' := [(6, .int (0 : Int32)), (5, .int (0 : Int32)), (4, .int (-1 : Int32)), (3, .int r2), (0, .ref (w.2.2.1 v0)), (1, .int v1), (2, .int v2)]) hx hb dX11_visits_50 hl (by decide) rfl (fun ls hl => ?_)
    obtain ⟨t27, q28, h54, h⟩ := bd_ok h
    refine lpn_ind (b := (fun (q : Int32 × Int32 × Int32 × fMem) => f_X11_visits_L52 v0 v1 v2 r2 q.1 q.2.1 q.2.2.1 q.2.2.2)) (P := fun (q : Int32 × Int32 × Int32 × fMem) => WW p l e rm_X11_visits s m args below meth c (MQ below (fQv w μr) args s 0 0 (fA w)) w q.2.2.2 8 52 [] [(0, .ref (w.2.2.1 v0)), (1, .int v1), (2, .int v2), (3, .int r2), (4, .int q.1), (5, .int q.2.1), (6, .int q.2.2.1)]) (K := fun _ (q : Int32 × Int32 × Int32 × fMem) => WW p l e rm_X11_visits s m args below meth c (MQ below (fQv w μr) args s 0 0 (fA w)) w q.2.2.2 8 131 [] [(0, .ref (w.2.2.1 v0)), (1, .int v1), (2, .int v2), (3, .int r2), (4, .int q.1), (5, .int q.2.1)]) ?_ fuel ((-1 : Int32), (0 : Int32), (0 : Int32), μ9) t27 q28 h54 ?_ _ _ _ hP hS (lv_sub hl [4, 5, 6, 3, 2, 1, 0] rfl)
    · intro q tz52 sz52 h hP0_52 hK0_52 H locs ls hP hS hl
      obtain ⟨v4, v5, v6, μ⟩ := q
      have hP : fP w μ H := hP
      have hl : lv_has ls 8 [(0, .ref (w.2.2.1 v0)), (1, .int v1), (2, .int v2), (3, .int r2), (4, .int v4), (5, .int v5), (6, .int v6)] := hl
      have h : f_X11_visits_L52 v0 v1 v2 r2 v4 v5 v6 μ = some (tz52, sz52) := h
      unfold f_X11_visits_L52 at h
      have J117 : ∀ (v6 : Int32) (v7 : Int32) (μ : fMem), f_X11_visits_j117 v0 v1 v2 r2 v6 v7 μ = some (tz52, sz52) → WW p l e rm_X11_visits s m args below meth c (MQ below (fQv w μr) args s 0 0 (fA w)) w μ 8 117 [] [(0, .ref (w.2.2.1 v0)), (1, .int v1), (2, .int v2), (3, .int r2), (6, .int v6), (7, .int v7)] := by
        intro v6 v7 μ  h H locs ls hP hS hl
        unfold f_X11_visits_j117 at h
        refine lv_iload hx hb dX11_visits_117 (lv_at hl 4 rfl) ?_
        refine lv_istore (lv' := [(4, .int v6), (0, .ref (w.2.2.1 v0)), (1, .int v1), (2, .int v2), (3, .int r2), (6, .int v6), (7, .int v7)]) hx hb dX11_visits_119 hl (by decide) rfl (fun ls hl => ?_)
        refine lv_iload hx hb dX11_visits_121 (lv_at hl 6 rfl) ?_
        refine lv_istore (lv' := [(5, .int v7), (4, .int v6), (0, .ref (w.2.2.1 v0)), (1, .int v1), (2, .int v2), (3, .int r2), (6, .int v6), (7, .int v7)]) hx hb dX11_visits_123 hl (by decide) rfl (fun ls hl => ?_)
        obtain ⟨x26, ex26⟩ : ∃ y : Int32, y = (v6 + (1 : Int32)) := ⟨_, rfl⟩
        replace h := vl_ok ex26 h
        refine lv_iinc (v := x26) (lv' := [(6, .int x26), (5, .int v7), (4, .int v6), (0, .ref (w.2.2.1 v0)), (1, .int v1), (2, .int v2), (3, .int r2), (7, .int v7)]) hx hb dX11_visits_125 hl (k := 6) rfl (by rw [ex26]; rfl) (by decide) rfl (fun ls hl => ?_)
        refine lv_goto (tgt := 52) hx hb dX11_visits_128 (by decide) ?_
        obtain ⟨rfl, rfl⟩ := leaf h
        exact hP0_52 rfl _ _ _ hP hS (lv_sub hl [3, 4, 5, 6, 2, 1, 0] rfl)
      refine lv_iload hx hb dX11_visits_52 (lv_at hl 6 rfl) ?_
      refine lv_aload_n hx hb dX11_visits_54 rfl (lv_at hl 0 rfl) ?_
      refine r_getF (off := 2) C hP (iw hw (fi_11 hk0)) hk0 fl_X11_13 rfl rfl (zw hw) dX11_visits_55 ?_
      refine lv_iconst (v := (2)) hx hb dX11_visits_58 (by decide) ?_
      refine n_iald (j := 2) C hP (iw hw (ff_11_3 hk0).2) (ff_11_3 hk0).1 (by decide) (by decide) dX11_visits_59 ?_
      refine lv_icmp_ge (tgt := 131) hx hb dX11_visits_60 (by decide) (fun c11 => ?_) (fun c11 => ?_)
      · replace h := if_t c11 h
        obtain ⟨rfl, rfl⟩ := leaf h
        exact (hK0_52 0 rfl) _ _ _ hP hS (lv_sub hl [0, 1, 2, 3, 4, 5] rfl)
      · replace h := if_f c11 h
        refine lv_aload_n hx hb dX11_visits_63 rfl (lv_at hl 0 rfl) ?_
        refine lv_iload hx hb dX11_visits_64 (lv_at hl 6 rfl) ?_
        obtain ⟨r13, μ12, h14, h⟩ := bd_ok h
        refine go_i (callV_run (As := [.int v6]) (rest := []) C hl hP (hS.wide hJ).2.1 (iw hw (fi_11 hk0)) hk0 (m_X11_isHung l w hJ hw v0 v6 hk0 μ h14) mv_X11_375 ⟨rfl, rfl, by decide, by decide⟩ rfl rfl (Nat.le_of_ble_eq_true rfl) ⟨Nat.zero_le _, Nat.zero_le _⟩ dX11_visits_66) hS (fun H locs hP hS => ?_)
        refine lv_if_eq (tgt := 125) hx hb dX11_visits_69 (by decide) (fun c15 => ?_) (fun c15 => ?_)
        · replace h := if_t c15 h
          obtain ⟨x16, ex16⟩ : ∃ y : Int32, y = (v6 + (1 : Int32)) := ⟨_, rfl⟩
          replace h := vl_ok ex16 h
          refine lv_iinc (v := x16) (lv' := [(6, .int x16), (0, .ref (w.2.2.1 v0)), (1, .int v1), (2, .int v2), (3, .int r2), (4, .int v4), (5, .int v5)]) hx hb dX11_visits_125 hl (k := 6) rfl (by rw [ex16]; rfl) (by decide) rfl (fun ls hl => ?_)
          refine lv_goto (tgt := 52) hx hb dX11_visits_128 (by decide) ?_
          obtain ⟨rfl, rfl⟩ := leaf h
          exact hP0_52 rfl _ _ _ hP hS (lv_sub hl [1, 2, 3, 4, 5, 6, 0] rfl)
        · replace h := if_f c15 h
          refine lv_aload_n hx hb dX11_visits_72 rfl (lv_at hl 0 rfl) ?_
          refine r_getF (off := 25) C hP (iw hw (fi_11 hk0)) hk0 fl_X11_87 rfl rfl (zw hw) dX11_visits_73 ?_
          refine lv_bipush (v := (8)) hx hb dX11_visits_76 (by decide) ?_
          refine lv_iload_n hx hb dX11_visits_78 rfl (lv_at hl 1 rfl) ?_
          refine lv_imul hx hb dX11_visits_79 ?_
          refine lv_iload hx hb dX11_visits_80 (lv_at hl 6 rfl) ?_
          refine lv_iadd hx hb dX11_visits_82 ?_
          obtain ⟨g17, h⟩ := gd_ok h
          refine r_iald C hP (iw hw (ff_11_40 hk0).2) (ff_11_40 hk0).1 g17 dX11_visits_83 ?_
          refine lv_iload_n hx hb dX11_visits_84 rfl (lv_at hl 3 rfl) ?_
          refine lv_icmp_eq (tgt := 91) hx hb dX11_visits_85 (by decide) (fun c18 => ?_) (fun c18 => ?_)
          · replace h := if_t c18 h
            refine lv_aload_n hx hb dX11_visits_91 rfl (lv_at hl 0 rfl) ?_
            refine lv_iload_n hx hb dX11_visits_92 rfl (lv_at hl 1 rfl) ?_
            refine lv_iload_n hx hb dX11_visits_93 rfl (lv_at hl 2 rfl) ?_
            refine lv_iload hx hb dX11_visits_94 (lv_at hl 6 rfl) ?_
            obtain ⟨r20, μ19, h21, h⟩ := bd_ok h
            refine go_i (callV_run (As := [.int v1, .int v2, .int v6]) (rest := []) C hl hP (hS.wide hJ).2.1 (iw hw (fi_11 hk0)) hk0 (m_X11_likingOf l w hJ hw v0 v1 v2 v6 hk0 μ12 h21) mv_X11_378 ⟨rfl, rfl, by decide, by decide⟩ rfl rfl (Nat.le_of_ble_eq_true rfl) ⟨Nat.zero_le _, Nat.zero_le _⟩ dX11_visits_96) hS (fun H locs hP hS => ?_)
            refine lv_istore (lv' := [(7, .int r20), (0, .ref (w.2.2.1 v0)), (1, .int v1), (2, .int v2), (3, .int r2), (4, .int v4), (5, .int v5), (6, .int v6)]) hx hb dX11_visits_99 hl (by decide) rfl (fun ls hl => ?_)
            refine lv_iload hx hb dX11_visits_101 (lv_at hl 5 rfl) ?_
            refine lv_iconst (v := (-1)) hx hb dX11_visits_103 (by decide) ?_
            refine lv_icmp_eq (tgt := 117) hx hb dX11_visits_104 (by decide) (fun c22 => ?_) (fun c22 => ?_)
            · replace h := if_t c22 h
              exact J117 v6 r20 μ19  h _ _ _ hP hS (lv_sub hl [1, 2, 3, 4, 7, 0] rfl)
            · replace h := if_f c22 h
              refine lv_iload hx hb dX11_visits_107 (lv_at hl 0 rfl) ?_
              refine lv_iload hx hb dX11_visits_109 (lv_at hl 6 rfl) ?_
              refine lv_icmp_lt (tgt := 117) hx hb dX11_visits_111 (by decide) (fun c23 => ?_) (fun c23 => ?_)
              · replace h := if_t c23 h
                exact J117 v6 r20 μ19  h _ _ _ hP hS (lv_sub hl [1, 2, 3, 4, 7, 0] rfl)
              · replace h := if_f c23 h
                refine lv_goto (tgt := 125) hx hb dX11_visits_114 (by decide) ?_
                obtain ⟨x24, ex24⟩ : ∃ y : Int32, y = (v6 + (1 : Int32)) := ⟨_, rfl⟩
                replace h := vl_ok ex24 h
                refine lv_iinc (v := x24) (lv' := [(6, .int x24), (7, .int r20), (0, .ref (w.2.2.1 v0)), (1, .int v1), (2, .int v2), (3, .int r2), (4, .int v4), (5, .int v5)]) hx hb dX11_visits_125 hl (k := 7) rfl (by rw [ex24]; rfl) (by decide) rfl (fun ls hl => ?_)
                refine lv_goto (tgt := 52) hx hb dX11_visits_128 (by decide) ?_
                obtain ⟨rfl, rfl⟩ := leaf h
                exact hP0_52 rfl _ _ _ hP hS (lv_sub hl [2, 3, 4, 5, 6, 7, 0] rfl)
          · replace h := if_f c18 h
            refine lv_goto (tgt := 125) hx hb dX11_visits_88 (by decide) ?_
            obtain ⟨x25, ex25⟩ : ∃ y : Int32, y = (v6 + (1 : Int32)) := ⟨_, rfl⟩
            replace h := vl_ok ex25 h
            refine lv_iinc (v := x25) (lv' := [(6, .int x25), (0, .ref (w.2.2.1 v0)), (1, .int v1), (2, .int v2), (3, .int r2), (4, .int v4), (5, .int v5)]) hx hb dX11_visits_125 hl (k := 6) rfl (by rw [ex25]; rfl) (by decide) rfl (fun ls hl => ?_)
            refine lv_goto (tgt := 52) hx hb dX11_visits_128 (by decide) ?_
            obtain ⟨rfl, rfl⟩ := leaf h
            exact hP0_52 rfl _ _ _ hP hS (lv_sub hl [1, 2, 3, 4, 5, 6, 0] rfl)
    · obtain ⟨x29, x30, x31, μ32⟩ := q28
      intro H locs ls hP hS hl
      have hP : fP w μ32 H := hP
      have hl : lv_has ls 8 [(0, .ref (w.2.2.1 v0)), (1, .int v1), (2, .int v2), (3, .int r2), (4, .int x29), (5, .int x30)] := hl
      try dsimp only at h
      refine lv_iload hx hb dX11_visits_131 (lv_at hl 4 rfl) ?_
      refine lv_iconst (v := (-1)) hx hb dX11_visits_133 (by decide) ?_
      refine lv_icmp_eq (tgt := 145) hx hb dX11_visits_134 (by decide) (fun c33 => ?_) (fun c33 => ?_)
      · replace h := if_t c33 h
        exact r_vret C hr hP hS h dX11_visits_145
      · replace h := if_f c33 h
        refine lv_aload_n hx hb dX11_visits_137 rfl (lv_at hl 0 rfl) ?_
        refine r_getI C hP (iw hw (fi_11 hk0)) hk0 fl_X11_343 (Or.inl rfl) dX11_visits_138 ?_
        refine lv_iconst (v := (4)) hx hb dX11_visits_141 (by decide) ?_
        refine lv_icmp_ne (tgt := 146) hx hb dX11_visits_142 (by decide) (fun c34 => ?_) (fun c34 => ?_)
        · replace h := if_f c34 h
          refine lv_aload_n hx hb dX11_visits_146 rfl (lv_at hl 0 rfl) ?_
          refine lv_iload_n hx hb dX11_visits_147 rfl (lv_at hl 1 rfl) ?_
          refine lv_iload_n hx hb dX11_visits_148 rfl (lv_at hl 2 rfl) ?_
          refine lv_iload hx hb dX11_visits_149 (lv_at hl 4 rfl) ?_
          obtain ⟨r36, μ35, h37, h⟩ := bd_ok h
          refine go_v (callV_run (As := [.int v1, .int v2, .int x29]) (rest := []) C hl hP (hS.wide hJ).2.1 (iw hw (fi_11 hk0)) hk0 (m_X11_calls l w hJ hw v0 v1 v2 x29 hk0 μ32 h37) mv_X11_365 ⟨rfl, rfl, by decide, by decide⟩ rfl rfl (Nat.le_of_ble_eq_true rfl) ⟨Nat.zero_le _, Nat.zero_le _⟩ dX11_visits_151) hS (fun H locs hP hS => ?_)
          refine lv_iload hx hb dX11_visits_154 (lv_at hl 5 rfl) ?_
          refine lv_aload_n hx hb dX11_visits_156 rfl (lv_at hl 0 rfl) ?_
          refine lv_iconst (v := (1)) hx hb dX11_visits_157 (by decide) ?_
          refine lv_bipush (v := (100)) hx hb dX11_visits_158 (by decide) ?_
          refine lv_bipush (v := (30)) hx hb dX11_visits_160 (by decide) ?_
          obtain ⟨r39, μ38, h40, h⟩ := bd_ok h
          refine go_i (callV_run (As := [.int (1 : Int32), .int (100 : Int32), .int (30 : Int32)]) (rest := [.int x30]) C hl hP (hS.wide hJ).2.1 (iw hw (fi_11 hk0)) hk0 (m_X11_within l w hJ hw v0 (1 : Int32) (100 : Int32) (30 : Int32) hk0 μ35 h40) mv_X11_371 ⟨rfl, rfl, by decide, by decide⟩ rfl rfl (Nat.le_of_ble_eq_true rfl) ⟨Nat.zero_le _, Nat.zero_le _⟩ dX11_visits_162) hS (fun H locs hP hS => ?_)
          refine lv_icmp_lt (tgt := 169) hx hb dX11_visits_165 (by decide) (fun c41 => ?_) (fun c41 => ?_)
          · replace h := if_t c41 h
            refine lv_aload_n hx hb dX11_visits_169 rfl (lv_at hl 0 rfl) ?_
            refine lv_iload_n hx hb dX11_visits_170 rfl (lv_at hl 3 rfl) ?_
            obtain ⟨r43, μ42, h44, h⟩ := bd_ok h
            refine go_i (callV_run (As := [.int r2]) (rest := []) C hl hP (hS.wide hJ).2.1 (iw hw (fi_11 hk0)) hk0 (m_X11_nextTo l w hJ hw v0 r2 hk0 μ38 h44) mv_X11_394 ⟨rfl, rfl, by decide, by decide⟩ rfl rfl (Nat.le_of_ble_eq_true rfl) ⟨Nat.zero_le _, Nat.zero_le _⟩ dX11_visits_171) hS (fun H locs hP hS => ?_)
            refine lv_istore (lv' := [(6, .int r43), (0, .ref (w.2.2.1 v0)), (1, .int v1), (2, .int v2), (3, .int r2), (4, .int x29), (5, .int x30)]) hx hb dX11_visits_174 hl (by decide) rfl (fun ls hl => ?_)
            refine lv_iload hx hb dX11_visits_176 (lv_at hl 0 rfl) ?_
            refine lv_iconst (v := (-1)) hx hb dX11_visits_178 (by decide) ?_
            refine lv_icmp_ne (tgt := 199) hx hb dX11_visits_179 (by decide) (fun c45 => ?_) (fun c45 => ?_)
            · replace h := if_f c45 h
              refine lv_aload_n hx hb dX11_visits_199 rfl (lv_at hl 1 rfl) ?_
              refine r_getF (off := 25) C hP (iw hw (fi_11 hk0)) hk0 fl_X11_87 rfl rfl (zw hw) dX11_visits_200 ?_
              refine lv_bipush (v := (8)) hx hb dX11_visits_203 (by decide) ?_
              refine lv_iload_n hx hb dX11_visits_205 rfl (lv_at hl 2 rfl) ?_
              refine lv_imul hx hb dX11_visits_206 ?_
              refine lv_iload hx hb dX11_visits_207 (lv_at hl 5 rfl) ?_
              refine lv_iadd hx hb dX11_visits_209 ?_
              refine lv_iload hx hb dX11_visits_210 (lv_at hl 0 rfl) ?_
              obtain ⟨g47, h⟩ := gd_ok h
              refine r_iast C hP hS (iw hw (ff_11_40 hk0).2) (ff_11_40 hk0).1 g47 dX11_visits_212 (fun H locs hP hS => ?_)
              obtain ⟨μ46, eμ46, h⟩ := vl_ex h
              have hP : fP w μ46 H := by rw [eμ46]; exact hP
              refine lv_aload_n hx hb dX11_visits_213 rfl (lv_at hl 1 rfl) ?_
              refine r_getF (off := 26) C hP (iw hw (fi_11 hk0)) hk0 fl_X11_90 rfl rfl (zw hw) dX11_visits_214 ?_
              refine lv_bipush (v := (8)) hx hb dX11_visits_217 (by decide) ?_
              refine lv_iload_n hx hb dX11_visits_219 rfl (lv_at hl 2 rfl) ?_
              refine lv_imul hx hb dX11_visits_220 ?_
              refine lv_iload hx hb dX11_visits_221 (lv_at hl 5 rfl) ?_
              refine lv_iadd hx hb dX11_visits_223 ?_
              refine lv_dup2_11 hx hb dX11_visits_224 rfl rfl ?_
              obtain ⟨g48, h⟩ := gd_ok h
              refine r_iald C hP (iw hw (ff_11_41 hk0).2) (ff_11_41 hk0).1 g48 dX11_visits_225 ?_
              refine lv_iconst (v := (1)) hx hb dX11_visits_226 (by decide) ?_
              refine lv_iadd hx hb dX11_visits_227 ?_
              obtain ⟨g50, h⟩ := gd_ok h
              refine r_iast C hP hS (iw hw (ff_11_41 hk0).2) (ff_11_41 hk0).1 g50 dX11_visits_228 (fun H locs hP hS => ?_)
              obtain ⟨μ49, eμ49, h⟩ := vl_ex h
              have hP : fP w μ49 H := by rw [eμ49]; exact hP
              exact r_vret C hr hP hS h dX11_visits_229
            · replace h := if_t c45 h
              refine lv_aload_n hx hb dX11_visits_182 rfl (lv_at hl 1 rfl) ?_
              refine r_getF (off := 27) C hP (iw hw (fi_11 hk0)) hk0 fl_X11_93 rfl rfl (zw hw) dX11_visits_183 ?_
              refine lv_bipush (v := (8)) hx hb dX11_visits_186 (by decide) ?_
              refine lv_iload_n hx hb dX11_visits_188 rfl (lv_at hl 2 rfl) ?_
              refine lv_imul hx hb dX11_visits_189 ?_
              refine lv_iload hx hb dX11_visits_190 (lv_at hl 5 rfl) ?_
              refine lv_iadd hx hb dX11_visits_192 ?_
              refine lv_dup2_11 hx hb dX11_visits_193 rfl rfl ?_
              obtain ⟨g51, h⟩ := gd_ok h
              refine r_iald C hP (iw hw (ff_11_42 hk0).2) (ff_11_42 hk0).1 g51 dX11_visits_194 ?_
              refine lv_iconst (v := (1)) hx hb dX11_visits_195 (by decide) ?_
              refine lv_iadd hx hb dX11_visits_196 ?_
              obtain ⟨g53, h⟩ := gd_ok h
              refine r_iast C hP hS (iw hw (ff_11_42 hk0).2) (ff_11_42 hk0).1 g53 dX11_visits_197 (fun H locs hP hS => ?_)
              obtain ⟨μ52, eμ52, h⟩ := vl_ex h
              have hP : fP w μ52 H := by rw [eμ52]; exact hP
              exact r_vret C hr hP hS h dX11_visits_198
          · replace h := if_f c41 h
            exact r_vret C hr hP hS h dX11_visits_168
        · replace h := if_t c34 h
          exact r_vret C hr hP hS h dX11_visits_145
  · replace h := if_t c4 h
    exact r_vret C hr hP hS h dX11_visits_12

