def f_X11_tastes_L19 (v0 : Nat) (v1 : Int32) (v3 : Int32) (μ : fMem) : Option (Nat × (Int32 × fMem)) :=
  bd (f_X11_knownMany v0 μ) fun r7 μ6 => if r7 ≤ v3 then some (1, (v3, μ6)) else gd (ixo v3 24) (vl (sI μ6 (v0 + 39) (Int32.toNatClampNeg v3) (0 : Int32)) fun μ10 => vl (v3 + (1 : Int32)) fun x12 => some (0, (x12, μ10)))
def f_X11_tastes_L47 (v0 : Nat) (v1 : Int32) (v3 : Int32) (μ : fMem) : Option (Nat × (Int32 × fMem)) :=
  if v3 < 0 then some (1, (v3, μ)) else gd (ixo v3 24) (if (μ.1 (v0 + 39) (Int32.toNatClampNeg v3)) = 0 then gd (ixo v3 24) (if (μ.1 (v0 + 38) (Int32.toNatClampNeg v3)) = (-1 : Int32) then vl (v3 + (-1 : Int32)) fun x27 => some (0, (x27, μ)) else gd (ixo v3 24) (gd (ixo (μ.1 (v0 + 38) (Int32.toNatClampNeg v3)) 24) (vl (sI μ (v0 + 39) (Int32.toNatClampNeg (μ.1 (v0 + 38) (Int32.toNatClampNeg v3))) (1 : Int32)) fun μ29 => vl (v3 + (-1 : Int32)) fun x31 => some (0, (x31, μ29))))) else vl (v3 + (-1 : Int32)) fun x24 => some (0, (x24, μ)))
def f_X11_tastes_L90 (v0 : Nat) (v1 : Int32) (v2 : Int32) (v3 : Int32) (μ : fMem) : Option (Nat × (Int32 × Int32 × fMem)) :=
  bd (f_X11_knownMany v0 μ) fun r37 μ36 => if r37 ≤ v3 then some (1, (v2, v3, μ36)) else gd (ixo v3 24) (if (μ36.1 (v0 + 39) (Int32.toNatClampNeg v3)) = 0 then gd (ixo v3 24) (if (μ36.1 (v0 + 38) (Int32.toNatClampNeg v3)) = (-1 : Int32) then gd (ixo v3 24) (vl (imx v2 (μ36.1 (v0 + 34) (Int32.toNatClampNeg v3))) fun x47 => vl (v3 + (1 : Int32)) fun x48 => some (0, (x47, x48, μ36))) else vl (v3 + (1 : Int32)) fun x45 => some (0, (v2, x45, μ36))) else vl (v3 + (1 : Int32)) fun x42 => some (0, (v2, x42, μ36)))
def f_X11_tastes_L144 (v0 : Nat) (x51 : Int32) (v3 : Int32) (v4 : Int32) (μ : fMem) : Option (Nat × (Int32 × Int32 × fMem)) :=
  if (9 : Int32) < v4 then some (1, (v3, v4, μ)) else vl (sI μ v0 51 v4) fun μ56 => bd (f_X11_fitsTaste v0 x51 μ56) fun r58 μ57 => if r58 = 0 then vl (v3 ||| (0 : Int32)) fun x61 => vl (v4 + (1 : Int32)) fun x62 => some (0, (x61, x62, μ57)) else vl (v3 ||| (shl (1 : Int32) v4)) fun x63 => vl (v4 + (1 : Int32)) fun x64 => some (0, (x63, x64, μ57))
def f_X11_tastes (v0 : Nat) (v1 : Int32) (μ : fMem) : Option (Int32 × fMem) :=
  vl (sI μ v0 0 (0 : Int32)) fun μ1 => bd (f_X11_isDead v0 v1 μ1) fun r3 μ2 => if r3 = 0 then some ((-1 : Int32), μ2) else bd (lpn (fun (q : Int32 × fMem) => f_X11_tastes_L19 v0 v1 q.1 q.2) fuel ((0 : Int32), μ2)) fun t13 q14 => (fun (x15 : Int32) (μ16 : fMem) => bd (f_X11_knownMany v0 μ16) fun r18 μ17 => vl (r18 - (1 : Int32)) fun x20 => bd (lpn (fun (q : Int32 × fMem) => f_X11_tastes_L47 v0 v1 q.1 q.2) fuel (x20, μ17)) fun t32 q33 => (fun (x34 : Int32) (μ35 : fMem) => bd (lpn (fun (q : Int32 × Int32 × fMem) => f_X11_tastes_L90 v0 v1 q.1 q.2.1 q.2.2) fuel ((0 : Int32), (0 : Int32), μ35)) fun t49 q50 => (fun (x51 : Int32) (x52 : Int32) (μ53 : fMem) => vl (sI μ53 v0 50 v1) fun μ54 => bd (lpn (fun (q : Int32 × Int32 × fMem) => f_X11_tastes_L144 v0 x51 q.1 q.2.1 q.2.2) fuel ((0 : Int32), (0 : Int32), μ54)) fun t65 q66 => (fun (x67 : Int32) (x68 : Int32) (μ69 : fMem) => vl (sI μ69 v0 50 (-1 : Int32)) fun μ70 => some (x67, μ70)) q66.1 q66.2.1 q66.2.2) q50.1 q50.2.1 q50.2.2) q33.1 q33.2) q14.1 q14.2
def rm_X11_tastes : Room := { frames := 10, cells := 0, slots := 0, locals := 298 }
set_option maxHeartbeats 4000000 in
set_option maxRecDepth 100000 in
theorem m_X11_tastes (l : Launch) (w : fW) (hJ : fJ w) (hw : w.2.2.2 = sd 1) (v0 : Nat) (v1 : Int32) (hk0 : kd v0 = (4, 11)) (μ : fMem) {r : Int32} {μr : fMem} (h : f_X11_tastes v0 v1 μ = some (r, μr)) : Met l yX11_tastes (.code yX11_tastes cX11_tastes 5 (some .int) :: gw) rm_X11_tastes (fPc w [.ref (w.2.2.1 v0), .int v1] μ) (fQi w r μr) 0 0 (fA w) := by
  refine met_of hJ (by decide) ?_ (Nat.le_of_ble_eq_true rfl)
  generalize ([.ref (w.2.2.1 v0), .int v1] : List Value).toArray = args
  intro p e s m below meth c ls C hr hP hl hS
  obtain ⟨hx, hb, hml, hown, hts, hK, -, hlk, hT⟩ := id C
  have hl : lv_has ls 5 [(0, .ref (w.2.2.1 v0)), (1, .int v1)] := hl
  unfold f_X11_tastes at h
  refine lv_aload_n hx hb dX11_tastes_0 rfl (lv_at hl 0 rfl) ?_
  refine lv_iconst (v := (0)) hx hb dX11_tastes_1 (by decide) ?_
  refine r_putI C hP hS (iw hw (fi_11 hk0)) hk0 fp_X11_148 rfl dX11_tastes_2 (fun H locs hP hS => ?_)
  obtain ⟨μ1, eμ1, h⟩ := vl_ex h
  have hP : fP w μ1 H := by rw [eμ1]; exact hP
  refine lv_aload_n hx hb dX11_tastes_5 rfl (lv_at hl 0 rfl) ?_
  refine lv_iload_n hx hb dX11_tastes_6 rfl (lv_at hl 1 rfl) ?_
  obtain ⟨r3, μ2, h4, h⟩ := bd_ok h
  refine go_i (callV_run (As := [.int v1]) (rest := []) C hl hP (hS.wide hJ).2.1 (iw hw (fi_11 hk0)) hk0 (m_X11_isDead l w hJ hw v0 v1 hk0 μ1 h4) mv_X11_428 ⟨rfl, rfl, by decide, by decide⟩ rfl rfl (Nat.le_of_ble_eq_true rfl) ⟨Nat.zero_le _, Nat.zero_le _⟩ dX11_tastes_7) hS (fun H locs hP hS => ?_)
  refine lv_if_ne (tgt := 15) hx hb dX11_tastes_10 (by decide) (fun c5 => ?_) (fun c5 => ?_)
  · replace h := if_f c5 h
    refine lv_iconst (v := (0)) hx hb dX11_tastes_15 (by decide) ?_
    refine lv_istore_n (lv' := [(2, .int (0 : Int32)), (0, .ref (w.2.2.1 v0)), (1, .int v1)]) hx hb dX11_tastes_16 rfl hl (by decide) rfl (fun ls hl => ?_)
    refine lv_iconst (v := (0)) hx hb dX11_tastes_17 (by decide) ?_
    refine lv_istore_n (lv' := [(3, .int (0 : Int32)), (2, .int (0 : Int32)), (0, .ref (w.2.2.1 v0)), (1, .int v1)]) hx hb dX11_tastes_18 rfl hl (by decide) rfl (fun ls hl => ?_)
    obtain ⟨t13, q14, h74, h⟩ := bd_ok h
    refine lpn_ind (b := (fun (q : Int32 × fMem) => f_X11_tastes_L19 v0 v1 q.1 q.2)) (P := fun (q : Int32 × fMem) => WW p l e rm_X11_tastes s m args below meth c (MQ below (fQi w r μr) args s 0 0 (fA w)) w q.2 5 19 [] [(0, .ref (w.2.2.1 v0)), (1, .int v1), (2, .int (0 : Int32)), (3, .int q.1)]) (K := fun _ (q : Int32 × fMem) => WW p l e rm_X11_tastes s m args below meth c (MQ below (fQi w r μr) args s 0 0 (fA w)) w q.2 5 40 [] [(0, .ref (w.2.2.1 v0)), (1, .int v1), (2, .int (0 : Int32))]) ?_ fuel ((0 : Int32), μ2) t13 q14 h74 ?_ _ _ _ hP hS (lv_sub hl [2, 3, 1, 0] rfl)
    · intro q tz19 sz19 h hP0_19 hK0_19 H locs ls hP hS hl
      obtain ⟨v3, μ⟩ := q
      have hP : fP w μ H := hP
      have hl : lv_has ls 5 [(0, .ref (w.2.2.1 v0)), (1, .int v1), (2, .int (0 : Int32)), (3, .int v3)] := hl
      have h : f_X11_tastes_L19 v0 v1 v3 μ = some (tz19, sz19) := h
      unfold f_X11_tastes_L19 at h
      refine lv_iload_n hx hb dX11_tastes_19 rfl (lv_at hl 3 rfl) ?_
      refine lv_aload_n hx hb dX11_tastes_20 rfl (lv_at hl 0 rfl) ?_
      obtain ⟨r7, μ6, h8, h⟩ := bd_ok h
      refine go_i (callV_run (As := []) (rest := [.int v3]) C hl hP (hS.wide hJ).2.1 (iw hw (fi_11 hk0)) hk0 (m_X11_knownMany l w hJ hw v0 hk0 μ h8) mv_X11_476 ⟨rfl, rfl, by decide, by decide⟩ rfl rfl (Nat.le_of_ble_eq_true rfl) ⟨Nat.zero_le _, Nat.zero_le _⟩ dX11_tastes_21) hS (fun H locs hP hS => ?_)
      refine lv_icmp_ge (tgt := 40) hx hb dX11_tastes_24 (by decide) (fun c9 => ?_) (fun c9 => ?_)
      · replace h := if_t c9 h
        obtain ⟨rfl, rfl⟩ := leaf h
        exact (hK0_19 0 rfl) _ _ _ hP hS (lv_sub hl [0, 1, 2] rfl)
      · replace h := if_f c9 h
        refine lv_aload_n hx hb dX11_tastes_27 rfl (lv_at hl 0 rfl) ?_
        refine r_getF (off := 39) C hP (iw hw (fi_11 hk0)) hk0 fl_X11_142 rfl rfl (zw hw) dX11_tastes_28 ?_
        refine lv_iload_n hx hb dX11_tastes_31 rfl (lv_at hl 3 rfl) ?_
        refine lv_iconst (v := (0)) hx hb dX11_tastes_32 (by decide) ?_
        obtain ⟨g11, h⟩ := gd_ok h
        refine r_zast C hP hS (iw hw (ff_11_64 hk0).2) (ff_11_64 hk0).1 g11 (Or.inl rfl) dX11_tastes_33 (fun H locs hP hS => ?_)
        obtain ⟨μ10, eμ10, h⟩ := vl_ex h
        have hP : fP w μ10 H := by rw [eμ10]; exact hP
        obtain ⟨x12, ex12⟩ : ∃ y : Int32, y = (v3 + (1 : Int32)) := ⟨_, rfl⟩
        replace h := vl_ok ex12 h
        refine lv_iinc (v := x12) (lv' := [(3, .int x12), (0, .ref (w.2.2.1 v0)), (1, .int v1), (2, .int (0 : Int32))]) hx hb dX11_tastes_34 hl (k := 3) rfl (by rw [ex12]; rfl) (by decide) rfl (fun ls hl => ?_)
        refine lv_goto (tgt := 19) hx hb dX11_tastes_37 (by decide) ?_
        obtain ⟨rfl, rfl⟩ := leaf h
        exact hP0_19 rfl _ _ _ hP hS (lv_sub hl [1, 2, 3, 0] rfl)
    · obtain ⟨x15, μ16⟩ := q14
      intro H locs ls hP hS hl
      have hP : fP w μ16 H := hP
      have hl : lv_has ls 5 [(0, .ref (w.2.2.1 v0)), (1, .int v1), (2, .int (0 : Int32))] := hl
      try dsimp only at h
      refine lv_aload_n hx hb dX11_tastes_40 rfl (lv_at hl 0 rfl) ?_
      obtain ⟨r18, μ17, h19, h⟩ := bd_ok h
      refine go_i (callV_run (As := []) (rest := []) C hl hP (hS.wide hJ).2.1 (iw hw (fi_11 hk0)) hk0 (m_X11_knownMany l w hJ hw v0 hk0 μ16 h19) mv_X11_476 ⟨rfl, rfl, by decide, by decide⟩ rfl rfl (Nat.le_of_ble_eq_true rfl) ⟨Nat.zero_le _, Nat.zero_le _⟩ dX11_tastes_41) hS (fun H locs hP hS => ?_)
      refine lv_iconst (v := (1)) hx hb dX11_tastes_44 (by decide) ?_
      refine lv_isub hx hb dX11_tastes_45 ?_
      refine lv_topi (fun x20 ex20 => ?_)
      replace h := vl_ok ex20 h
      refine lv_istore_n (lv' := [(3, .int x20), (0, .ref (w.2.2.1 v0)), (1, .int v1), (2, .int (0 : Int32))]) hx hb dX11_tastes_46 rfl hl (by decide) rfl (fun ls hl => ?_)
      obtain ⟨t32, q33, h73, h⟩ := bd_ok h
      refine lpn_ind (b := (fun (q : Int32 × fMem) => f_X11_tastes_L47 v0 v1 q.1 q.2)) (P := fun (q : Int32 × fMem) => WW p l e rm_X11_tastes s m args below meth c (MQ below (fQi w r μr) args s 0 0 (fA w)) w q.2 5 47 [] [(0, .ref (w.2.2.1 v0)), (1, .int v1), (2, .int (0 : Int32)), (3, .int q.1)]) (K := fun _ (q : Int32 × fMem) => WW p l e rm_X11_tastes s m args below meth c (MQ below (fQi w r μr) args s 0 0 (fA w)) w q.2 5 88 [] [(0, .ref (w.2.2.1 v0)), (1, .int v1), (2, .int (0 : Int32))]) ?_ fuel (x20, μ17) t32 q33 h73 ?_ _ _ _ hP hS (lv_sub hl [1, 2, 3, 0] rfl)
      · intro q tz47 sz47 h hP0_47 hK0_47 H locs ls hP hS hl
        obtain ⟨v3, μ⟩ := q
        have hP : fP w μ H := hP
        have hl : lv_has ls 5 [(0, .ref (w.2.2.1 v0)), (1, .int v1), (2, .int (0 : Int32)), (3, .int v3)] := hl
        have h : f_X11_tastes_L47 v0 v1 v3 μ = some (tz47, sz47) := h
        unfold f_X11_tastes_L47 at h
        refine lv_iload_n hx hb dX11_tastes_47 rfl (lv_at hl 3 rfl) ?_
        refine lv_if_lt (tgt := 88) hx hb dX11_tastes_48 (by decide) (fun c21 => ?_) (fun c21 => ?_)
        · replace h := if_t c21 h
          obtain ⟨rfl, rfl⟩ := leaf h
          exact (hK0_47 0 rfl) _ _ _ hP hS (lv_sub hl [0, 1, 2] rfl)
        · replace h := if_f c21 h
          refine lv_aload_n hx hb dX11_tastes_51 rfl (lv_at hl 0 rfl) ?_
          refine r_getF (off := 39) C hP (iw hw (fi_11 hk0)) hk0 fl_X11_142 rfl rfl (zw hw) dX11_tastes_52 ?_
          refine lv_iload_n hx hb dX11_tastes_55 rfl (lv_at hl 3 rfl) ?_
          obtain ⟨g22, h⟩ := gd_ok h
          refine r_zald C hP (iw hw (ff_11_64 hk0).2) (ff_11_64 hk0).1 g22 dX11_tastes_56 ?_
          refine lv_if_ne (tgt := 82) hx hb dX11_tastes_57 (by decide) (fun c23 => ?_) (fun c23 => ?_)
          · replace h := if_f c23 h
            obtain ⟨x24, ex24⟩ : ∃ y : Int32, y = (v3 + (-1 : Int32)) := ⟨_, rfl⟩
            replace h := vl_ok ex24 h
            refine lv_iinc (v := x24) (lv' := [(3, .int x24), (0, .ref (w.2.2.1 v0)), (1, .int v1), (2, .int (0 : Int32))]) hx hb dX11_tastes_82 hl (k := 3) rfl (by rw [ex24]; rfl) (by decide) rfl (fun ls hl => ?_)
            refine lv_goto (tgt := 47) hx hb dX11_tastes_85 (by decide) ?_
            obtain ⟨rfl, rfl⟩ := leaf h
            exact hP0_47 rfl _ _ _ hP hS (lv_sub hl [1, 2, 3, 0] rfl)
          · replace h := if_t c23 h
            refine lv_aload_n hx hb dX11_tastes_60 rfl (lv_at hl 0 rfl) ?_
            refine r_getF (off := 38) C hP (iw hw (fi_11 hk0)) hk0 fl_X11_139 rfl rfl (zw hw) dX11_tastes_61 ?_
            refine lv_iload_n hx hb dX11_tastes_64 rfl (lv_at hl 3 rfl) ?_
            obtain ⟨g25, h⟩ := gd_ok h
            refine r_iald C hP (iw hw (ff_11_63 hk0).2) (ff_11_63 hk0).1 g25 dX11_tastes_65 ?_
            refine lv_iconst (v := (-1)) hx hb dX11_tastes_66 (by decide) ?_
            refine lv_icmp_eq (tgt := 82) hx hb dX11_tastes_67 (by decide) (fun c26 => ?_) (fun c26 => ?_)
            · replace h := if_t c26 h
              obtain ⟨x27, ex27⟩ : ∃ y : Int32, y = (v3 + (-1 : Int32)) := ⟨_, rfl⟩
              replace h := vl_ok ex27 h
              refine lv_iinc (v := x27) (lv' := [(3, .int x27), (0, .ref (w.2.2.1 v0)), (1, .int v1), (2, .int (0 : Int32))]) hx hb dX11_tastes_82 hl (k := 3) rfl (by rw [ex27]; rfl) (by decide) rfl (fun ls hl => ?_)
              refine lv_goto (tgt := 47) hx hb dX11_tastes_85 (by decide) ?_
              obtain ⟨rfl, rfl⟩ := leaf h
              exact hP0_47 rfl _ _ _ hP hS (lv_sub hl [1, 2, 3, 0] rfl)
            · replace h := if_f c26 h
              refine lv_aload_n hx hb dX11_tastes_70 rfl (lv_at hl 0 rfl) ?_
              refine r_getF (off := 39) C hP (iw hw (fi_11 hk0)) hk0 fl_X11_142 rfl rfl (zw hw) dX11_tastes_71 ?_
              refine lv_aload_n hx hb dX11_tastes_74 rfl (lv_at hl 0 rfl) ?_
              refine r_getF (off := 38) C hP (iw hw (fi_11 hk0)) hk0 fl_X11_139 rfl rfl (zw hw) dX11_tastes_75 ?_
              refine lv_iload_n hx hb dX11_tastes_78 rfl (lv_at hl 3 rfl) ?_
              obtain ⟨g28, h⟩ := gd_ok h
              refine r_iald C hP (iw hw (ff_11_63 hk0).2) (ff_11_63 hk0).1 g28 dX11_tastes_79 ?_
              refine lv_iconst (v := (1)) hx hb dX11_tastes_80 (by decide) ?_
              obtain ⟨g30, h⟩ := gd_ok h
              refine r_zast C hP hS (iw hw (ff_11_64 hk0).2) (ff_11_64 hk0).1 g30 (Or.inr rfl) dX11_tastes_81 (fun H locs hP hS => ?_)
              obtain ⟨μ29, eμ29, h⟩ := vl_ex h
              have hP : fP w μ29 H := by rw [eμ29]; exact hP
              obtain ⟨x31, ex31⟩ : ∃ y : Int32, y = (v3 + (-1 : Int32)) := ⟨_, rfl⟩
              replace h := vl_ok ex31 h
              refine lv_iinc (v := x31) (lv' := [(3, .int x31), (0, .ref (w.2.2.1 v0)), (1, .int v1), (2, .int (0 : Int32))]) hx hb dX11_tastes_82 hl (k := 3) rfl (by rw [ex31]; rfl) (by decide) rfl (fun ls hl => ?_)
              refine lv_goto (tgt := 47) hx hb dX11_tastes_85 (by decide) ?_
              obtain ⟨rfl, rfl⟩ := leaf h
              exact hP0_47 rfl _ _ _ hP hS (lv_sub hl [1, 2, 3, 0] rfl)
      · obtain ⟨x34, μ35⟩ := q33
        intro H locs ls hP hS hl
        have hP : fP w μ35 H := hP
        have hl : lv_has ls 5 [(0, .ref (w.2.2.1 v0)), (1, .int v1), (2, .int (0 : Int32))] := hl
        try dsimp only at h
        refine lv_iconst (v := (0)) hx hb dX11_tastes_88 (by decide) ?_
        refine lv_istore_n (lv' := [(3, .int (0 : Int32)), (0, .ref (w.2.2.1 v0)), (1, .int v1), (2, .int (0 : Int32))]) hx hb dX11_tastes_89 rfl hl (by decide) rfl (fun ls hl => ?_)
        obtain ⟨t49, q50, h72, h⟩ := bd_ok h
        refine lpn_ind (b := (fun (q : Int32 × Int32 × fMem) => f_X11_tastes_L90 v0 v1 q.1 q.2.1 q.2.2)) (P := fun (q : Int32 × Int32 × fMem) => WW p l e rm_X11_tastes s m args below meth c (MQ below (fQi w r μr) args s 0 0 (fA w)) w q.2.2 5 90 [] [(0, .ref (w.2.2.1 v0)), (1, .int v1), (2, .int q.1), (3, .int q.2.1)]) (K := fun _ (q : Int32 × Int32 × fMem) => WW p l e rm_X11_tastes s m args below meth c (MQ below (fQi w r μr) args s 0 0 (fA w)) w q.2.2 5 134 [] [(0, .ref (w.2.2.1 v0)), (1, .int v1), (2, .int q.1)]) ?_ fuel ((0 : Int32), (0 : Int32), μ35) t49 q50 h72 ?_ _ _ _ hP hS (lv_sub hl [1, 2, 3, 0] rfl)
        · intro q tz90 sz90 h hP0_90 hK0_90 H locs ls hP hS hl
          obtain ⟨v2, v3, μ⟩ := q
          have hP : fP w μ H := hP
          have hl : lv_has ls 5 [(0, .ref (w.2.2.1 v0)), (1, .int v1), (2, .int v2), (3, .int v3)] := hl
          have h : f_X11_tastes_L90 v0 v1 v2 v3 μ = some (tz90, sz90) := h
          unfold f_X11_tastes_L90 at h
          refine lv_iload_n hx hb dX11_tastes_90 rfl (lv_at hl 3 rfl) ?_
          refine lv_aload_n hx hb dX11_tastes_91 rfl (lv_at hl 0 rfl) ?_
          obtain ⟨r37, μ36, h38, h⟩ := bd_ok h
          refine go_i (callV_run (As := []) (rest := [.int v3]) C hl hP (hS.wide hJ).2.1 (iw hw (fi_11 hk0)) hk0 (m_X11_knownMany l w hJ hw v0 hk0 μ h38) mv_X11_476 ⟨rfl, rfl, by decide, by decide⟩ rfl rfl (Nat.le_of_ble_eq_true rfl) ⟨Nat.zero_le _, Nat.zero_le _⟩ dX11_tastes_92) hS (fun H locs hP hS => ?_)
          refine lv_icmp_ge (tgt := 134) hx hb dX11_tastes_95 (by decide) (fun c39 => ?_) (fun c39 => ?_)
          · replace h := if_t c39 h
            obtain ⟨rfl, rfl⟩ := leaf h
            exact (hK0_90 0 rfl) _ _ _ hP hS (lv_sub hl [0, 1, 2] rfl)
          · replace h := if_f c39 h
            refine lv_aload_n hx hb dX11_tastes_98 rfl (lv_at hl 0 rfl) ?_
            refine r_getF (off := 39) C hP (iw hw (fi_11 hk0)) hk0 fl_X11_142 rfl rfl (zw hw) dX11_tastes_99 ?_
            refine lv_iload_n hx hb dX11_tastes_102 rfl (lv_at hl 3 rfl) ?_
            obtain ⟨g40, h⟩ := gd_ok h
            refine r_zald C hP (iw hw (ff_11_64 hk0).2) (ff_11_64 hk0).1 g40 dX11_tastes_103 ?_
            refine lv_if_ne (tgt := 128) hx hb dX11_tastes_104 (by decide) (fun c41 => ?_) (fun c41 => ?_)
            · replace h := if_f c41 h
              obtain ⟨x42, ex42⟩ : ∃ y : Int32, y = (v3 + (1 : Int32)) := ⟨_, rfl⟩
              replace h := vl_ok ex42 h
              refine lv_iinc (v := x42) (lv' := [(3, .int x42), (0, .ref (w.2.2.1 v0)), (1, .int v1), (2, .int v2)]) hx hb dX11_tastes_128 hl (k := 3) rfl (by rw [ex42]; rfl) (by decide) rfl (fun ls hl => ?_)
              refine lv_goto (tgt := 90) hx hb dX11_tastes_131 (by decide) ?_
              obtain ⟨rfl, rfl⟩ := leaf h
              exact hP0_90 rfl _ _ _ hP hS (lv_sub hl [1, 2, 3, 0] rfl)
            · replace h := if_t c41 h
              refine lv_aload_n hx hb dX11_tastes_107 rfl (lv_at hl 0 rfl) ?_
              refine r_getF (off := 38) C hP (iw hw (fi_11 hk0)) hk0 fl_X11_139 rfl rfl (zw hw) dX11_tastes_108 ?_
              refine lv_iload_n hx hb dX11_tastes_111 rfl (lv_at hl 3 rfl) ?_
              obtain ⟨g43, h⟩ := gd_ok h
              refine r_iald C hP (iw hw (ff_11_63 hk0).2) (ff_11_63 hk0).1 g43 dX11_tastes_112 ?_
              refine lv_iconst (v := (-1)) hx hb dX11_tastes_113 (by decide) ?_
              refine lv_icmp_ne (tgt := 128) hx hb dX11_tastes_114 (by decide) (fun c44 => ?_) (fun c44 => ?_)
              · replace h := if_f c44 h
                obtain ⟨x45, ex45⟩ : ∃ y : Int32, y = (v3 + (1 : Int32)) := ⟨_, rfl⟩
                replace h := vl_ok ex45 h
                refine lv_iinc (v := x45) (lv' := [(3, .int x45), (0, .ref (w.2.2.1 v0)), (1, .int v1), (2, .int v2)]) hx hb dX11_tastes_128 hl (k := 3) rfl (by rw [ex45]; rfl) (by decide) rfl (fun ls hl => ?_)
                refine lv_goto (tgt := 90) hx hb dX11_tastes_131 (by decide) ?_
                obtain ⟨rfl, rfl⟩ := leaf h
                exact hP0_90 rfl _ _ _ hP hS (lv_sub hl [1, 2, 3, 0] rfl)
              · replace h := if_t c44 h
                refine lv_iload_n hx hb dX11_tastes_117 rfl (lv_at hl 2 rfl) ?_
                refine lv_aload_n hx hb dX11_tastes_118 rfl (lv_at hl 0 rfl) ?_
                refine r_getF (off := 34) C hP (iw hw (fi_11 hk0)) hk0 fl_X11_126 rfl rfl (zw hw) dX11_tastes_119 ?_
                refine lv_iload_n hx hb dX11_tastes_122 rfl (lv_at hl 3 rfl) ?_
                obtain ⟨g46, h⟩ := gd_ok h
                refine r_iald C hP (iw hw (ff_11_59 hk0).2) (ff_11_59 hk0).1 g46 dX11_tastes_123 ?_
                refine b_mmax (rest := []) C hl mm_X11_474 (by decide) (Nat.le_of_ble_eq_true rfl) dX11_tastes_124 ?_
                refine lv_topi (fun x47 ex47 => ?_)
                replace h := vl_ok ex47 h
                refine lv_istore_n (lv' := [(2, .int x47), (0, .ref (w.2.2.1 v0)), (1, .int v1), (3, .int v3)]) hx hb dX11_tastes_127 rfl hl (by decide) rfl (fun ls hl => ?_)
                obtain ⟨x48, ex48⟩ : ∃ y : Int32, y = (v3 + (1 : Int32)) := ⟨_, rfl⟩
                replace h := vl_ok ex48 h
                refine lv_iinc (v := x48) (lv' := [(3, .int x48), (2, .int x47), (0, .ref (w.2.2.1 v0)), (1, .int v1)]) hx hb dX11_tastes_128 hl (k := 3) rfl (by rw [ex48]; rfl) (by decide) rfl (fun ls hl => ?_)
                refine lv_goto (tgt := 90) hx hb dX11_tastes_131 (by decide) ?_
                obtain ⟨rfl, rfl⟩ := leaf h
                exact hP0_90 rfl _ _ _ hP hS (lv_sub hl [2, 3, 1, 0] rfl)
        · obtain ⟨x51, x52, μ53⟩ := q50
          intro H locs ls hP hS hl
          have hP : fP w μ53 H := hP
          have hl : lv_has ls 5 [(0, .ref (w.2.2.1 v0)), (1, .int v1), (2, .int x51)] := hl
          try dsimp only at h
          refine lv_iconst (v := (0)) hx hb dX11_tastes_134 (by decide) ?_
          refine lv_istore_n (lv' := [(3, .int (0 : Int32)), (0, .ref (w.2.2.1 v0)), (1, .int v1), (2, .int x51)]) hx hb dX11_tastes_135 rfl hl (by decide) rfl (fun ls hl => ?_)
          refine lv_aload_n hx hb dX11_tastes_136 rfl (lv_at hl 1 rfl) ?_
          refine lv_iload_n hx hb dX11_tastes_137 rfl (lv_at hl 2 rfl) ?_
          refine r_putI C hP hS (iw hw (fi_11 hk0)) hk0 fp_X11_108 rfl dX11_tastes_138 (fun H locs hP hS => ?_)
          obtain ⟨μ54, eμ54, h⟩ := vl_ex h
          have hP : fP w μ54 H := by rw [eμ54]; exact hP
          refine lv_iconst (v := (0)) hx hb dX11_tastes_141 (by decide) ?_
          refine lv_istore (lv' := [(4, .int (0 : Int32)), (3, .int (0 : Int32)), (0, .ref (w.2.2.1 v0)), (1, .int v1), (2, .int x51)]) hx hb dX11_tastes_142 hl (by decide) rfl (fun ls hl => ?_)
          obtain ⟨t65, q66, h71, h⟩ := bd_ok h
          refine lpn_ind (b := (fun (q : Int32 × Int32 × fMem) => f_X11_tastes_L144 v0 x51 q.1 q.2.1 q.2.2)) (P := fun (q : Int32 × Int32 × fMem) => WW p l e rm_X11_tastes s m args below meth c (MQ below (fQi w r μr) args s 0 0 (fA w)) w q.2.2 5 144 [] [(0, .ref (w.2.2.1 v0)), (2, .int x51), (3, .int q.1), (4, .int q.2.1)]) (K := fun _ (q : Int32 × Int32 × fMem) => WW p l e rm_X11_tastes s m args below meth c (MQ below (fQi w r μr) args s 0 0 (fA w)) w q.2.2 5 182 [] [(0, .ref (w.2.2.1 v0)), (3, .int q.1)]) ?_ fuel ((0 : Int32), (0 : Int32), μ54) t65 q66 h71 ?_ _ _ _ hP hS (lv_sub hl [2, 4, 1, 0] rfl)
          · intro q tz144 sz144 h hP0_144 hK0_144 H locs ls hP hS hl
            obtain ⟨v3, v4, μ⟩ := q
            have hP : fP w μ H := hP
            have hl : lv_has ls 5 [(0, .ref (w.2.2.1 v0)), (2, .int x51), (3, .int v3), (4, .int v4)] := hl
            have h : f_X11_tastes_L144 v0 x51 v3 v4 μ = some (tz144, sz144) := h
            unfold f_X11_tastes_L144 at h
            refine lv_iload hx hb dX11_tastes_144 (lv_at hl 3 rfl) ?_
            refine lv_bipush (v := (9)) hx hb dX11_tastes_146 (by decide) ?_
            refine lv_icmp_gt (tgt := 182) hx hb dX11_tastes_148 (by decide) (fun c55 => ?_) (fun c55 => ?_)
            · replace h := if_t c55 h
              obtain ⟨rfl, rfl⟩ := leaf h
              exact (hK0_144 0 rfl) _ _ _ hP hS (lv_sub hl [0, 2] rfl)
            · replace h := if_f c55 h
              refine lv_aload_n hx hb dX11_tastes_151 rfl (lv_at hl 0 rfl) ?_
              refine lv_iload hx hb dX11_tastes_152 (lv_at hl 3 rfl) ?_
              refine r_putI C hP hS (iw hw (fi_11 hk0)) hk0 fp_X11_337 rfl dX11_tastes_154 (fun H locs hP hS => ?_)
              obtain ⟨μ56, eμ56, h⟩ := vl_ex h
              have hP : fP w μ56 H := by rw [eμ56]; exact hP
              refine lv_iload_n hx hb dX11_tastes_157 rfl (lv_at hl 2 rfl) ?_
              refine lv_aload_n hx hb dX11_tastes_158 rfl (lv_at hl 0 rfl) ?_
              refine lv_iload_n hx hb dX11_tastes_159 rfl (lv_at hl 1 rfl) ?_
              obtain ⟨r58, μ57, h59, h⟩ := bd_ok h
              refine go_i (callV_run (As := [.int x51]) (rest := [.int v3]) C hl hP (hS.wide hJ).2.1 (iw hw (fi_11 hk0)) hk0 (m_X11_fitsTaste l w hJ hw v0 x51 hk0 μ56 h59) mv_X11_482 ⟨rfl, rfl, by decide, by decide⟩ rfl rfl (Nat.le_of_ble_eq_true rfl) ⟨Nat.zero_le _, Nat.zero_le _⟩ dX11_tastes_160) hS (fun H locs hP hS => ?_)
              refine lv_if_eq (tgt := 173) hx hb dX11_tastes_163 (by decide) (fun c60 => ?_) (fun c60 => ?_)
              · replace h := if_t c60 h
                refine lv_iconst (v := (0)) hx hb dX11_tastes_173 (by decide) ?_
                refine lv_ior hx hb dX11_tastes_174 ?_
                refine lv_topi (fun x61 ex61 => ?_)
                replace h := vl_ok ex61 h
                refine lv_istore_n (lv' := [(3, .int x61), (0, .ref (w.2.2.1 v0)), (2, .int x51), (4, .int v4)]) hx hb dX11_tastes_175 rfl hl (by decide) rfl (fun ls hl => ?_)
                obtain ⟨x62, ex62⟩ : ∃ y : Int32, y = (v4 + (1 : Int32)) := ⟨_, rfl⟩
                replace h := vl_ok ex62 h
                refine lv_iinc (v := x62) (lv' := [(4, .int x62), (3, .int x61), (0, .ref (w.2.2.1 v0)), (2, .int x51)]) hx hb dX11_tastes_176 hl (k := 3) rfl (by rw [ex62]; rfl) (by decide) rfl (fun ls hl => ?_)
                refine lv_goto (tgt := 144) hx hb dX11_tastes_179 (by decide) ?_
                obtain ⟨rfl, rfl⟩ := leaf h
                exact hP0_144 rfl _ _ _ hP hS (lv_sub hl [2, 3, 1, 0] rfl)
              · replace h := if_f c60 h
                refine lv_iconst (v := (1)) hx hb dX11_tastes_166 (by decide) ?_
                refine lv_iload hx hb dX11_tastes_167 (lv_at hl 3 rfl) ?_
                refine r_ishl hx hb dX11_tastes_169 ?_
                refine lv_goto (tgt := 174) hx hb dX11_tastes_170 (by decide) ?_
                refine lv_ior hx hb dX11_tastes_174 ?_
                refine lv_topi (fun x63 ex63 => ?_)
                replace h := vl_ok ex63 h
                refine lv_istore_n (lv' := [(3, .int x63), (0, .ref (w.2.2.1 v0)), (2, .int x51), (4, .int v4)]) hx hb dX11_tastes_175 rfl hl (by decide) rfl (fun ls hl => ?_)
                obtain ⟨x64, ex64⟩ : ∃ y : Int32, y = (v4 + (1 : Int32)) := ⟨_, rfl⟩
                replace h := vl_ok ex64 h
                refine lv_iinc (v := x64) (lv' := [(4, .int x64), (3, .int x63), (0, .ref (w.2.2.1 v0)), (2, .int x51)]) hx hb dX11_tastes_176 hl (k := 3) rfl (by rw [ex64]; rfl) (by decide) rfl (fun ls hl => ?_)
                refine lv_goto (tgt := 144) hx hb dX11_tastes_179 (by decide) ?_
                obtain ⟨rfl, rfl⟩ := leaf h
                exact hP0_144 rfl _ _ _ hP hS (lv_sub hl [2, 3, 1, 0] rfl)
          · obtain ⟨x67, x68, μ69⟩ := q66
            intro H locs ls hP hS hl
            have hP : fP w μ69 H := hP
            have hl : lv_has ls 5 [(0, .ref (w.2.2.1 v0)), (3, .int x67)] := hl
            try dsimp only at h
            refine lv_aload_n hx hb dX11_tastes_182 rfl (lv_at hl 0 rfl) ?_
            refine lv_iconst (v := (-1)) hx hb dX11_tastes_183 (by decide) ?_
            refine r_putI C hP hS (iw hw (fi_11 hk0)) hk0 fp_X11_108 rfl dX11_tastes_184 (fun H locs hP hS => ?_)
            obtain ⟨μ70, eμ70, h⟩ := vl_ex h
            have hP : fP w μ70 H := by rw [eμ70]; exact hP
            refine lv_iload_n hx hb dX11_tastes_187 rfl (lv_at hl 1 rfl) ?_
            exact r_iret C hr hP hS h dX11_tastes_188
  · replace h := if_t c5 h
    refine lv_iconst (v := (-1)) hx hb dX11_tastes_13 (by decide) ?_
    exact r_iret C hr hP hS h dX11_tastes_14

def f_X11_chance_L64 (v0 : Nat) (v2 : Int32) (v3 : Int32) (v4 : Int32) (v6 : Int32) (v7 : Int32) (v5 : Int32) (v8 : Int32) (μ : fMem) : Option (Nat × (Int32 × Int32 × fMem)) :=
  if v2 ≤ v8 then some (1, (v5, v8, μ)) else vl (((v5 * (1103515245 : Int32)) + (12345 : Int32)) &&& (2147483647 : Int32)) fun x18 => vl (sI μ v0 49 (irm (shr x18 (16 : Int32)) (100 : Int32))) fun μ19 => bd (f_X11_passes v0 (1 : Int32) μ19) fun r21 μ20 => vl (v8 + (1 : Int32)) fun x23 => some (0, (x18, x23, μ20))
def f_X11_chance_L48 (v0 : Nat) (v2 : Int32) (v3 : Int32) (v4 : Int32) (v5 : Int32) (v6 : Int32) (v7 : Int32) (μ : fMem) : Option (Nat × (Int32 × Int32 × Int32 × fMem)) :=
  if (10 : Int32) ≤ v7 then some (1, (v5, v6, v7, μ)) else bd (f_X11_copies v0 (1 : Int32) (0 : Int32) μ) fun r15 μ14 => bd (lpn (fun (q : Int32 × Int32 × fMem) => f_X11_chance_L64 v0 v2 v3 v4 v6 v7 q.1 q.2.1 q.2.2) fuel (v5, (0 : Int32), μ14)) fun t24 q25 => (fun (x26 : Int32) (x27 : Int32) (μ28 : fMem) => vl (sI μ28 v0 49 (-1 : Int32)) fun μ29 => gd (ixo ((8 : Int32) + v3) 184) (if (μ29.1 (v0 + 25) (Int32.toNatClampNeg ((8 : Int32) + v3))) = v4 then vl (v6 + (1 : Int32)) fun x34 => vl (v7 + (1 : Int32)) fun x35 => some (0, (x26, x34, x35, μ29)) else vl (v6 + (0 : Int32)) fun x32 => vl (v7 + (1 : Int32)) fun x33 => some (0, (x26, x32, x33, μ29)))) q25.1 q25.2.1 q25.2.2
def f_X11_chance (v0 : Nat) (v1 : Int32) (v2 : Int32) (v3 : Int32) (v4 : Int32) (μ : fMem) : Option (Int32 × fMem) :=
  vl (sI μ v0 0 (0 : Int32)) fun μ1 => if v1 < 0 then some ((-1 : Int32), μ1) else if v2 < (1 : Int32) then some ((-1 : Int32), μ1) else if (60 : Int32) < v2 then some ((-1 : Int32), μ1) else bd (f_X11_isThing v0 v3 μ1) fun r6 μ5 => if r6 = 0 then some ((-1 : Int32), μ5) else bd (f_X11_isRoom v0 v4 μ5) fun r10 μ9 => if r10 = 0 then some ((-1 : Int32), μ9) else bd (lpn (fun (q : Int32 × Int32 × Int32 × fMem) => f_X11_chance_L48 v0 v2 v3 v4 q.1 q.2.1 q.2.2.1 q.2.2.2) fuel (v1, (0 : Int32), (0 : Int32), μ9)) fun t37 q38 => (fun (x39 : Int32) (x40 : Int32) (x41 : Int32) (μ42 : fMem) => some (x40, μ42)) q38.1 q38.2.1 q38.2.2.1 q38.2.2.2
def rm_X11_chance : Room := { frames := 9, cells := 0, slots := 0, locals := 276 }
set_option maxHeartbeats 4000000 in
set_option maxRecDepth 100000 in
theorem m_X11_chance (l : Launch) (w : fW) (hJ : fJ w) (hw : w.2.2.2 = sd 1) (v0 : Nat) (v1 : Int32) (v2 : Int32) (v3 : Int32) (v4 : Int32) (hk0 : kd v0 = (4, 11)) (μ : fMem) {r : Int32} {μr : fMem} (h : f_X11_chance v0 v1 v2 v3 v4 μ = some (r, μr)) : Met l yX11_chance (.code yX11_chance cX11_chance 9 (some .int) :: gw) rm_X11_chance (fPc w [.ref (w.2.2.1 v0), .int v1, .int v2, .int v3, .int v4] μ) (fQi w r μr) 0 0 (fA w) := by
  refine met_of hJ (by decide) ?_ (Nat.le_of_ble_eq_true rfl)
  generalize ([.ref (w.2.2.1 v0), .int v1, .int v2, .int v3, .int v4] : List Value).toArray = args
  intro p e s m below meth c ls C hr hP hl hS
  obtain ⟨hx, hb, hml, hown, hts, hK, -, hlk, hT⟩ := id C
  have hl : lv_has ls 9 [(0, .ref (w.2.2.1 v0)), (1, .int v1), (2, .int v2), (3, .int v3), (4, .int v4)] := hl
  unfold f_X11_chance at h
  refine lv_aload_n hx hb dX11_chance_0 rfl (lv_at hl 0 rfl) ?_
  refine lv_iconst (v := (0)) hx hb dX11_chance_1 (by decide) ?_
  refine r_putI C hP hS (iw hw (fi_11 hk0)) hk0 fp_X11_148 rfl dX11_chance_2 (fun H locs hP hS => ?_)
  obtain ⟨μ1, eμ1, h⟩ := vl_ex h
  have hP : fP w μ1 H := by rw [eμ1]; exact hP
  refine lv_iload_n hx hb dX11_chance_5 rfl (lv_at hl 1 rfl) ?_
  refine lv_if_lt (tgt := 37) hx hb dX11_chance_6 (by decide) (fun c2 => ?_) (fun c2 => ?_)
  · replace h := if_t c2 h
    refine lv_iconst (v := (-1)) hx hb dX11_chance_37 (by decide) ?_
    exact r_iret C hr hP hS h dX11_chance_38
  · replace h := if_f c2 h
    refine lv_iload_n hx hb dX11_chance_9 rfl (lv_at hl 2 rfl) ?_
    refine lv_iconst (v := (1)) hx hb dX11_chance_10 (by decide) ?_
    refine lv_icmp_lt (tgt := 37) hx hb dX11_chance_11 (by decide) (fun c3 => ?_) (fun c3 => ?_)
    · replace h := if_t c3 h
      refine lv_iconst (v := (-1)) hx hb dX11_chance_37 (by decide) ?_
      exact r_iret C hr hP hS h dX11_chance_38
    · replace h := if_f c3 h
      refine lv_iload_n hx hb dX11_chance_14 rfl (lv_at hl 2 rfl) ?_
      refine lv_bipush (v := (60)) hx hb dX11_chance_15 (by decide) ?_
      refine lv_icmp_gt (tgt := 37) hx hb dX11_chance_17 (by decide) (fun c4 => ?_) (fun c4 => ?_)
      · replace h := if_t c4 h
        refine lv_iconst (v := (-1)) hx hb dX11_chance_37 (by decide) ?_
        exact r_iret C hr hP hS h dX11_chance_38
      · replace h := if_f c4 h
        refine lv_aload_n hx hb dX11_chance_20 rfl (lv_at hl 0 rfl) ?_
        refine lv_iload_n hx hb dX11_chance_21 rfl (lv_at hl 3 rfl) ?_
        obtain ⟨r6, μ5, h7, h⟩ := bd_ok h
        refine go_i (callV_run (As := [.int v3]) (rest := []) C hl hP (hS.wide hJ).2.1 (iw hw (fi_11 hk0)) hk0 (m_X11_isThing l w hJ hw v0 v3 hk0 μ1 h7) mv_X11_416 ⟨rfl, rfl, by decide, by decide⟩ rfl rfl (Nat.le_of_ble_eq_true rfl) ⟨Nat.zero_le _, Nat.zero_le _⟩ dX11_chance_22) hS (fun H locs hP hS => ?_)
        refine lv_if_eq (tgt := 37) hx hb dX11_chance_25 (by decide) (fun c8 => ?_) (fun c8 => ?_)
        · replace h := if_t c8 h
          refine lv_iconst (v := (-1)) hx hb dX11_chance_37 (by decide) ?_
          exact r_iret C hr hP hS h dX11_chance_38
        · replace h := if_f c8 h
          refine lv_aload_n hx hb dX11_chance_28 rfl (lv_at hl 0 rfl) ?_
          refine lv_iload hx hb dX11_chance_29 (lv_at hl 4 rfl) ?_
          obtain ⟨r10, μ9, h11, h⟩ := bd_ok h
          refine go_i (callV_run (As := [.int v4]) (rest := []) C hl hP (hS.wide hJ).2.1 (iw hw (fi_11 hk0)) hk0 (m_X11_isRoom l w hJ hw v0 v4 hk0 μ5 h11) mv_X11_419 ⟨rfl, rfl, by decide, by decide⟩ rfl rfl (Nat.le_of_ble_eq_true rfl) ⟨Nat.zero_le _, Nat.zero_le _⟩ dX11_chance_31) hS (fun H locs hP hS => ?_)
          refine lv_if_ne (tgt := 39) hx hb dX11_chance_34 (by decide) (fun c12 => ?_) (fun c12 => ?_)
          · replace h := if_f c12 h
            refine lv_iload_n hx hb dX11_chance_39 rfl (lv_at hl 1 rfl) ?_
            refine lv_istore (lv' := [(5, .int v1), (0, .ref (w.2.2.1 v0)), (1, .int v1), (2, .int v2), (3, .int v3), (4, .int v4)]) hx hb dX11_chance_40 hl (by decide) rfl (fun ls hl => ?_)
            refine lv_iconst (v := (0)) hx hb dX11_chance_42 (by decide) ?_
            refine lv_istore (lv' := [(6, .int (0 : Int32)), (5, .int v1), (0, .ref (w.2.2.1 v0)), (1, .int v1), (2, .int v2), (3, .int v3), (4, .int v4)]) hx hb dX11_chance_43 hl (by decide) rfl (fun ls hl => ?_)
            refine lv_iconst (v := (0)) hx hb dX11_chance_45 (by decide) ?_
            refine lv_istore (lv' := [(7, .int (0 : Int32)), (6, .int (0 : Int32)), (5, .int v1), (0, .ref (w.2.2.1 v0)), (1, .int v1), (2, .int v2), (3, .int v3), (4, .int v4)]) hx hb dX11_chance_46 hl (by decide) rfl (fun ls hl => ?_)
            obtain ⟨t37, q38, h43, h⟩ := bd_ok h
            refine lpn_ind (b := (fun (q : Int32 × Int32 × Int32 × fMem) => f_X11_chance_L48 v0 v2 v3 v4 q.1 q.2.1 q.2.2.1 q.2.2.2)) (P := fun (q : Int32 × Int32 × Int32 × fMem) => WW p l e rm_X11_chance s m args below meth c (MQ below (fQi w r μr) args s 0 0 (fA w)) w q.2.2.2 9 48 [] [(0, .ref (w.2.2.1 v0)), (2, .int v2), (3, .int v3), (4, .int v4), (5, .int q.1), (6, .int q.2.1), (7, .int q.2.2.1)]) (K := fun _ (q : Int32 × Int32 × Int32 × fMem) => WW p l e rm_X11_chance s m args below meth c (MQ below (fQi w r μr) args s 0 0 (fA w)) w q.2.2.2 9 144 [] [(6, .int q.2.1)]) ?_ fuel (v1, (0 : Int32), (0 : Int32), μ9) t37 q38 h43 ?_ _ _ _ hP hS (lv_sub hl [3, 5, 6, 7, 2, 1, 0] rfl)
            · intro q tz48 sz48 h hP0_48 hK0_48 H locs ls hP hS hl
              obtain ⟨v5, v6, v7, μ⟩ := q
              have hP : fP w μ H := hP
              have hl : lv_has ls 9 [(0, .ref (w.2.2.1 v0)), (2, .int v2), (3, .int v3), (4, .int v4), (5, .int v5), (6, .int v6), (7, .int v7)] := hl
              have h : f_X11_chance_L48 v0 v2 v3 v4 v5 v6 v7 μ = some (tz48, sz48) := h
              unfold f_X11_chance_L48 at h
              refine lv_iload hx hb dX11_chance_48 (lv_at hl 6 rfl) ?_
              refine lv_bipush (v := (10)) hx hb dX11_chance_50 (by decide) ?_
              refine lv_icmp_ge (tgt := 144) hx hb dX11_chance_52 (by decide) (fun c13 => ?_) (fun c13 => ?_)
              · replace h := if_t c13 h
                obtain ⟨rfl, rfl⟩ := leaf h
                exact (hK0_48 0 rfl) _ _ _ hP hS (lv_sub hl [5] rfl)
              · replace h := if_f c13 h
                refine lv_aload_n hx hb dX11_chance_55 rfl (lv_at hl 0 rfl) ?_
                refine lv_iconst (v := (1)) hx hb dX11_chance_56 (by decide) ?_
                refine lv_iconst (v := (0)) hx hb dX11_chance_57 (by decide) ?_
                obtain ⟨r15, μ14, h16, h⟩ := bd_ok h
                refine go_v (callV_run (As := [.int (1 : Int32), .int (0 : Int32)]) (rest := []) C hl hP (hS.wide hJ).2.1 (iw hw (fi_11 hk0)) hk0 (m_X11_copies l w hJ hw v0 (1 : Int32) (0 : Int32) hk0 μ h16) mv_X11_403 ⟨rfl, rfl, by decide, by decide⟩ rfl rfl (Nat.le_of_ble_eq_true rfl) ⟨Nat.zero_le _, Nat.zero_le _⟩ dX11_chance_58) hS (fun H locs hP hS => ?_)
                refine lv_iconst (v := (0)) hx hb dX11_chance_61 (by decide) ?_
                refine lv_istore (lv' := [(8, .int (0 : Int32)), (0, .ref (w.2.2.1 v0)), (2, .int v2), (3, .int v3), (4, .int v4), (5, .int v5), (6, .int v6), (7, .int v7)]) hx hb dX11_chance_62 hl (by decide) rfl (fun ls hl => ?_)
                obtain ⟨t24, q25, h36, h⟩ := bd_ok h
                refine lpn_ind (b := (fun (q : Int32 × Int32 × fMem) => f_X11_chance_L64 v0 v2 v3 v4 v6 v7 q.1 q.2.1 q.2.2)) (P := fun (q : Int32 × Int32 × fMem) => WW p l e rm_X11_chance s m args below meth c (MQ below (fQi w r μr) args s 0 0 (fA w)) w q.2.2 9 64 [] [(0, .ref (w.2.2.1 v0)), (2, .int v2), (3, .int v3), (4, .int v4), (5, .int q.1), (6, .int v6), (7, .int v7), (8, .int q.2.1)]) (K := fun _ (q : Int32 × Int32 × fMem) => WW p l e rm_X11_chance s m args below meth c (MQ below (fQi w r μr) args s 0 0 (fA w)) w q.2.2 9 109 [] [(0, .ref (w.2.2.1 v0)), (2, .int v2), (3, .int v3), (4, .int v4), (5, .int q.1), (6, .int v6), (7, .int v7)]) ?_ fuel (v5, (0 : Int32), μ14) t24 q25 h36 ?_ _ _ _ hP hS (lv_sub hl [1, 2, 3, 4, 5, 6, 7, 0] rfl)
                · intro q tz64 sz64 h hP0_64 hK0_64 H locs ls hP hS hl
                  obtain ⟨v5, v8, μ⟩ := q
                  have hP : fP w μ H := hP
                  have hl : lv_has ls 9 [(0, .ref (w.2.2.1 v0)), (2, .int v2), (3, .int v3), (4, .int v4), (5, .int v5), (6, .int v6), (7, .int v7), (8, .int v8)] := hl
                  have h : f_X11_chance_L64 v0 v2 v3 v4 v6 v7 v5 v8 μ = some (tz64, sz64) := h
                  unfold f_X11_chance_L64 at h
                  refine lv_iload hx hb dX11_chance_64 (lv_at hl 7 rfl) ?_
                  refine lv_iload_n hx hb dX11_chance_66 rfl (lv_at hl 1 rfl) ?_
                  refine lv_icmp_ge (tgt := 109) hx hb dX11_chance_67 (by decide) (fun c17 => ?_) (fun c17 => ?_)
                  · replace h := if_t c17 h
                    obtain ⟨rfl, rfl⟩ := leaf h
                    exact (hK0_64 0 rfl) _ _ _ hP hS (lv_sub hl [0, 1, 2, 3, 4, 5, 6] rfl)
                  · replace h := if_f c17 h
                    refine lv_iload hx hb dX11_chance_70 (lv_at hl 4 rfl) ?_
                    refine lv_ldcw hx hb hown (hts _ ct_X11_485) dX11_chance_72 ?_
                    refine lv_imul hx hb dX11_chance_75 ?_
                    refine lv_sipush (v := (12345)) hx hb dX11_chance_76 (by decide) ?_
                    refine lv_iadd hx hb dX11_chance_79 ?_
                    refine lv_ldcw hx hb hown (hts _ ct_X11_488) dX11_chance_80 ?_
                    refine lv_iand hx hb dX11_chance_83 ?_
                    refine lv_topi (fun x18 ex18 => ?_)
                    replace h := vl_ok ex18 h
                    refine lv_istore (lv' := [(5, .int x18), (0, .ref (w.2.2.1 v0)), (2, .int v2), (3, .int v3), (4, .int v4), (6, .int v6), (7, .int v7), (8, .int v8)]) hx hb dX11_chance_84 hl (by decide) rfl (fun ls hl => ?_)
                    refine lv_aload_n hx hb dX11_chance_86 rfl (lv_at hl 1 rfl) ?_
                    refine lv_iload hx hb dX11_chance_87 (lv_at hl 0 rfl) ?_
                    refine lv_bipush (v := (16)) hx hb dX11_chance_89 (by decide) ?_
                    refine r_ishr hx hb dX11_chance_91 ?_
                    refine lv_bipush (v := (100)) hx hb dX11_chance_92 (by decide) ?_
                    refine r_irem hx hb dX11_chance_94 (by decide) ?_
                    refine r_putI C hP hS (iw hw (fi_11 hk0)) hk0 fp_X11_105 rfl dX11_chance_95 (fun H locs hP hS => ?_)
                    obtain ⟨μ19, eμ19, h⟩ := vl_ex h
                    have hP : fP w μ19 H := by rw [eμ19]; exact hP
                    refine lv_aload_n hx hb dX11_chance_98 rfl (lv_at hl 1 rfl) ?_
                    refine lv_iconst (v := (1)) hx hb dX11_chance_99 (by decide) ?_
                    obtain ⟨r21, μ20, h22, h⟩ := bd_ok h
                    refine go_v (callV_run (As := [.int (1 : Int32)]) (rest := []) C hl hP (hS.wide hJ).2.1 (iw hw (fi_11 hk0)) hk0 (m_X11_passes l w hJ hw v0 (1 : Int32) hk0 μ19 h22) mv_X11_409 ⟨rfl, rfl, by decide, by decide⟩ rfl rfl (Nat.le_of_ble_eq_true rfl) ⟨Nat.zero_le _, Nat.zero_le _⟩ dX11_chance_100) hS (fun H locs hP hS => ?_)
                    obtain ⟨x23, ex23⟩ : ∃ y : Int32, y = (v8 + (1 : Int32)) := ⟨_, rfl⟩
                    replace h := vl_ok ex23 h
                    refine lv_iinc (v := x23) (lv' := [(8, .int x23), (5, .int x18), (0, .ref (w.2.2.1 v0)), (2, .int v2), (3, .int v3), (4, .int v4), (6, .int v6), (7, .int v7)]) hx hb dX11_chance_103 hl (k := 7) rfl (by rw [ex23]; rfl) (by decide) rfl (fun ls hl => ?_)
                    refine lv_goto (tgt := 64) hx hb dX11_chance_106 (by decide) ?_
                    obtain ⟨rfl, rfl⟩ := leaf h
                    exact hP0_64 rfl _ _ _ hP hS (lv_sub hl [2, 3, 4, 5, 1, 6, 7, 0] rfl)
                · obtain ⟨x26, x27, μ28⟩ := q25
                  intro H locs ls hP hS hl
                  have hP : fP w μ28 H := hP
                  have hl : lv_has ls 9 [(0, .ref (w.2.2.1 v0)), (2, .int v2), (3, .int v3), (4, .int v4), (5, .int x26), (6, .int v6), (7, .int v7)] := hl
                  try dsimp only at h
                  refine lv_aload_n hx hb dX11_chance_109 rfl (lv_at hl 0 rfl) ?_
                  refine lv_iconst (v := (-1)) hx hb dX11_chance_110 (by decide) ?_
                  refine r_putI C hP hS (iw hw (fi_11 hk0)) hk0 fp_X11_105 rfl dX11_chance_111 (fun H locs hP hS => ?_)
                  obtain ⟨μ29, eμ29, h⟩ := vl_ex h
                  have hP : fP w μ29 H := by rw [eμ29]; exact hP
                  refine lv_iload hx hb dX11_chance_114 (lv_at hl 5 rfl) ?_
                  refine lv_aload_n hx hb dX11_chance_116 rfl (lv_at hl 0 rfl) ?_
                  refine r_getF (off := 25) C hP (iw hw (fi_11 hk0)) hk0 fl_X11_87 rfl rfl (zw hw) dX11_chance_117 ?_
                  refine lv_bipush (v := (8)) hx hb dX11_chance_120 (by decide) ?_
                  refine lv_iload_n hx hb dX11_chance_122 rfl (lv_at hl 2 rfl) ?_
                  refine lv_iadd hx hb dX11_chance_123 ?_
                  obtain ⟨g30, h⟩ := gd_ok h
                  refine r_iald C hP (iw hw (ff_11_40 hk0).2) (ff_11_40 hk0).1 g30 dX11_chance_124 ?_
                  refine lv_iload hx hb dX11_chance_125 (lv_at hl 3 rfl) ?_
                  refine lv_icmp_ne (tgt := 134) hx hb dX11_chance_127 (by decide) (fun c31 => ?_) (fun c31 => ?_)
                  · replace h := if_f c31 h
                    refine lv_iconst (v := (0)) hx hb dX11_chance_134 (by decide) ?_
                    refine lv_iadd hx hb dX11_chance_135 ?_
                    refine lv_topi (fun x32 ex32 => ?_)
                    replace h := vl_ok ex32 h
                    refine lv_istore (lv' := [(6, .int x32), (0, .ref (w.2.2.1 v0)), (2, .int v2), (3, .int v3), (4, .int v4), (5, .int x26), (7, .int v7)]) hx hb dX11_chance_136 hl (by decide) rfl (fun ls hl => ?_)
                    obtain ⟨x33, ex33⟩ : ∃ y : Int32, y = (v7 + (1 : Int32)) := ⟨_, rfl⟩
                    replace h := vl_ok ex33 h
                    refine lv_iinc (v := x33) (lv' := [(7, .int x33), (6, .int x32), (0, .ref (w.2.2.1 v0)), (2, .int v2), (3, .int v3), (4, .int v4), (5, .int x26)]) hx hb dX11_chance_138 hl (k := 6) rfl (by rw [ex33]; rfl) (by decide) rfl (fun ls hl => ?_)
                    refine lv_goto (tgt := 48) hx hb dX11_chance_141 (by decide) ?_
                    obtain ⟨rfl, rfl⟩ := leaf h
                    exact hP0_48 rfl _ _ _ hP hS (lv_sub hl [2, 3, 4, 5, 6, 1, 0] rfl)
                  · replace h := if_t c31 h
                    refine lv_iconst (v := (1)) hx hb dX11_chance_130 (by decide) ?_
                    refine lv_goto (tgt := 135) hx hb dX11_chance_131 (by decide) ?_
                    refine lv_iadd hx hb dX11_chance_135 ?_
                    refine lv_topi (fun x34 ex34 => ?_)
                    replace h := vl_ok ex34 h
                    refine lv_istore (lv' := [(6, .int x34), (0, .ref (w.2.2.1 v0)), (2, .int v2), (3, .int v3), (4, .int v4), (5, .int x26), (7, .int v7)]) hx hb dX11_chance_136 hl (by decide) rfl (fun ls hl => ?_)
                    obtain ⟨x35, ex35⟩ : ∃ y : Int32, y = (v7 + (1 : Int32)) := ⟨_, rfl⟩
                    replace h := vl_ok ex35 h
                    refine lv_iinc (v := x35) (lv' := [(7, .int x35), (6, .int x34), (0, .ref (w.2.2.1 v0)), (2, .int v2), (3, .int v3), (4, .int v4), (5, .int x26)]) hx hb dX11_chance_138 hl (k := 6) rfl (by rw [ex35]; rfl) (by decide) rfl (fun ls hl => ?_)
                    refine lv_goto (tgt := 48) hx hb dX11_chance_141 (by decide) ?_
                    obtain ⟨rfl, rfl⟩ := leaf h
                    exact hP0_48 rfl _ _ _ hP hS (lv_sub hl [2, 3, 4, 5, 6, 1, 0] rfl)
            · obtain ⟨x39, x40, x41, μ42⟩ := q38
              intro H locs ls hP hS hl
              have hP : fP w μ42 H := hP
              have hl : lv_has ls 9 [(6, .int x40)] := hl
              try dsimp only at h
              refine lv_iload hx hb dX11_chance_144 (lv_at hl 0 rfl) ?_
              exact r_iret C hr hP hS h dX11_chance_146
          · replace h := if_t c12 h
            refine lv_iconst (v := (-1)) hx hb dX11_chance_37 (by decide) ?_
            exact r_iret C hr hP hS h dX11_chance_38

def f_X11_tried_j49 (v0 : Nat) (v1 : Int32) (v2 : Int32) (v3 : Int32) (t0 : Int32) (μ : fMem) : Option (Int32 × fMem) :=
  if t0 = 0 then some ((-1 : Int32), μ) else if v3 < 0 then some ((-1 : Int32), μ) else if v3 ≤ (60 : Int32) then vl (sI μ v0 47 v1) fun μ16 => vl (sI μ16 v0 48 v2) fun μ17 => bd (f_X11_runs v0 v3 μ17) fun r19 μ18 => vl (sI μ18 v0 47 (0 : Int32)) fun μ21 => vl (sI μ21 v0 48 (-1 : Int32)) fun μ22 => bd (f_X11_stirs v0 (1 : Int32) μ22) fun r24 μ23 => bd (f_X11_stirs v0 (0 : Int32) μ23) fun r27 μ26 => some ((r24 - r27), μ26) else some ((-1 : Int32), μ)
def f_X11_tried_j48 (v0 : Nat) (v1 : Int32) (v2 : Int32) (v3 : Int32) (μ : fMem) : Option (Int32 × fMem) :=
  f_X11_tried_j49 v0 v1 v2 v3 (0 : Int32) μ
def f_X11_tried (v0 : Nat) (v1 : Int32) (v2 : Int32) (v3 : Int32) (μ : fMem) : Option (Int32 × fMem) :=
  vl (sI μ v0 0 (0 : Int32)) fun μ1 => if v1 = (2 : Int32) then bd (f_X11_isDead v0 v2 μ1) fun r11 μ10 => f_X11_tried_j49 v0 v1 v2 v3 r11 μ10 else if v1 = (5 : Int32) then bd (f_X11_isThing v0 v2 μ1) fun r8 μ7 => f_X11_tried_j49 v0 v1 v2 v3 r8 μ7 else if v1 < 0 then f_X11_tried_j48 v0 v1 v2 v3 μ1 else if (4 : Int32) < v1 then f_X11_tried_j48 v0 v1 v2 v3 μ1 else if v2 = 0 then f_X11_tried_j49 v0 v1 v2 v3 (1 : Int32) μ1 else f_X11_tried_j48 v0 v1 v2 v3 μ1
def rm_X11_tried : Room := { frames := 11, cells := 0, slots := 0, locals := 319 }
set_option maxHeartbeats 4000000 in
set_option maxRecDepth 100000 in
theorem m_X11_tried (l : Launch) (w : fW) (hJ : fJ w) (hw : w.2.2.2 = sd 1) (v0 : Nat) (v1 : Int32) (v2 : Int32) (v3 : Int32) (hk0 : kd v0 = (4, 11)) (μ : fMem) {r : Int32} {μr : fMem} (h : f_X11_tried v0 v1 v2 v3 μ = some (r, μr)) : Met l yX11_tried (.code yX11_tried cX11_tried 5 (some .int) :: gw) rm_X11_tried (fPc w [.ref (w.2.2.1 v0), .int v1, .int v2, .int v3] μ) (fQi w r μr) 0 0 (fA w) := by
  refine met_of hJ (by decide) ?_ (Nat.le_of_ble_eq_true rfl)
  generalize ([.ref (w.2.2.1 v0), .int v1, .int v2, .int v3] : List Value).toArray = args
  intro p e s m below meth c ls C hr hP hl hS
  obtain ⟨hx, hb, hml, hown, hts, hK, -, hlk, hT⟩ := id C
  have hl : lv_has ls 5 [(0, .ref (w.2.2.1 v0)), (1, .int v1), (2, .int v2), (3, .int v3)] := hl
  unfold f_X11_tried at h
  have J49 : ∀ (t0 : Int32) (μ : fMem), f_X11_tried_j49 v0 v1 v2 v3 t0 μ = some (r, μr) → WW p l e rm_X11_tried s m args below meth c (MQ below (fQi w r μr) args s 0 0 (fA w)) w μ 5 49 [.int t0] [(0, .ref (w.2.2.1 v0)), (1, .int v1), (2, .int v2), (3, .int v3)] := by
    intro t0 μ  h H locs ls hP hS hl
    unfold f_X11_tried_j49 at h
    refine lv_istore (lv' := [(4, .int t0), (0, .ref (w.2.2.1 v0)), (1, .int v1), (2, .int v2), (3, .int v3)]) hx hb dX11_tried_49 hl (by decide) rfl (fun ls hl => ?_)
    refine lv_iload hx hb dX11_tried_51 (lv_at hl 0 rfl) ?_
    refine lv_if_eq (tgt := 66) hx hb dX11_tried_53 (by decide) (fun c13 => ?_) (fun c13 => ?_)
    · replace h := if_t c13 h
      refine lv_iconst (v := (-1)) hx hb dX11_tried_66 (by decide) ?_
      exact r_iret C hr hP hS h dX11_tried_67
    · replace h := if_f c13 h
      refine lv_iload_n hx hb dX11_tried_56 rfl (lv_at hl 4 rfl) ?_
      refine lv_if_lt (tgt := 66) hx hb dX11_tried_57 (by decide) (fun c14 => ?_) (fun c14 => ?_)
      · replace h := if_t c14 h
        refine lv_iconst (v := (-1)) hx hb dX11_tried_66 (by decide) ?_
        exact r_iret C hr hP hS h dX11_tried_67
      · replace h := if_f c14 h
        refine lv_iload_n hx hb dX11_tried_60 rfl (lv_at hl 4 rfl) ?_
        refine lv_bipush (v := (60)) hx hb dX11_tried_61 (by decide) ?_
        refine lv_icmp_le (tgt := 68) hx hb dX11_tried_63 (by decide) (fun c15 => ?_) (fun c15 => ?_)
        · replace h := if_t c15 h
          refine lv_aload_n hx hb dX11_tried_68 rfl (lv_at hl 1 rfl) ?_
          refine lv_iload_n hx hb dX11_tried_69 rfl (lv_at hl 2 rfl) ?_
          refine r_putI C hP hS (iw hw (fi_11 hk0)) hk0 fp_X11_343 rfl dX11_tried_70 (fun H locs hP hS => ?_)
          obtain ⟨μ16, eμ16, h⟩ := vl_ex h
          have hP : fP w μ16 H := by rw [eμ16]; exact hP
          refine lv_aload_n hx hb dX11_tried_73 rfl (lv_at hl 1 rfl) ?_
          refine lv_iload_n hx hb dX11_tried_74 rfl (lv_at hl 3 rfl) ?_
          refine r_putI C hP hS (iw hw (fi_11 hk0)) hk0 fp_X11_102 rfl dX11_tried_75 (fun H locs hP hS => ?_)
          obtain ⟨μ17, eμ17, h⟩ := vl_ex h
          have hP : fP w μ17 H := by rw [eμ17]; exact hP
          refine lv_aload_n hx hb dX11_tried_78 rfl (lv_at hl 1 rfl) ?_
          refine lv_iload_n hx hb dX11_tried_79 rfl (lv_at hl 4 rfl) ?_
          obtain ⟨r19, μ18, h20, h⟩ := bd_ok h
          refine go_v (callV_run (As := [.int v3]) (rest := []) C hl hP (hS.wide hJ).2.1 (iw hw (fi_11 hk0)) hk0 (m_X11_runs l w hJ hw v0 v3 hk0 μ17 h20) mv_X11_438 ⟨rfl, rfl, by decide, by decide⟩ rfl rfl (Nat.le_of_ble_eq_true rfl) ⟨Nat.zero_le _, Nat.zero_le _⟩ dX11_tried_80) hS (fun H locs hP hS => ?_)
          refine lv_aload_n hx hb dX11_tried_83 rfl (lv_at hl 1 rfl) ?_
          refine lv_iconst (v := (0)) hx hb dX11_tried_84 (by decide) ?_
          refine r_putI C hP hS (iw hw (fi_11 hk0)) hk0 fp_X11_343 rfl dX11_tried_85 (fun H locs hP hS => ?_)
          obtain ⟨μ21, eμ21, h⟩ := vl_ex h
          have hP : fP w μ21 H := by rw [eμ21]; exact hP
          refine lv_aload_n hx hb dX11_tried_88 rfl (lv_at hl 1 rfl) ?_
          refine lv_iconst (v := (-1)) hx hb dX11_tried_89 (by decide) ?_
          refine r_putI C hP hS (iw hw (fi_11 hk0)) hk0 fp_X11_102 rfl dX11_tried_90 (fun H locs hP hS => ?_)
          obtain ⟨μ22, eμ22, h⟩ := vl_ex h
          have hP : fP w μ22 H := by rw [eμ22]; exact hP
          refine lv_aload_n hx hb dX11_tried_93 rfl (lv_at hl 1 rfl) ?_
          refine lv_iconst (v := (1)) hx hb dX11_tried_94 (by decide) ?_
          obtain ⟨r24, μ23, h25, h⟩ := bd_ok h
          refine go_i (callV_run (As := [.int (1 : Int32)]) (rest := []) C hl hP (hS.wide hJ).2.1 (iw hw (fi_11 hk0)) hk0 (m_X11_stirs l w hJ hw v0 (1 : Int32) hk0 μ22 h25) mv_X11_444 ⟨rfl, rfl, by decide, by decide⟩ rfl rfl (Nat.le_of_ble_eq_true rfl) ⟨Nat.zero_le _, Nat.zero_le _⟩ dX11_tried_95) hS (fun H locs hP hS => ?_)
          refine lv_aload_n hx hb dX11_tried_98 rfl (lv_at hl 1 rfl) ?_
          refine lv_iconst (v := (0)) hx hb dX11_tried_99 (by decide) ?_
          obtain ⟨r27, μ26, h28, h⟩ := bd_ok h
          refine go_i (callV_run (As := [.int (0 : Int32)]) (rest := [.int r24]) C hl hP (hS.wide hJ).2.1 (iw hw (fi_11 hk0)) hk0 (m_X11_stirs l w hJ hw v0 (0 : Int32) hk0 μ23 h28) mv_X11_444 ⟨rfl, rfl, by decide, by decide⟩ rfl rfl (Nat.le_of_ble_eq_true rfl) ⟨Nat.zero_le _, Nat.zero_le _⟩ dX11_tried_100) hS (fun H locs hP hS => ?_)
          refine lv_isub hx hb dX11_tried_103 ?_
          exact r_iret C hr hP hS h dX11_tried_104
        · replace h := if_f c15 h
          refine lv_iconst (v := (-1)) hx hb dX11_tried_66 (by decide) ?_
          exact r_iret C hr hP hS h dX11_tried_67
  have J48 : ∀  (μ : fMem), f_X11_tried_j48 v0 v1 v2 v3 μ = some (r, μr) → WW p l e rm_X11_tried s m args below meth c (MQ below (fQi w r μr) args s 0 0 (fA w)) w μ 5 48 [] [(0, .ref (w.2.2.1 v0)), (1, .int v1), (2, .int v2), (3, .int v3)] := by
    intro  μ  h H locs ls hP hS hl
    unfold f_X11_tried_j48 at h
    refine lv_iconst (v := (0)) hx hb dX11_tried_48 (by decide) ?_
    exact J49 (0 : Int32) μ  h _ _ _ hP hS (lv_sub hl [0, 1, 2, 3] rfl)
  refine lv_aload_n hx hb dX11_tried_0 rfl (lv_at hl 0 rfl) ?_
  refine lv_iconst (v := (0)) hx hb dX11_tried_1 (by decide) ?_
  refine r_putI C hP hS (iw hw (fi_11 hk0)) hk0 fp_X11_148 rfl dX11_tried_2 (fun H locs hP hS => ?_)
  obtain ⟨μ1, eμ1, h⟩ := vl_ex h
  have hP : fP w μ1 H := by rw [eμ1]; exact hP
  refine lv_iload_n hx hb dX11_tried_5 rfl (lv_at hl 1 rfl) ?_
  refine lv_iconst (v := (2)) hx hb dX11_tried_6 (by decide) ?_
  refine lv_icmp_ne (tgt := 18) hx hb dX11_tried_7 (by decide) (fun c2 => ?_) (fun c2 => ?_)
  · replace h := if_f c2 h
    refine lv_iload_n hx hb dX11_tried_18 rfl (lv_at hl 1 rfl) ?_
    refine lv_iconst (v := (5)) hx hb dX11_tried_19 (by decide) ?_
    refine lv_icmp_ne (tgt := 31) hx hb dX11_tried_20 (by decide) (fun c3 => ?_) (fun c3 => ?_)
    · replace h := if_f c3 h
      refine lv_iload_n hx hb dX11_tried_31 rfl (lv_at hl 1 rfl) ?_
      refine lv_if_lt (tgt := 48) hx hb dX11_tried_32 (by decide) (fun c4 => ?_) (fun c4 => ?_)
      · replace h := if_t c4 h
        exact J48  μ1  h _ _ _ hP hS (lv_sub hl [0, 1, 2, 3] rfl)
      · replace h := if_f c4 h
        refine lv_iload_n hx hb dX11_tried_35 rfl (lv_at hl 1 rfl) ?_
        refine lv_iconst (v := (4)) hx hb dX11_tried_36 (by decide) ?_
        refine lv_icmp_gt (tgt := 48) hx hb dX11_tried_37 (by decide) (fun c5 => ?_) (fun c5 => ?_)
        · replace h := if_t c5 h
          exact J48  μ1  h _ _ _ hP hS (lv_sub hl [0, 1, 2, 3] rfl)
        · replace h := if_f c5 h
          refine lv_iload_n hx hb dX11_tried_40 rfl (lv_at hl 2 rfl) ?_
          refine lv_if_ne (tgt := 48) hx hb dX11_tried_41 (by decide) (fun c6 => ?_) (fun c6 => ?_)
          · replace h := if_f c6 h
            exact J48  μ1  h _ _ _ hP hS (lv_sub hl [0, 1, 2, 3] rfl)
          · replace h := if_t c6 h
            refine lv_iconst (v := (1)) hx hb dX11_tried_44 (by decide) ?_
            refine lv_goto (tgt := 49) hx hb dX11_tried_45 (by decide) ?_
            exact J49 (1 : Int32) μ1  h _ _ _ hP hS (lv_sub hl [0, 1, 2, 3] rfl)
    · replace h := if_t c3 h
      refine lv_aload_n hx hb dX11_tried_23 rfl (lv_at hl 0 rfl) ?_
      refine lv_iload_n hx hb dX11_tried_24 rfl (lv_at hl 2 rfl) ?_
      obtain ⟨r8, μ7, h9, h⟩ := bd_ok h
      refine go_i (callV_run (As := [.int v2]) (rest := []) C hl hP (hS.wide hJ).2.1 (iw hw (fi_11 hk0)) hk0 (m_X11_isThing l w hJ hw v0 v2 hk0 μ1 h9) mv_X11_416 ⟨rfl, rfl, by decide, by decide⟩ rfl rfl (Nat.le_of_ble_eq_true rfl) ⟨Nat.zero_le _, Nat.zero_le _⟩ dX11_tried_25) hS (fun H locs hP hS => ?_)
      refine lv_goto (tgt := 49) hx hb dX11_tried_28 (by decide) ?_
      exact J49 r8 μ7  h _ _ _ hP hS (lv_sub hl [0, 1, 2, 3] rfl)
  · replace h := if_t c2 h
    refine lv_aload_n hx hb dX11_tried_10 rfl (lv_at hl 0 rfl) ?_
    refine lv_iload_n hx hb dX11_tried_11 rfl (lv_at hl 2 rfl) ?_
    obtain ⟨r11, μ10, h12, h⟩ := bd_ok h
    refine go_i (callV_run (As := [.int v2]) (rest := []) C hl hP (hS.wide hJ).2.1 (iw hw (fi_11 hk0)) hk0 (m_X11_isDead l w hJ hw v0 v2 hk0 μ1 h12) mv_X11_428 ⟨rfl, rfl, by decide, by decide⟩ rfl rfl (Nat.le_of_ble_eq_true rfl) ⟨Nat.zero_le _, Nat.zero_le _⟩ dX11_tried_12) hS (fun H locs hP hS => ?_)
    refine lv_goto (tgt := 49) hx hb dX11_tried_15 (by decide) ?_
    exact J49 r11 μ10  h _ _ _ hP hS (lv_sub hl [0, 1, 2, 3] rfl)

def f_X11_undo (v0 : Nat) (μ : fMem) : Option (Int32 × fMem) :=
  vl (sI μ v0 0 (0 : Int32)) fun μ1 => if (μ1.1 v0 46) = 0 then some ((-1 : Int32), μ1) else vl (sI μ1 v0 46 ((μ1.1 v0 46) - (1 : Int32))) fun μ3 => bd (f_X11_copies v0 (0 : Int32) ((3 : Int32) + (μ3.1 v0 46)) μ3) fun r5 μ4 => some ((μ4.1 v0 46), μ4)
def rm_X11_undo : Room := { frames := 1, cells := 0, slots := 0, locals := 23 }
set_option maxHeartbeats 4000000 in
set_option maxRecDepth 100000 in
theorem m_X11_undo (l : Launch) (w : fW) (hJ : fJ w) (hw : w.2.2.2 = sd 1) (v0 : Nat) (hk0 : kd v0 = (4, 11)) (μ : fMem) {r : Int32} {μr : fMem} (h : f_X11_undo v0 μ = some (r, μr)) : Met l yX11_undo (.code yX11_undo cX11_undo 1 (some .int) :: gw) rm_X11_undo (fPc w [.ref (w.2.2.1 v0)] μ) (fQi w r μr) 0 0 (fA w) := by
  refine met_of hJ (by decide) ?_ (Nat.le_of_ble_eq_true rfl)
  generalize ([.ref (w.2.2.1 v0)] : List Value).toArray = args
  intro p e s m below meth c ls C hr hP hl hS
  obtain ⟨hx, hb, hml, hown, hts, hK, -, hlk, hT⟩ := id C
  have hl : lv_has ls 1 [(0, .ref (w.2.2.1 v0))] := hl
  unfold f_X11_undo at h
  refine lv_aload_n hx hb dX11_undo_0 rfl (lv_at hl 0 rfl) ?_
  refine lv_iconst (v := (0)) hx hb dX11_undo_1 (by decide) ?_
  refine r_putI C hP hS (iw hw (fi_11 hk0)) hk0 fp_X11_148 rfl dX11_undo_2 (fun H locs hP hS => ?_)
  obtain ⟨μ1, eμ1, h⟩ := vl_ex h
  have hP : fP w μ1 H := by rw [eμ1]; exact hP
  refine lv_aload_n hx hb dX11_undo_5 rfl (lv_at hl 0 rfl) ?_
  refine r_getI C hP (iw hw (fi_11 hk0)) hk0 fl_X11_311 (Or.inl rfl) dX11_undo_6 ?_
  refine lv_if_ne (tgt := 14) hx hb dX11_undo_9 (by decide) (fun c2 => ?_) (fun c2 => ?_)
  · replace h := if_f c2 h
    refine lv_aload_n hx hb dX11_undo_14 rfl (lv_at hl 0 rfl) ?_
    refine lv_dup hx hb dX11_undo_15 rfl ?_
    refine r_getI C hP (iw hw (fi_11 hk0)) hk0 fl_X11_311 (Or.inl rfl) dX11_undo_16 ?_
    refine lv_iconst (v := (1)) hx hb dX11_undo_19 (by decide) ?_
    refine lv_isub hx hb dX11_undo_20 ?_
    refine r_putI C hP hS (iw hw (fi_11 hk0)) hk0 fp_X11_311 rfl dX11_undo_21 (fun H locs hP hS => ?_)
    obtain ⟨μ3, eμ3, h⟩ := vl_ex h
    have hP : fP w μ3 H := by rw [eμ3]; exact hP
    refine lv_aload_n hx hb dX11_undo_24 rfl (lv_at hl 0 rfl) ?_
    refine lv_iconst (v := (0)) hx hb dX11_undo_25 (by decide) ?_
    refine lv_iconst (v := (3)) hx hb dX11_undo_26 (by decide) ?_
    refine lv_aload_n hx hb dX11_undo_27 rfl (lv_at hl 0 rfl) ?_
    refine r_getI C hP (iw hw (fi_11 hk0)) hk0 fl_X11_311 (Or.inl rfl) dX11_undo_28 ?_
    refine lv_iadd hx hb dX11_undo_31 ?_
    obtain ⟨r5, μ4, h6, h⟩ := bd_ok h
    refine go_v (callV_run (As := [.int (0 : Int32), .int ((3 : Int32) + (μ3.1 v0 46))]) (rest := []) C hl hP (hS.wide hJ).2.1 (iw hw (fi_11 hk0)) hk0 (m_X11_copies l w hJ hw v0 (0 : Int32) ((3 : Int32) + (μ3.1 v0 46)) hk0 μ3 h6) mv_X11_403 ⟨rfl, rfl, by decide, by decide⟩ rfl rfl (Nat.le_of_ble_eq_true rfl) ⟨Nat.zero_le _, Nat.zero_le _⟩ dX11_undo_32) hS (fun H locs hP hS => ?_)
    refine lv_aload_n hx hb dX11_undo_35 rfl (lv_at hl 0 rfl) ?_
    refine r_getI C hP (iw hw (fi_11 hk0)) hk0 fl_X11_311 (Or.inl rfl) dX11_undo_36 ?_
    exact r_iret C hr hP hS h dX11_undo_39
  · replace h := if_t c2 h
    refine lv_iconst (v := (-1)) hx hb dX11_undo_12 (by decide) ?_
    exact r_iret C hr hP hS h dX11_undo_13

def f_X11_keep (v0 : Nat) (μ : fMem) : Option (Int32 × fMem) :=
  vl (sI μ v0 0 (0 : Int32)) fun μ1 => bd (f_X11_copies v0 (2 : Int32) (0 : Int32) μ1) fun r3 μ2 => vl (sI μ2 v0 45 (1 : Int32)) fun μ5 => some ((μ5.1 (v0 + 22) 0), μ5)
def rm_X11_keep : Room := { frames := 1, cells := 0, slots := 0, locals := 23 }
set_option maxHeartbeats 4000000 in
set_option maxRecDepth 100000 in
theorem m_X11_keep (l : Launch) (w : fW) (hJ : fJ w) (hw : w.2.2.2 = sd 1) (v0 : Nat) (hk0 : kd v0 = (4, 11)) (μ : fMem) {r : Int32} {μr : fMem} (h : f_X11_keep v0 μ = some (r, μr)) : Met l yX11_keep (.code yX11_keep cX11_keep 1 (some .int) :: gw) rm_X11_keep (fPc w [.ref (w.2.2.1 v0)] μ) (fQi w r μr) 0 0 (fA w) := by
  refine met_of hJ (by decide) ?_ (Nat.le_of_ble_eq_true rfl)
  generalize ([.ref (w.2.2.1 v0)] : List Value).toArray = args
  intro p e s m below meth c ls C hr hP hl hS
  obtain ⟨hx, hb, hml, hown, hts, hK, -, hlk, hT⟩ := id C
  have hl : lv_has ls 1 [(0, .ref (w.2.2.1 v0))] := hl
  unfold f_X11_keep at h
  refine lv_aload_n hx hb dX11_keep_0 rfl (lv_at hl 0 rfl) ?_
  refine lv_iconst (v := (0)) hx hb dX11_keep_1 (by decide) ?_
  refine r_putI C hP hS (iw hw (fi_11 hk0)) hk0 fp_X11_148 rfl dX11_keep_2 (fun H locs hP hS => ?_)
  obtain ⟨μ1, eμ1, h⟩ := vl_ex h
  have hP : fP w μ1 H := by rw [eμ1]; exact hP
  refine lv_aload_n hx hb dX11_keep_5 rfl (lv_at hl 0 rfl) ?_
  refine lv_iconst (v := (2)) hx hb dX11_keep_6 (by decide) ?_
  refine lv_iconst (v := (0)) hx hb dX11_keep_7 (by decide) ?_
  obtain ⟨r3, μ2, h4, h⟩ := bd_ok h
  refine go_v (callV_run (As := [.int (2 : Int32), .int (0 : Int32)]) (rest := []) C hl hP (hS.wide hJ).2.1 (iw hw (fi_11 hk0)) hk0 (m_X11_copies l w hJ hw v0 (2 : Int32) (0 : Int32) hk0 μ1 h4) mv_X11_403 ⟨rfl, rfl, by decide, by decide⟩ rfl rfl (Nat.le_of_ble_eq_true rfl) ⟨Nat.zero_le _, Nat.zero_le _⟩ dX11_keep_8) hS (fun H locs hP hS => ?_)
  refine lv_aload_n hx hb dX11_keep_11 rfl (lv_at hl 0 rfl) ?_
  refine lv_iconst (v := (1)) hx hb dX11_keep_12 (by decide) ?_
  refine r_putZ C hP hS (iw hw (fi_11 hk0)) hk0 fp_X11_307 rfl (Or.inr rfl) dX11_keep_13 (fun H locs hP hS => ?_)
  obtain ⟨μ5, eμ5, h⟩ := vl_ex h
  have hP : fP w μ5 H := by rw [eμ5]; exact hP
  refine lv_aload_n hx hb dX11_keep_16 rfl (lv_at hl 0 rfl) ?_
  refine r_getF (off := 22) C hP (iw hw (fi_11 hk0)) hk0 fl_X11_78 rfl rfl (zw hw) dX11_keep_17 ?_
  refine lv_iconst (v := (0)) hx hb dX11_keep_20 (by decide) ?_
  refine n_iald (j := 0) C hP (iw hw (ff_11_37 hk0).2) (ff_11_37 hk0).1 (by decide) (by decide) dX11_keep_21 ?_
  exact r_iret C hr hP hS h dX11_keep_22

def f_X11_back (v0 : Nat) (μ : fMem) : Option (Int32 × fMem) :=
  vl (sI μ v0 0 (0 : Int32)) fun μ1 => if (μ1.1 v0 45) = 0 then some ((-1 : Int32), μ1) else bd (f_X11_copies v0 (0 : Int32) (2 : Int32) μ1) fun r4 μ3 => vl (sI μ3 v0 46 (0 : Int32)) fun μ6 => some ((μ6.1 (v0 + 22) 0), μ6)
def rm_X11_back : Room := { frames := 1, cells := 0, slots := 0, locals := 23 }
set_option maxHeartbeats 4000000 in
set_option maxRecDepth 100000 in
theorem m_X11_back (l : Launch) (w : fW) (hJ : fJ w) (hw : w.2.2.2 = sd 1) (v0 : Nat) (hk0 : kd v0 = (4, 11)) (μ : fMem) {r : Int32} {μr : fMem} (h : f_X11_back v0 μ = some (r, μr)) : Met l yX11_back (.code yX11_back cX11_back 1 (some .int) :: gw) rm_X11_back (fPc w [.ref (w.2.2.1 v0)] μ) (fQi w r μr) 0 0 (fA w) := by
  refine met_of hJ (by decide) ?_ (Nat.le_of_ble_eq_true rfl)
  generalize ([.ref (w.2.2.1 v0)] : List Value).toArray = args
  intro p e s m below meth c ls C hr hP hl hS
  obtain ⟨hx, hb, hml, hown, hts, hK, -, hlk, hT⟩ := id C
  have hl : lv_has ls 1 [(0, .ref (w.2.2.1 v0))] := hl
  unfold f_X11_back at h
  refine lv_aload_n hx hb dX11_back_0 rfl (lv_at hl 0 rfl) ?_
  refine lv_iconst (v := (0)) hx hb dX11_back_1 (by decide) ?_
  refine r_putI C hP hS (iw hw (fi_11 hk0)) hk0 fp_X11_148 rfl dX11_back_2 (fun H locs hP hS => ?_)
  obtain ⟨μ1, eμ1, h⟩ := vl_ex h
  have hP : fP w μ1 H := by rw [eμ1]; exact hP
  refine lv_aload_n hx hb dX11_back_5 rfl (lv_at hl 0 rfl) ?_
  refine r_getI C hP (iw hw (fi_11 hk0)) hk0 fl_X11_307 (Or.inr rfl) dX11_back_6 ?_
  refine lv_if_ne (tgt := 14) hx hb dX11_back_9 (by decide) (fun c2 => ?_) (fun c2 => ?_)
  · replace h := if_f c2 h
    refine lv_aload_n hx hb dX11_back_14 rfl (lv_at hl 0 rfl) ?_
    refine lv_iconst (v := (0)) hx hb dX11_back_15 (by decide) ?_
    refine lv_iconst (v := (2)) hx hb dX11_back_16 (by decide) ?_
    obtain ⟨r4, μ3, h5, h⟩ := bd_ok h
    refine go_v (callV_run (As := [.int (0 : Int32), .int (2 : Int32)]) (rest := []) C hl hP (hS.wide hJ).2.1 (iw hw (fi_11 hk0)) hk0 (m_X11_copies l w hJ hw v0 (0 : Int32) (2 : Int32) hk0 μ1 h5) mv_X11_403 ⟨rfl, rfl, by decide, by decide⟩ rfl rfl (Nat.le_of_ble_eq_true rfl) ⟨Nat.zero_le _, Nat.zero_le _⟩ dX11_back_17) hS (fun H locs hP hS => ?_)
    refine lv_aload_n hx hb dX11_back_20 rfl (lv_at hl 0 rfl) ?_
    refine lv_iconst (v := (0)) hx hb dX11_back_21 (by decide) ?_
    refine r_putI C hP hS (iw hw (fi_11 hk0)) hk0 fp_X11_311 rfl dX11_back_22 (fun H locs hP hS => ?_)
    obtain ⟨μ6, eμ6, h⟩ := vl_ex h
    have hP : fP w μ6 H := by rw [eμ6]; exact hP
    refine lv_aload_n hx hb dX11_back_25 rfl (lv_at hl 0 rfl) ?_
    refine r_getF (off := 22) C hP (iw hw (fi_11 hk0)) hk0 fl_X11_78 rfl rfl (zw hw) dX11_back_26 ?_
    refine lv_iconst (v := (0)) hx hb dX11_back_29 (by decide) ?_
    refine n_iald (j := 0) C hP (iw hw (ff_11_37 hk0).2) (ff_11_37 hk0).1 (by decide) (by decide) dX11_back_30 ?_
    exact r_iret C hr hP hS h dX11_back_31
  · replace h := if_t c2 h
    refine lv_iconst (v := (-1)) hx hb dX11_back_12 (by decide) ?_
    exact r_iret C hr hP hS h dX11_back_13

def f_X11_count_L148 (v0 : Nat) (v2 : Int32) (v3 : Int32) (μ : fMem) : Option (Nat × (Int32 × Int32 × fMem)) :=
  if (μ.1 (v0 + 2) 3) ≤ v3 then some (1, (v2, v3, μ)) else gd (ixo v3 138) (vl (v2 + (μ.1 (v0 + 29) (Int32.toNatClampNeg v3))) fun x20 => vl (v3 + (1 : Int32)) fun x21 => some (0, (x20, x21, μ)))
def f_X11_count (v0 : Nat) (v1 : Int32) (μ : fMem) : Option (Int32 × fMem) :=
  vl (sI μ v0 0 (0 : Int32)) fun μ1 => if v1 = 0 then some ((μ1.1 (v0 + 2) 0), μ1) else if v1 = 1 then some ((μ1.1 (v0 + 2) 1), μ1) else if v1 = 2 then some ((μ1.1 (v0 + 2) 2), μ1) else if v1 = 3 then some ((μ1.1 (v0 + 2) 3), μ1) else if v1 = 4 then some ((μ1.1 (v0 + 2) 4), μ1) else if v1 = 5 then some ((μ1.1 (v0 + 2) 6), μ1) else if v1 = 6 then some ((μ1.1 (v0 + 22) 0), μ1) else if v1 = 7 then bd (f_X11_sumOf v0 (v0 + 26) (0 : Int32) μ1) fun r11 μ10 => some (r11, μ10) else if v1 = 8 then bd (f_X11_sumOf v0 (v0 + 27) (0 : Int32) μ1) fun r15 μ14 => some (r15, μ14) else if v1 = 9 then bd (lpn (fun (q : Int32 × Int32 × fMem) => f_X11_count_L148 v0 q.1 q.2.1 q.2.2) fuel ((0 : Int32), (0 : Int32), μ1)) fun t22 q23 => (fun (x24 : Int32) (x25 : Int32) (μ26 : fMem) => some (x24, μ26)) q23.1 q23.2.1 q23.2.2 else if v1 = 10 then some ((μ1.1 v0 57), μ1) else if v1 = 11 then bd (f_X11_knownMany v0 μ1) fun r31 μ30 => some (r31, μ30) else if v1 = 12 then some ((μ1.1 v0 46), μ1) else some ((-1 : Int32), μ1)
def rm_X11_count : Room := { frames := 1, cells := 0, slots := 0, locals := 24 }
set_option maxHeartbeats 4000000 in
set_option maxRecDepth 100000 in
theorem m_X11_count (l : Launch) (w : fW) (hJ : fJ w) (hw : w.2.2.2 = sd 1) (v0 : Nat) (v1 : Int32) (hk0 : kd v0 = (4, 11)) (μ : fMem) {r : Int32} {μr : fMem} (h : f_X11_count v0 v1 μ = some (r, μr)) : Met l yX11_count (.code yX11_count cX11_count 4 (some .int) :: gw) rm_X11_count (fPc w [.ref (w.2.2.1 v0), .int v1] μ) (fQi w r μr) 0 0 (fA w) := by
  refine met_of hJ (by decide) ?_ (Nat.le_of_ble_eq_true rfl)
  generalize ([.ref (w.2.2.1 v0), .int v1] : List Value).toArray = args
  intro p e s m below meth c ls C hr hP hl hS
  obtain ⟨hx, hb, hml, hown, hts, hK, -, hlk, hT⟩ := id C
  have hl : lv_has ls 4 [(0, .ref (w.2.2.1 v0)), (1, .int v1)] := hl
  unfold f_X11_count at h
  refine lv_aload_n hx hb dX11_count_0 rfl (lv_at hl 0 rfl) ?_
  refine lv_iconst (v := (0)) hx hb dX11_count_1 (by decide) ?_
  refine r_putI C hP hS (iw hw (fi_11 hk0)) hk0 fp_X11_148 rfl dX11_count_2 (fun H locs hP hS => ?_)
  obtain ⟨μ1, eμ1, h⟩ := vl_ex h
  have hP : fP w μ1 H := by rw [eμ1]; exact hP
  refine lv_iconst (v := (0)) hx hb dX11_count_5 (by decide) ?_
  refine lv_istore_n (lv' := [(2, .int (0 : Int32)), (0, .ref (w.2.2.1 v0)), (1, .int v1)]) hx hb dX11_count_6 rfl hl (by decide) rfl (fun ls hl => ?_)
  refine lv_iload_n hx hb dX11_count_7 rfl (lv_at hl 2 rfl) ?_
  by_cases c2 : v1 = 0
  · replace h := if_t c2 h
    refine lv_tableIn (off := 68) (tgt := 76) hx hb dX11_count_8 (by rw [c2]; decide) (by rw [c2]; decide) (by rw [c2]; rfl) (by decide) ?_
    refine lv_aload_n hx hb dX11_count_76 rfl (lv_at hl 1 rfl) ?_
    refine r_getF (off := 2) C hP (iw hw (fi_11 hk0)) hk0 fl_X11_13 rfl rfl (zw hw) dX11_count_77 ?_
    refine lv_iconst (v := (0)) hx hb dX11_count_80 (by decide) ?_
    refine n_iald (j := 0) C hP (iw hw (ff_11_3 hk0).2) (ff_11_3 hk0).1 (by decide) (by decide) dX11_count_81 ?_
    exact r_iret C hr hP hS h dX11_count_82
  replace h := if_f c2 h
  by_cases c3 : v1 = 1
  · replace h := if_t c3 h
    refine lv_tableIn (off := 75) (tgt := 83) hx hb dX11_count_8 (by rw [c3]; decide) (by rw [c3]; decide) (by rw [c3]; rfl) (by decide) ?_
    refine lv_aload_n hx hb dX11_count_83 rfl (lv_at hl 1 rfl) ?_
    refine r_getF (off := 2) C hP (iw hw (fi_11 hk0)) hk0 fl_X11_13 rfl rfl (zw hw) dX11_count_84 ?_
    refine lv_iconst (v := (1)) hx hb dX11_count_87 (by decide) ?_
    refine n_iald (j := 1) C hP (iw hw (ff_11_3 hk0).2) (ff_11_3 hk0).1 (by decide) (by decide) dX11_count_88 ?_
    exact r_iret C hr hP hS h dX11_count_89
  replace h := if_f c3 h
  by_cases c4 : v1 = 2
  · replace h := if_t c4 h
    refine lv_tableIn (off := 82) (tgt := 90) hx hb dX11_count_8 (by rw [c4]; decide) (by rw [c4]; decide) (by rw [c4]; rfl) (by decide) ?_
    refine lv_aload_n hx hb dX11_count_90 rfl (lv_at hl 1 rfl) ?_
    refine r_getF (off := 2) C hP (iw hw (fi_11 hk0)) hk0 fl_X11_13 rfl rfl (zw hw) dX11_count_91 ?_
    refine lv_iconst (v := (2)) hx hb dX11_count_94 (by decide) ?_
    refine n_iald (j := 2) C hP (iw hw (ff_11_3 hk0).2) (ff_11_3 hk0).1 (by decide) (by decide) dX11_count_95 ?_
    exact r_iret C hr hP hS h dX11_count_96
  replace h := if_f c4 h
  by_cases c5 : v1 = 3
  · replace h := if_t c5 h
    refine lv_tableIn (off := 89) (tgt := 97) hx hb dX11_count_8 (by rw [c5]; decide) (by rw [c5]; decide) (by rw [c5]; rfl) (by decide) ?_
    refine lv_aload_n hx hb dX11_count_97 rfl (lv_at hl 1 rfl) ?_
    refine r_getF (off := 2) C hP (iw hw (fi_11 hk0)) hk0 fl_X11_13 rfl rfl (zw hw) dX11_count_98 ?_
    refine lv_iconst (v := (3)) hx hb dX11_count_101 (by decide) ?_
    refine n_iald (j := 3) C hP (iw hw (ff_11_3 hk0).2) (ff_11_3 hk0).1 (by decide) (by decide) dX11_count_102 ?_
    exact r_iret C hr hP hS h dX11_count_103
  replace h := if_f c5 h
  by_cases c6 : v1 = 4
  · replace h := if_t c6 h
    refine lv_tableIn (off := 96) (tgt := 104) hx hb dX11_count_8 (by rw [c6]; decide) (by rw [c6]; decide) (by rw [c6]; rfl) (by decide) ?_
    refine lv_aload_n hx hb dX11_count_104 rfl (lv_at hl 1 rfl) ?_
    refine r_getF (off := 2) C hP (iw hw (fi_11 hk0)) hk0 fl_X11_13 rfl rfl (zw hw) dX11_count_105 ?_
    refine lv_iconst (v := (4)) hx hb dX11_count_108 (by decide) ?_
    refine n_iald (j := 4) C hP (iw hw (ff_11_3 hk0).2) (ff_11_3 hk0).1 (by decide) (by decide) dX11_count_109 ?_
    exact r_iret C hr hP hS h dX11_count_110
  replace h := if_f c6 h
  by_cases c7 : v1 = 5
  · replace h := if_t c7 h
    refine lv_tableIn (off := 103) (tgt := 111) hx hb dX11_count_8 (by rw [c7]; decide) (by rw [c7]; decide) (by rw [c7]; rfl) (by decide) ?_
    refine lv_aload_n hx hb dX11_count_111 rfl (lv_at hl 1 rfl) ?_
    refine r_getF (off := 2) C hP (iw hw (fi_11 hk0)) hk0 fl_X11_13 rfl rfl (zw hw) dX11_count_112 ?_
    refine lv_bipush (v := (6)) hx hb dX11_count_115 (by decide) ?_
    refine n_iald (j := 6) C hP (iw hw (ff_11_3 hk0).2) (ff_11_3 hk0).1 (by decide) (by decide) dX11_count_117 ?_
    exact r_iret C hr hP hS h dX11_count_118
  replace h := if_f c7 h
  by_cases c8 : v1 = 6
  · replace h := if_t c8 h
    refine lv_tableIn (off := 111) (tgt := 119) hx hb dX11_count_8 (by rw [c8]; decide) (by rw [c8]; decide) (by rw [c8]; rfl) (by decide) ?_
    refine lv_aload_n hx hb dX11_count_119 rfl (lv_at hl 1 rfl) ?_
    refine r_getF (off := 22) C hP (iw hw (fi_11 hk0)) hk0 fl_X11_78 rfl rfl (zw hw) dX11_count_120 ?_
    refine lv_iconst (v := (0)) hx hb dX11_count_123 (by decide) ?_
    refine n_iald (j := 0) C hP (iw hw (ff_11_37 hk0).2) (ff_11_37 hk0).1 (by decide) (by decide) dX11_count_124 ?_
    exact r_iret C hr hP hS h dX11_count_125
  replace h := if_f c8 h
  by_cases c9 : v1 = 7
  · replace h := if_t c9 h
    refine lv_tableIn (off := 118) (tgt := 126) hx hb dX11_count_8 (by rw [c9]; decide) (by rw [c9]; decide) (by rw [c9]; rfl) (by decide) ?_
    refine lv_aload_n hx hb dX11_count_126 rfl (lv_at hl 1 rfl) ?_
    refine lv_aload_n hx hb dX11_count_127 rfl (lv_at hl 1 rfl) ?_
    refine r_getF (off := 26) C hP (iw hw (fi_11 hk0)) hk0 fl_X11_90 rfl rfl (zw hw) dX11_count_128 ?_
    refine lv_iconst (v := (0)) hx hb dX11_count_131 (by decide) ?_
    obtain ⟨r11, μ10, h12, h⟩ := bd_ok h
    refine go_i (callV_run (As := [.ref (w.2.2.1 (v0 + 26)), .int (0 : Int32)]) (rest := []) C hl hP (hS.wide hJ).2.1 (iw hw (fi_11 hk0)) hk0 (m_X11_sumOf l w hJ hw v0 (v0 + 26) (0 : Int32) hk0 (karr (ff_11_41 hk0).1) (iw hw (ff_11_41 hk0).2) μ1 h12) mv_X11_412 ⟨rfl, rfl, by decide, by decide⟩ rfl rfl (Nat.le_of_ble_eq_true rfl) ⟨Nat.zero_le _, Nat.zero_le _⟩ dX11_count_132) hS (fun H locs hP hS => ?_)
    exact r_iret C hr hP hS h dX11_count_135
  replace h := if_f c9 h
  by_cases c13 : v1 = 8
  · replace h := if_t c13 h
    refine lv_tableIn (off := 128) (tgt := 136) hx hb dX11_count_8 (by rw [c13]; decide) (by rw [c13]; decide) (by rw [c13]; rfl) (by decide) ?_
    refine lv_aload_n hx hb dX11_count_136 rfl (lv_at hl 1 rfl) ?_
    refine lv_aload_n hx hb dX11_count_137 rfl (lv_at hl 1 rfl) ?_
    refine r_getF (off := 27) C hP (iw hw (fi_11 hk0)) hk0 fl_X11_93 rfl rfl (zw hw) dX11_count_138 ?_
    refine lv_iconst (v := (0)) hx hb dX11_count_141 (by decide) ?_
    obtain ⟨r15, μ14, h16, h⟩ := bd_ok h
    refine go_i (callV_run (As := [.ref (w.2.2.1 (v0 + 27)), .int (0 : Int32)]) (rest := []) C hl hP (hS.wide hJ).2.1 (iw hw (fi_11 hk0)) hk0 (m_X11_sumOf l w hJ hw v0 (v0 + 27) (0 : Int32) hk0 (karr (ff_11_42 hk0).1) (iw hw (ff_11_42 hk0).2) μ1 h16) mv_X11_412 ⟨rfl, rfl, by decide, by decide⟩ rfl rfl (Nat.le_of_ble_eq_true rfl) ⟨Nat.zero_le _, Nat.zero_le _⟩ dX11_count_142) hS (fun H locs hP hS => ?_)
    exact r_iret C hr hP hS h dX11_count_145
  replace h := if_f c13 h
  by_cases c17 : v1 = 9
  · replace h := if_t c17 h
    refine lv_tableIn (off := 138) (tgt := 146) hx hb dX11_count_8 (by rw [c17]; decide) (by rw [c17]; decide) (by rw [c17]; rfl) (by decide) ?_
    refine lv_iconst (v := (0)) hx hb dX11_count_146 (by decide) ?_
    refine lv_istore_n (lv' := [(3, .int (0 : Int32)), (2, .int (0 : Int32)), (0, .ref (w.2.2.1 v0)), (1, .int v1)]) hx hb dX11_count_147 rfl hl (by decide) rfl (fun ls hl => ?_)
    obtain ⟨t22, q23, h27, h⟩ := bd_ok h
    refine lpn_ind (b := (fun (q : Int32 × Int32 × fMem) => f_X11_count_L148 v0 q.1 q.2.1 q.2.2)) (P := fun (q : Int32 × Int32 × fMem) => WW p l e rm_X11_count s m args below meth c (MQ below (fQi w r μr) args s 0 0 (fA w)) w q.2.2 4 148 [] [(0, .ref (w.2.2.1 v0)), (2, .int q.1), (3, .int q.2.1)]) (K := fun _ (q : Int32 × Int32 × fMem) => WW p l e rm_X11_count s m args below meth c (MQ below (fQi w r μr) args s 0 0 (fA w)) w q.2.2 4 173 [] [(2, .int q.1)]) ?_ fuel ((0 : Int32), (0 : Int32), μ1) t22 q23 h27 ?_ _ _ _ hP hS (lv_sub hl [2, 1, 0] rfl)
    · intro q tz148 sz148 h hP0_148 hK0_148 H locs ls hP hS hl
      obtain ⟨v2, v3, μ⟩ := q
      have hP : fP w μ H := hP
      have hl : lv_has ls 4 [(0, .ref (w.2.2.1 v0)), (2, .int v2), (3, .int v3)] := hl
      have h : f_X11_count_L148 v0 v2 v3 μ = some (tz148, sz148) := h
      unfold f_X11_count_L148 at h
      refine lv_iload_n hx hb dX11_count_148 rfl (lv_at hl 2 rfl) ?_
      refine lv_aload_n hx hb dX11_count_149 rfl (lv_at hl 0 rfl) ?_
      refine r_getF (off := 2) C hP (iw hw (fi_11 hk0)) hk0 fl_X11_13 rfl rfl (zw hw) dX11_count_150 ?_
      refine lv_iconst (v := (3)) hx hb dX11_count_153 (by decide) ?_
      refine n_iald (j := 3) C hP (iw hw (ff_11_3 hk0).2) (ff_11_3 hk0).1 (by decide) (by decide) dX11_count_154 ?_
      refine lv_icmp_ge (tgt := 173) hx hb dX11_count_155 (by decide) (fun c18 => ?_) (fun c18 => ?_)
      · replace h := if_t c18 h
        obtain ⟨rfl, rfl⟩ := leaf h
        exact (hK0_148 0 rfl) _ _ _ hP hS (lv_sub hl [1] rfl)
      · replace h := if_f c18 h
        refine lv_iload_n hx hb dX11_count_158 rfl (lv_at hl 1 rfl) ?_
        refine lv_aload_n hx hb dX11_count_159 rfl (lv_at hl 0 rfl) ?_
        refine r_getF (off := 29) C hP (iw hw (fi_11 hk0)) hk0 fl_X11_99 rfl rfl (zw hw) dX11_count_160 ?_
        refine lv_iload_n hx hb dX11_count_163 rfl (lv_at hl 2 rfl) ?_
        obtain ⟨g19, h⟩ := gd_ok h
        refine r_iald C hP (iw hw (ff_11_44 hk0).2) (ff_11_44 hk0).1 g19 dX11_count_164 ?_
        refine lv_iadd hx hb dX11_count_165 ?_
        refine lv_topi (fun x20 ex20 => ?_)
        replace h := vl_ok ex20 h
        refine lv_istore_n (lv' := [(2, .int x20), (0, .ref (w.2.2.1 v0)), (3, .int v3)]) hx hb dX11_count_166 rfl hl (by decide) rfl (fun ls hl => ?_)
        obtain ⟨x21, ex21⟩ : ∃ y : Int32, y = (v3 + (1 : Int32)) := ⟨_, rfl⟩
        replace h := vl_ok ex21 h
        refine lv_iinc (v := x21) (lv' := [(3, .int x21), (2, .int x20), (0, .ref (w.2.2.1 v0))]) hx hb dX11_count_167 hl (k := 2) rfl (by rw [ex21]; rfl) (by decide) rfl (fun ls hl => ?_)
        refine lv_goto (tgt := 148) hx hb dX11_count_170 (by decide) ?_
        obtain ⟨rfl, rfl⟩ := leaf h
        exact hP0_148 rfl _ _ _ hP hS (lv_sub hl [2, 1, 0] rfl)
    · obtain ⟨x24, x25, μ26⟩ := q23
      intro H locs ls hP hS hl
      have hP : fP w μ26 H := hP
      have hl : lv_has ls 4 [(2, .int x24)] := hl
      try dsimp only at h
      refine lv_iload_n hx hb dX11_count_173 rfl (lv_at hl 0 rfl) ?_
      exact r_iret C hr hP hS h dX11_count_174
  replace h := if_f c17 h
  by_cases c28 : v1 = 10
  · replace h := if_t c28 h
    refine lv_tableIn (off := 167) (tgt := 175) hx hb dX11_count_8 (by rw [c28]; decide) (by rw [c28]; decide) (by rw [c28]; rfl) (by decide) ?_
    refine lv_aload_n hx hb dX11_count_175 rfl (lv_at hl 1 rfl) ?_
    refine r_getI C hP (iw hw (fi_11 hk0)) hk0 fl_X11_304 (Or.inl rfl) dX11_count_176 ?_
    exact r_iret C hr hP hS h dX11_count_179
  replace h := if_f c28 h
  by_cases c29 : v1 = 11
  · replace h := if_t c29 h
    refine lv_tableIn (off := 172) (tgt := 180) hx hb dX11_count_8 (by rw [c29]; decide) (by rw [c29]; decide) (by rw [c29]; rfl) (by decide) ?_
    refine lv_aload_n hx hb dX11_count_180 rfl (lv_at hl 1 rfl) ?_
    obtain ⟨r31, μ30, h32, h⟩ := bd_ok h
    refine go_i (callV_run (As := []) (rest := []) C hl hP (hS.wide hJ).2.1 (iw hw (fi_11 hk0)) hk0 (m_X11_knownMany l w hJ hw v0 hk0 μ1 h32) mv_X11_476 ⟨rfl, rfl, by decide, by decide⟩ rfl rfl (Nat.le_of_ble_eq_true rfl) ⟨Nat.zero_le _, Nat.zero_le _⟩ dX11_count_181) hS (fun H locs hP hS => ?_)
    exact r_iret C hr hP hS h dX11_count_184
  replace h := if_f c29 h
  by_cases c33 : v1 = 12
  · replace h := if_t c33 h
    refine lv_tableIn (off := 177) (tgt := 185) hx hb dX11_count_8 (by rw [c33]; decide) (by rw [c33]; decide) (by rw [c33]; rfl) (by decide) ?_
    refine lv_aload_n hx hb dX11_count_185 rfl (lv_at hl 1 rfl) ?_
    refine r_getI C hP (iw hw (fi_11 hk0)) hk0 fl_X11_311 (Or.inl rfl) dX11_count_186 ?_
    exact r_iret C hr hP hS h dX11_count_189
  replace h := if_f c33 h
  have ho : Int32.toInt v1 < 0 ∨ 12 < Int32.toInt v1 := tb_out _ _ _ (fun v h1 h2 => by
    rcases (show v = 0 ∨ v = 1 ∨ v = 2 ∨ v = 3 ∨ v = 4 ∨ v = 5 ∨ v = 6 ∨ v = 7 ∨ v = 8 ∨ v = 9 ∨ v = 10 ∨ v = 11 ∨ v = 12 by omega) with rfl | rfl | rfl | rfl | rfl | rfl | rfl | rfl | rfl | rfl | rfl | rfl | rfl
    · exact c2
    · exact c3
    · exact c4
    · exact c5
    · exact c6
    · exact c7
    · exact c8
    · exact c9
    · exact c13
    · exact c17
    · exact c28
    · exact c29
    · exact c33)
  refine lv_tableOut (tgt := 190) hx hb dX11_count_8 ho (by decide) ?_
  refine lv_iconst (v := (-1)) hx hb dX11_count_190 (by decide) ?_
  exact r_iret C hr hP hS h dX11_count_191

