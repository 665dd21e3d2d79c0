def f_X11_way_L25 (v0 : Nat) (v1 : Int32) (v2 : Int32) (v3 : Int32) (μ : fMem) : Option (Nat × (Int32 × fMem)) :=
  if (6 : Int32) ≤ v3 then some (1, (v3, μ)) else gd (ixo v3 6) (vl (sI μ (v0 + 32) (Int32.toNatClampNeg v3) (-2 : Int32)) fun μ11 => vl (v3 + (1 : Int32)) fun x13 => some (0, (x13, μ11)))
def f_X11_way_L73 (v0 : Nat) (v2 : Int32) (v4 : Int32) (v3 : Int32) (v5 : Int32) (μ : fMem) : Option (Nat × (Int32 × Int32 × fMem)) :=
  if (μ.1 (v0 + 2) 0) ≤ v5 then some (1, (v3, v5, μ)) else gd (ixo v5 6) (if (μ.1 (v0 + 32) (Int32.toNatClampNeg v5)) = (-2 : Int32) then gd (ixo v4 6) (bd (f_X11_isDoor v0 (μ.1 (v0 + 33) (Int32.toNatClampNeg v4)) v5 μ) fun r28 μ27 => if r28 = 0 then vl (v5 + (1 : Int32)) fun x39 => some (0, (v3, x39, μ27)) else gd (ixo v4 6) (gd (ixo (μ27.1 (v0 + 33) (Int32.toNatClampNeg v4)) 6) (gd (ixo v5 6) (vl (sI μ27 (v0 + 32) (Int32.toNatClampNeg v5) ((μ27.1 (v0 + 32) (Int32.toNatClampNeg (μ27.1 (v0 + 33) (Int32.toNatClampNeg v4)))) + (1 : Int32))) fun μ33 => gd (ixo v3 6) (vl (sI μ33 (v0 + 33) (Int32.toNatClampNeg v3) v5) fun μ35 => vl (v3 + (1 : Int32)) fun x37 => vl (v5 + (1 : Int32)) fun x38 => some (0, (x37, x38, μ35))))))) else vl (v5 + (1 : Int32)) fun x25 => some (0, (v3, x25, μ)))
def f_X11_way_L64 (v0 : Nat) (v2 : Int32) (v3 : Int32) (v4 : Int32) (μ : fMem) : Option (Nat × (Int32 × Int32 × fMem)) :=
  if v3 ≤ v4 then some (1, (v3, v4, μ)) else bd (lpn (fun (q : Int32 × Int32 × fMem) => f_X11_way_L73 v0 v2 v4 q.1 q.2.1 q.2.2) fuel (v3, (0 : Int32), μ)) fun t40 q41 => (fun (x42 : Int32) (x43 : Int32) (μ44 : fMem) => vl (v4 + (1 : Int32)) fun x45 => some (0, (x42, x45, μ44))) q41.1 q41.2.1 q41.2.2
def f_X11_way (v0 : Nat) (v1 : Int32) (v2 : Int32) (μ : fMem) : Option (Int32 × fMem) :=
  vl (sI μ v0 0 (0 : Int32)) fun μ1 => bd (f_X11_isRoom v0 v1 μ1) fun r3 μ2 => if r3 = 0 then some ((-1 : Int32), μ2) else bd (f_X11_isRoom v0 v2 μ2) fun r7 μ6 => if r7 = 0 then some ((-1 : Int32), μ6) else bd (lpn (fun (q : Int32 × fMem) => f_X11_way_L25 v0 v1 v2 q.1 q.2) fuel ((0 : Int32), μ6)) fun t14 q15 => (fun (x16 : Int32) (μ17 : fMem) => gd (ixo v1 6) (vl (sI μ17 (v0 + 32) (Int32.toNatClampNeg v1) (0 : Int32)) fun μ18 => vl (sI μ18 (v0 + 33) 0 v1) fun μ20 => bd (lpn (fun (q : Int32 × Int32 × fMem) => f_X11_way_L64 v0 v2 q.1 q.2.1 q.2.2) fuel ((1 : Int32), (0 : Int32), μ20)) fun t47 q48 => (fun (x49 : Int32) (x50 : Int32) (μ51 : fMem) => gd (ixo v2 6) (some ((μ51.1 (v0 + 32) (Int32.toNatClampNeg v2)), μ51))) q48.1 q48.2.1 q48.2.2)) q15.1 q15.2
def rm_X11_way : Room := { frames := 1, cells := 0, slots := 0, locals := 23 }
set_option maxHeartbeats 4000000 in
set_option maxRecDepth 100000 in
theorem m_X11_way (l : Launch) (w : fW) (hJ : fJ w) (hw : w.2.2.2 = sd 1) (v0 : Nat) (v1 : Int32) (v2 : Int32) (hk0 : kd v0 = (4, 11)) (μ : fMem) {r : Int32} {μr : fMem} (h : f_X11_way v0 v1 v2 μ = some (r, μr)) : Met l yX11_way (.code yX11_way cX11_way 6 (some .int) :: gw) rm_X11_way (fPc w [.ref (w.2.2.1 v0), .int v1, .int v2] μ) (fQi w r μr) 0 0 (fA w) := by
  refine met_of hJ (by decide) ?_ (Nat.le_of_ble_eq_true rfl)
  generalize ([.ref (w.2.2.1 v0), .int v1, .int v2] : List Value).toArray = args
  intro p e s m below meth c ls C hr hP hl hS
  obtain ⟨hx, hb, hml, hown, hts, hK, -, hlk, hT⟩ := id C
  have hl : lv_has ls 6 [(0, .ref (w.2.2.1 v0)), (1, .int v1), (2, .int v2)] := hl
  unfold f_X11_way at h
  refine lv_aload_n hx hb dX11_way_0 rfl (lv_at hl 0 rfl) ?_
  refine lv_iconst (v := (0)) hx hb dX11_way_1 (by decide) ?_
  refine r_putI C hP hS (iw hw (fi_11 hk0)) hk0 fp_X11_148 rfl dX11_way_2 (fun H locs hP hS => ?_)
  obtain ⟨μ1, eμ1, h⟩ := vl_ex h
  have hP : fP w μ1 H := by rw [eμ1]; exact hP
  refine lv_aload_n hx hb dX11_way_5 rfl (lv_at hl 0 rfl) ?_
  refine lv_iload_n hx hb dX11_way_6 rfl (lv_at hl 1 rfl) ?_
  obtain ⟨r3, μ2, h4, h⟩ := bd_ok h
  refine go_i (callV_run (As := [.int v1]) (rest := []) C hl hP (hS.wide hJ).2.1 (iw hw (fi_11 hk0)) hk0 (m_X11_isRoom l w hJ hw v0 v1 hk0 μ1 h4) mv_X11_419 ⟨rfl, rfl, by decide, by decide⟩ rfl rfl (Nat.le_of_ble_eq_true rfl) ⟨Nat.zero_le _, Nat.zero_le _⟩ dX11_way_7) hS (fun H locs hP hS => ?_)
  refine lv_if_eq (tgt := 21) hx hb dX11_way_10 (by decide) (fun c5 => ?_) (fun c5 => ?_)
  · replace h := if_t c5 h
    refine lv_iconst (v := (-1)) hx hb dX11_way_21 (by decide) ?_
    exact r_iret C hr hP hS h dX11_way_22
  · replace h := if_f c5 h
    refine lv_aload_n hx hb dX11_way_13 rfl (lv_at hl 0 rfl) ?_
    refine lv_iload_n hx hb dX11_way_14 rfl (lv_at hl 2 rfl) ?_
    obtain ⟨r7, μ6, h8, h⟩ := bd_ok h
    refine go_i (callV_run (As := [.int v2]) (rest := []) C hl hP (hS.wide hJ).2.1 (iw hw (fi_11 hk0)) hk0 (m_X11_isRoom l w hJ hw v0 v2 hk0 μ2 h8) mv_X11_419 ⟨rfl, rfl, by decide, by decide⟩ rfl rfl (Nat.le_of_ble_eq_true rfl) ⟨Nat.zero_le _, Nat.zero_le _⟩ dX11_way_15) hS (fun H locs hP hS => ?_)
    refine lv_if_ne (tgt := 23) hx hb dX11_way_18 (by decide) (fun c9 => ?_) (fun c9 => ?_)
    · replace h := if_f c9 h
      refine lv_iconst (v := (0)) hx hb dX11_way_23 (by decide) ?_
      refine lv_istore_n (lv' := [(3, .int (0 : Int32)), (0, .ref (w.2.2.1 v0)), (1, .int v1), (2, .int v2)]) hx hb dX11_way_24 rfl hl (by decide) rfl (fun ls hl => ?_)
      obtain ⟨t14, q15, h54, h⟩ := bd_ok h
      refine lpn_ind (b := (fun (q : Int32 × fMem) => f_X11_way_L25 v0 v1 v2 q.1 q.2)) (P := fun (q : Int32 × fMem) => WW p l e rm_X11_way s m args below meth c (MQ below (fQi w r μr) args s 0 0 (fA w)) w q.2 6 25 [] [(0, .ref (w.2.2.1 v0)), (1, .int v1), (2, .int v2), (3, .int q.1)]) (K := fun _ (q : Int32 × fMem) => WW p l e rm_X11_way s m args below meth c (MQ below (fQi w r μr) args s 0 0 (fA w)) w q.2 6 45 [] [(0, .ref (w.2.2.1 v0)), (1, .int v1), (2, .int v2)]) ?_ fuel ((0 : Int32), μ6) t14 q15 h54 ?_ _ _ _ hP hS (lv_sub hl [1, 2, 3, 0] rfl)
      · intro q tz25 sz25 h hP0_25 hK0_25 H locs ls hP hS hl
        obtain ⟨v3, μ⟩ := q
        have hP : fP w μ H := hP
        have hl : lv_has ls 6 [(0, .ref (w.2.2.1 v0)), (1, .int v1), (2, .int v2), (3, .int v3)] := hl
        have h : f_X11_way_L25 v0 v1 v2 v3 μ = some (tz25, sz25) := h
        unfold f_X11_way_L25 at h
        refine lv_iload_n hx hb dX11_way_25 rfl (lv_at hl 3 rfl) ?_
        refine lv_bipush (v := (6)) hx hb dX11_way_26 (by decide) ?_
        refine lv_icmp_ge (tgt := 45) hx hb dX11_way_28 (by decide) (fun c10 => ?_) (fun c10 => ?_)
        · replace h := if_t c10 h
          obtain ⟨rfl, rfl⟩ := leaf h
          exact (hK0_25 0 rfl) _ _ _ hP hS (lv_sub hl [0, 1, 2] rfl)
        · replace h := if_f c10 h
          refine lv_aload_n hx hb dX11_way_31 rfl (lv_at hl 0 rfl) ?_
          refine r_getF (off := 32) C hP (iw hw (fi_11 hk0)) hk0 fl_X11_117 rfl rfl (zw hw) dX11_way_32 ?_
          refine lv_iload_n hx hb dX11_way_35 rfl (lv_at hl 3 rfl) ?_
          refine lv_bipush (v := (-2)) hx hb dX11_way_36 (by decide) ?_
          obtain ⟨g12, h⟩ := gd_ok h
          refine r_iast C hP hS (iw hw (ff_11_55 hk0).2) (ff_11_55 hk0).1 g12 dX11_way_38 (fun H locs hP hS => ?_)
          obtain ⟨μ11, eμ11, h⟩ := vl_ex h
          have hP : fP w μ11 H := by rw [eμ11]; exact hP
          obtain ⟨x13, ex13⟩ : ∃ y : Int32, y = (v3 + (1 : Int32)) := ⟨_, rfl⟩
          replace h := vl_ok ex13 h
          refine lv_iinc (v := x13) (lv' := [(3, .int x13), (0, .ref (w.2.2.1 v0)), (1, .int v1), (2, .int v2)]) hx hb dX11_way_39 hl (k := 3) rfl (by rw [ex13]; rfl) (by decide) rfl (fun ls hl => ?_)
          refine lv_goto (tgt := 25) hx hb dX11_way_42 (by decide) ?_
          obtain ⟨rfl, rfl⟩ := leaf h
          exact hP0_25 rfl _ _ _ hP hS (lv_sub hl [1, 2, 3, 0] rfl)
      · obtain ⟨x16, μ17⟩ := q15
        intro H locs ls hP hS hl
        have hP : fP w μ17 H := hP
        have hl : lv_has ls 6 [(0, .ref (w.2.2.1 v0)), (1, .int v1), (2, .int v2)] := hl
        try dsimp only at h
        refine lv_aload_n hx hb dX11_way_45 rfl (lv_at hl 0 rfl) ?_
        refine r_getF (off := 32) C hP (iw hw (fi_11 hk0)) hk0 fl_X11_117 rfl rfl (zw hw) dX11_way_46 ?_
        refine lv_iload_n hx hb dX11_way_49 rfl (lv_at hl 1 rfl) ?_
        refine lv_iconst (v := (0)) hx hb dX11_way_50 (by decide) ?_
        obtain ⟨g19, h⟩ := gd_ok h
        refine r_iast C hP hS (iw hw (ff_11_55 hk0).2) (ff_11_55 hk0).1 g19 dX11_way_51 (fun H locs hP hS => ?_)
        obtain ⟨μ18, eμ18, h⟩ := vl_ex h
        have hP : fP w μ18 H := by rw [eμ18]; exact hP
        refine lv_aload_n hx hb dX11_way_52 rfl (lv_at hl 0 rfl) ?_
        refine r_getF (off := 33) C hP (iw hw (fi_11 hk0)) hk0 fl_X11_120 rfl rfl (zw hw) dX11_way_53 ?_
        refine lv_iconst (v := (0)) hx hb dX11_way_56 (by decide) ?_
        refine lv_iload_n hx hb dX11_way_57 rfl (lv_at hl 1 rfl) ?_
        refine n_iast (j := 0) C hP hS (iw hw (ff_11_56 hk0).2) (ff_11_56 hk0).1 (by decide) (by decide) dX11_way_58 (fun H locs hP hS => ?_)
        obtain ⟨μ20, eμ20, h⟩ := vl_ex h
        have hP : fP w μ20 H := by rw [eμ20]; exact hP
        refine lv_iconst (v := (1)) hx hb dX11_way_59 (by decide) ?_
        refine lv_istore_n (lv' := [(3, .int (1 : Int32)), (0, .ref (w.2.2.1 v0)), (1, .int v1), (2, .int v2)]) hx hb dX11_way_60 rfl hl (by decide) rfl (fun ls hl => ?_)
        refine lv_iconst (v := (0)) hx hb dX11_way_61 (by decide) ?_
        refine lv_istore (lv' := [(4, .int (0 : Int32)), (3, .int (1 : Int32)), (0, .ref (w.2.2.1 v0)), (1, .int v1), (2, .int v2)]) hx hb dX11_way_62 hl (by decide) rfl (fun ls hl => ?_)
        obtain ⟨t47, q48, h53, h⟩ := bd_ok h
        refine lpn_ind (b := (fun (q : Int32 × Int32 × fMem) => f_X11_way_L64 v0 v2 q.1 q.2.1 q.2.2)) (P := fun (q : Int32 × Int32 × fMem) => WW p l e rm_X11_way s m args below meth c (MQ below (fQi w r μr) args s 0 0 (fA w)) w q.2.2 6 64 [] [(0, .ref (w.2.2.1 v0)), (2, .int v2), (3, .int q.1), (4, .int q.2.1)]) (K := fun _ (q : Int32 × Int32 × fMem) => WW p l e rm_X11_way s m args below meth c (MQ below (fQi w r μr) args s 0 0 (fA w)) w q.2.2 6 159 [] [(0, .ref (w.2.2.1 v0)), (2, .int v2)]) ?_ fuel ((1 : Int32), (0 : Int32), μ20) t47 q48 h53 ?_ _ _ _ hP hS (lv_sub hl [2, 4, 1, 0] rfl)
        · intro q tz64 sz64 h hP0_64 hK0_64 H locs ls hP hS hl
          obtain ⟨v3, v4, μ⟩ := q
          have hP : fP w μ H := hP
          have hl : lv_has ls 6 [(0, .ref (w.2.2.1 v0)), (2, .int v2), (3, .int v3), (4, .int v4)] := hl
          have h : f_X11_way_L64 v0 v2 v3 v4 μ = some (tz64, sz64) := h
          unfold f_X11_way_L64 at h
          refine lv_iload hx hb dX11_way_64 (lv_at hl 3 rfl) ?_
          refine lv_iload_n hx hb dX11_way_66 rfl (lv_at hl 2 rfl) ?_
          refine lv_icmp_ge (tgt := 159) hx hb dX11_way_67 (by decide) (fun c21 => ?_) (fun c21 => ?_)
          · replace h := if_t c21 h
            obtain ⟨rfl, rfl⟩ := leaf h
            exact (hK0_64 0 rfl) _ _ _ hP hS (lv_sub hl [0, 1] rfl)
          · replace h := if_f c21 h
            refine lv_iconst (v := (0)) hx hb dX11_way_70 (by decide) ?_
            refine lv_istore (lv' := [(5, .int (0 : Int32)), (0, .ref (w.2.2.1 v0)), (2, .int v2), (3, .int v3), (4, .int v4)]) hx hb dX11_way_71 hl (by decide) rfl (fun ls hl => ?_)
            obtain ⟨t40, q41, h46, h⟩ := bd_ok h
            refine lpn_ind (b := (fun (q : Int32 × Int32 × fMem) => f_X11_way_L73 v0 v2 v4 q.1 q.2.1 q.2.2)) (P := fun (q : Int32 × Int32 × fMem) => WW p l e rm_X11_way s m args below meth c (MQ below (fQi w r μr) args s 0 0 (fA w)) w q.2.2 6 73 [] [(0, .ref (w.2.2.1 v0)), (2, .int v2), (3, .int q.1), (4, .int v4), (5, .int q.2.1)]) (K := fun _ (q : Int32 × Int32 × fMem) => WW p l e rm_X11_way s m args below meth c (MQ below (fQi w r μr) args s 0 0 (fA w)) w q.2.2 6 153 [] [(0, .ref (w.2.2.1 v0)), (2, .int v2), (3, .int q.1), (4, .int v4)]) ?_ fuel (v3, (0 : Int32), μ) t40 q41 h46 ?_ _ _ _ hP hS (lv_sub hl [1, 2, 3, 4, 0] rfl)
            · intro q tz73 sz73 h hP0_73 hK0_73 H locs ls hP hS hl
              obtain ⟨v3, v5, μ⟩ := q
              have hP : fP w μ H := hP
              have hl : lv_has ls 6 [(0, .ref (w.2.2.1 v0)), (2, .int v2), (3, .int v3), (4, .int v4), (5, .int v5)] := hl
              have h : f_X11_way_L73 v0 v2 v4 v3 v5 μ = some (tz73, sz73) := h
              unfold f_X11_way_L73 at h
              refine lv_iload hx hb dX11_way_73 (lv_at hl 4 rfl) ?_
              refine lv_aload_n hx hb dX11_way_75 rfl (lv_at hl 0 rfl) ?_
              refine r_getF (off := 2) C hP (iw hw (fi_11 hk0)) hk0 fl_X11_13 rfl rfl (zw hw) dX11_way_76 ?_
              refine lv_iconst (v := (0)) hx hb dX11_way_79 (by decide) ?_
              refine n_iald (j := 0) C hP (iw hw (ff_11_3 hk0).2) (ff_11_3 hk0).1 (by decide) (by decide) dX11_way_80 ?_
              refine lv_icmp_ge (tgt := 153) hx hb dX11_way_81 (by decide) (fun c22 => ?_) (fun c22 => ?_)
              · replace h := if_t c22 h
                obtain ⟨rfl, rfl⟩ := leaf h
                exact (hK0_73 0 rfl) _ _ _ hP hS (lv_sub hl [0, 1, 2, 3] rfl)
              · replace h := if_f c22 h
                refine lv_aload_n hx hb dX11_way_84 rfl (lv_at hl 0 rfl) ?_
                refine r_getF (off := 32) C hP (iw hw (fi_11 hk0)) hk0 fl_X11_117 rfl rfl (zw hw) dX11_way_85 ?_
                refine lv_iload hx hb dX11_way_88 (lv_at hl 4 rfl) ?_
                obtain ⟨g23, h⟩ := gd_ok h
                refine r_iald C hP (iw hw (ff_11_55 hk0).2) (ff_11_55 hk0).1 g23 dX11_way_90 ?_
                refine lv_bipush (v := (-2)) hx hb dX11_way_91 (by decide) ?_
                refine lv_icmp_ne (tgt := 147) hx hb dX11_way_93 (by decide) (fun c24 => ?_) (fun c24 => ?_)
                · replace h := if_f c24 h
                  obtain ⟨x25, ex25⟩ : ∃ y : Int32, y = (v5 + (1 : Int32)) := ⟨_, rfl⟩
                  replace h := vl_ok ex25 h
                  refine lv_iinc (v := x25) (lv' := [(5, .int x25), (0, .ref (w.2.2.1 v0)), (2, .int v2), (3, .int v3), (4, .int v4)]) hx hb dX11_way_147 hl (k := 4) rfl (by rw [ex25]; rfl) (by decide) rfl (fun ls hl => ?_)
                  refine lv_goto (tgt := 73) hx hb dX11_way_150 (by decide) ?_
                  obtain ⟨rfl, rfl⟩ := leaf h
                  exact hP0_73 rfl _ _ _ hP hS (lv_sub hl [1, 2, 3, 4, 0] rfl)
                · replace h := if_t c24 h
                  refine lv_aload_n hx hb dX11_way_96 rfl (lv_at hl 0 rfl) ?_
                  refine lv_aload_n hx hb dX11_way_97 rfl (lv_at hl 0 rfl) ?_
                  refine r_getF (off := 33) C hP (iw hw (fi_11 hk0)) hk0 fl_X11_120 rfl rfl (zw hw) dX11_way_98 ?_
                  refine lv_iload hx hb dX11_way_101 (lv_at hl 3 rfl) ?_
                  obtain ⟨g26, h⟩ := gd_ok h
                  refine r_iald C hP (iw hw (ff_11_56 hk0).2) (ff_11_56 hk0).1 g26 dX11_way_103 ?_
                  refine lv_iload hx hb dX11_way_104 (lv_at hl 4 rfl) ?_
                  obtain ⟨r28, μ27, h29, h⟩ := bd_ok h
                  refine go_i (callV_run (As := [.int (μ.1 (v0 + 33) (Int32.toNatClampNeg v4)), .int v5]) (rest := []) C hl hP (hS.wide hJ).2.1 (iw hw (fi_11 hk0)) hk0 (m_X11_isDoor l w hJ hw v0 (μ.1 (v0 + 33) (Int32.toNatClampNeg v4)) v5 hk0 μ h29) mv_X11_388 ⟨rfl, rfl, by decide, by decide⟩ rfl rfl (Nat.le_of_ble_eq_true rfl) ⟨Nat.zero_le _, Nat.zero_le _⟩ dX11_way_106) hS (fun H locs hP hS => ?_)
                  refine lv_if_ne (tgt := 115) hx hb dX11_way_109 (by decide) (fun c30 => ?_) (fun c30 => ?_)
                  · replace h := if_f c30 h
                    refine lv_aload_n hx hb dX11_way_115 rfl (lv_at hl 0 rfl) ?_
                    refine r_getF (off := 32) C hP (iw hw (fi_11 hk0)) hk0 fl_X11_117 rfl rfl (zw hw) dX11_way_116 ?_
                    refine lv_iload hx hb dX11_way_119 (lv_at hl 4 rfl) ?_
                    refine lv_aload_n hx hb dX11_way_121 rfl (lv_at hl 0 rfl) ?_
                    refine r_getF (off := 32) C hP (iw hw (fi_11 hk0)) hk0 fl_X11_117 rfl rfl (zw hw) dX11_way_122 ?_
                    refine lv_aload_n hx hb dX11_way_125 rfl (lv_at hl 0 rfl) ?_
                    refine r_getF (off := 33) C hP (iw hw (fi_11 hk0)) hk0 fl_X11_120 rfl rfl (zw hw) dX11_way_126 ?_
                    refine lv_iload hx hb dX11_way_129 (lv_at hl 3 rfl) ?_
                    obtain ⟨g31, h⟩ := gd_ok h
                    refine r_iald C hP (iw hw (ff_11_56 hk0).2) (ff_11_56 hk0).1 g31 dX11_way_131 ?_
                    obtain ⟨g32, h⟩ := gd_ok h
                    refine r_iald C hP (iw hw (ff_11_55 hk0).2) (ff_11_55 hk0).1 g32 dX11_way_132 ?_
                    refine lv_iconst (v := (1)) hx hb dX11_way_133 (by decide) ?_
                    refine lv_iadd hx hb dX11_way_134 ?_
                    obtain ⟨g34, h⟩ := gd_ok h
                    refine r_iast C hP hS (iw hw (ff_11_55 hk0).2) (ff_11_55 hk0).1 g34 dX11_way_135 (fun H locs hP hS => ?_)
                    obtain ⟨μ33, eμ33, h⟩ := vl_ex h
                    have hP : fP w μ33 H := by rw [eμ33]; exact hP
                    refine lv_aload_n hx hb dX11_way_136 rfl (lv_at hl 0 rfl) ?_
                    refine r_getF (off := 33) C hP (iw hw (fi_11 hk0)) hk0 fl_X11_120 rfl rfl (zw hw) dX11_way_137 ?_
                    refine lv_iload_n hx hb dX11_way_140 rfl (lv_at hl 2 rfl) ?_
                    refine lv_iload hx hb dX11_way_141 (lv_at hl 4 rfl) ?_
                    obtain ⟨g36, h⟩ := gd_ok h
                    refine r_iast C hP hS (iw hw (ff_11_56 hk0).2) (ff_11_56 hk0).1 g36 dX11_way_143 (fun H locs hP hS => ?_)
                    obtain ⟨μ35, eμ35, h⟩ := vl_ex h
                    have hP : fP w μ35 H := by rw [eμ35]; exact hP
                    obtain ⟨x37, ex37⟩ : ∃ y : Int32, y = (v3 + (1 : Int32)) := ⟨_, rfl⟩
                    replace h := vl_ok ex37 h
                    refine lv_iinc (v := x37) (lv' := [(3, .int x37), (0, .ref (w.2.2.1 v0)), (2, .int v2), (4, .int v4), (5, .int v5)]) hx hb dX11_way_144 hl (k := 2) rfl (by rw [ex37]; rfl) (by decide) rfl (fun ls hl => ?_)
                    obtain ⟨x38, ex38⟩ : ∃ y : Int32, y = (v5 + (1 : Int32)) := ⟨_, rfl⟩
                    replace h := vl_ok ex38 h
                    refine lv_iinc (v := x38) (lv' := [(5, .int x38), (3, .int x37), (0, .ref (w.2.2.1 v0)), (2, .int v2), (4, .int v4)]) hx hb dX11_way_147 hl (k := 4) rfl (by rw [ex38]; rfl) (by decide) rfl (fun ls hl => ?_)
                    refine lv_goto (tgt := 73) hx hb dX11_way_150 (by decide) ?_
                    obtain ⟨rfl, rfl⟩ := leaf h
                    exact hP0_73 rfl _ _ _ hP hS (lv_sub hl [2, 3, 1, 4, 0] rfl)
                  · replace h := if_t c30 h
                    refine lv_goto (tgt := 147) hx hb dX11_way_112 (by decide) ?_
                    obtain ⟨x39, ex39⟩ : ∃ y : Int32, y = (v5 + (1 : Int32)) := ⟨_, rfl⟩
                    replace h := vl_ok ex39 h
                    refine lv_iinc (v := x39) (lv' := [(5, .int x39), (0, .ref (w.2.2.1 v0)), (2, .int v2), (3, .int v3), (4, .int v4)]) hx hb dX11_way_147 hl (k := 4) rfl (by rw [ex39]; rfl) (by decide) rfl (fun ls hl => ?_)
                    refine lv_goto (tgt := 73) hx hb dX11_way_150 (by decide) ?_
                    obtain ⟨rfl, rfl⟩ := leaf h
                    exact hP0_73 rfl _ _ _ hP hS (lv_sub hl [1, 2, 3, 4, 0] rfl)
            · obtain ⟨x42, x43, μ44⟩ := q41
              intro H locs ls hP hS hl
              have hP : fP w μ44 H := hP
              have hl : lv_has ls 6 [(0, .ref (w.2.2.1 v0)), (2, .int v2), (3, .int x42), (4, .int v4)] := hl
              try dsimp only at h
              obtain ⟨x45, ex45⟩ : ∃ y : Int32, y = (v4 + (1 : Int32)) := ⟨_, rfl⟩
              replace h := vl_ok ex45 h
              refine lv_iinc (v := x45) (lv' := [(4, .int x45), (0, .ref (w.2.2.1 v0)), (2, .int v2), (3, .int x42)]) hx hb dX11_way_153 hl (k := 3) rfl (by rw [ex45]; rfl) (by decide) rfl (fun ls hl => ?_)
              refine lv_goto (tgt := 64) hx hb dX11_way_156 (by decide) ?_
              obtain ⟨rfl, rfl⟩ := leaf h
              exact hP0_64 rfl _ _ _ hP hS (lv_sub hl [1, 2, 3, 0] rfl)
        · obtain ⟨x49, x50, μ51⟩ := q48
          intro H locs ls hP hS hl
          have hP : fP w μ51 H := hP
          have hl : lv_has ls 6 [(0, .ref (w.2.2.1 v0)), (2, .int v2)] := hl
          try dsimp only at h
          refine lv_aload_n hx hb dX11_way_159 rfl (lv_at hl 0 rfl) ?_
          refine r_getF (off := 32) C hP (iw hw (fi_11 hk0)) hk0 fl_X11_117 rfl rfl (zw hw) dX11_way_160 ?_
          refine lv_iload_n hx hb dX11_way_163 rfl (lv_at hl 1 rfl) ?_
          obtain ⟨g52, h⟩ := gd_ok h
          refine r_iald C hP (iw hw (ff_11_55 hk0).2) (ff_11_55 hk0).1 g52 dX11_way_164 ?_
          exact r_iret C hr hP hS h dX11_way_165
    · replace h := if_t c9 h
      refine lv_iconst (v := (-1)) hx hb dX11_way_21 (by decide) ?_
      exact r_iret C hr hP hS h dX11_way_22

def f_X11_common_L6  (v4 : Int64) (v6 : Int64) (μ : fMem) : Option (Nat × (Int64 × Int64 × fMem)) :=
  if (lg_cmp v6 (0 : Int64)) = 0 then some (1, (v4, v6, μ)) else gd (¬ v6 = 0) (vl (lrm v4 v6) fun x3 => some (0, (v6, x3, μ)))
def f_X11_common (v0 : Int64) (v2 : Int64) (μ : fMem) : Option (Int64 × fMem) :=
  bd (lpn (fun (q : Int64 × Int64 × fMem) => f_X11_common_L6  q.1 q.2.1 q.2.2) fuel (v0, v2, μ)) fun t4 q5 => (fun (x6 : Int64) (x7 : Int64) (μ8 : fMem) => some (x6, μ8)) q5.1 q5.2.1 q5.2.2
def rm_X11_common : Room := { frames := 0, cells := 0, slots := 0, locals := 0 }
set_option maxHeartbeats 4000000 in
set_option maxRecDepth 100000 in
theorem m_X11_common (l : Launch) (w : fW) (hJ : fJ w) (hw : w.2.2.2 = sd 1) (v0 : Int64) (v2 : Int64) (μ : fMem) {r : Int64} {μr : fMem} (h : f_X11_common v0 v2 μ = some (r, μr)) : Met l yX11_common (.code yX11_common cX11_common 10 (some .long) :: gw) rm_X11_common (fPc w [.long v0, .long v2] μ) (fQl w r μr) 0 0 (fA w) := by
  refine met_of hJ (by decide) ?_ (Nat.le_of_ble_eq_true rfl)
  generalize ([.long v0, .long v2] : List Value).toArray = args
  intro p e s m below meth c ls C hr hP hl hS
  obtain ⟨hx, hb, hml, hown, hts, hK, -, hlk, hT⟩ := id C
  have hl : lv_has ls 10 [(0, .long v0), (2, .long v2)] := hl
  unfold f_X11_common at h
  refine lv_lload_n hx hb dX11_common_0 rfl (lv_at hl 0 rfl) ?_
  refine lv_lstore (lv' := [(4, .long v0), (0, .long v0), (2, .long v2)]) hx hb dX11_common_1 hl (by decide) rfl (fun ls hl => ?_)
  refine lv_lload_n hx hb dX11_common_3 rfl (lv_at hl 2 rfl) ?_
  refine lv_lstore (lv' := [(6, .long v2), (4, .long v0), (0, .long v0), (2, .long v2)]) hx hb dX11_common_4 hl (by decide) rfl (fun ls hl => ?_)
  obtain ⟨t4, q5, h9, h⟩ := bd_ok h
  refine lpn_ind (b := (fun (q : Int64 × Int64 × fMem) => f_X11_common_L6  q.1 q.2.1 q.2.2)) (P := fun (q : Int64 × Int64 × fMem) => WW p l e rm_X11_common s m args below meth c (MQ below (fQl w r μr) args s 0 0 (fA w)) w q.2.2 10 6 [] [(4, .long q.1), (6, .long q.2.1)]) (K := fun _ (q : Int64 × Int64 × fMem) => WW p l e rm_X11_common s m args below meth c (MQ below (fQl w r μr) args s 0 0 (fA w)) w q.2.2 10 31 [] [(4, .long q.1)]) ?_ fuel (v0, v2, μ) t4 q5 h9 ?_ _ _ _ hP hS (lv_sub hl [1, 0] rfl)
  · intro q tz6 sz6 h hP0_6 hK0_6 H locs ls hP hS hl
    obtain ⟨v4, v6, μ⟩ := q
    have hP : fP w μ H := hP
    have hl : lv_has ls 10 [(4, .long v4), (6, .long v6)] := hl
    have h : f_X11_common_L6  v4 v6 μ = some (tz6, sz6) := h
    unfold f_X11_common_L6 at h
    refine lv_lload hx hb dX11_common_6 (lv_at hl 1 rfl) ?_
    refine lv_lconst (v := 0) hx hb dX11_common_8 (by decide) ?_
    refine W.lcmp hx hb dX11_common_9 ?_
    refine lv_if_eq (tgt := 31) hx hb dX11_common_10 (by decide) (fun c1 => ?_) (fun c1 => ?_)
    · replace h := if_t c1 h
      obtain ⟨rfl, rfl⟩ := leaf h
      exact (hK0_6 0 rfl) _ _ _ hP hS (lv_sub hl [0] rfl)
    · replace h := if_f c1 h
      refine lv_lload hx hb dX11_common_13 (lv_at hl 0 rfl) ?_
      refine lv_lload hx hb dX11_common_15 (lv_at hl 1 rfl) ?_
      obtain ⟨g2, h⟩ := gd_ok h
      refine r_lrem hx hb dX11_common_17 g2 ?_
      refine lv_topl (fun x3 ex3 => ?_)
      replace h := vl_ok ex3 h
      refine lv_lstore (lv' := [(8, .long x3), (4, .long v4), (6, .long v6)]) hx hb dX11_common_18 hl (by decide) rfl (fun ls hl => ?_)
      refine lv_lload hx hb dX11_common_20 (lv_at hl 2 rfl) ?_
      refine lv_lstore (lv' := [(4, .long v6), (8, .long x3), (6, .long v6)]) hx hb dX11_common_22 hl (by decide) rfl (fun ls hl => ?_)
      refine lv_lload hx hb dX11_common_24 (lv_at hl 1 rfl) ?_
      refine lv_lstore (lv' := [(6, .long x3), (4, .long v6), (8, .long x3)]) hx hb dX11_common_26 hl (by decide) rfl (fun ls hl => ?_)
      refine lv_goto (tgt := 6) hx hb dX11_common_28 (by decide) ?_
      obtain ⟨rfl, rfl⟩ := leaf h
      exact hP0_6 rfl _ _ _ hP hS (lv_sub hl [1, 0] rfl)
  · obtain ⟨x6, x7, μ8⟩ := q5
    intro H locs ls hP hS hl
    have hP : fP w μ8 H := hP
    have hl : lv_has ls 10 [(4, .long x6)] := hl
    try dsimp only at h
    refine lv_lload hx hb dX11_common_31 (lv_at hl 0 rfl) ?_
    exact r_lret C hr hP hS h dX11_common_33

def f_X11_likely_L56 (v0 : Nat) (v1 : Int32) (v2 : Int32) (v3 : Int32) (v4 : Int32) (v5 : Int64) (v9 : Int32) (μ : fMem) : Option (Nat × (Int64 × Int32 × fMem)) :=
  if v3 ≤ v9 then some (1, (v5, v9, μ)) else gd (¬ (((v9 + (1 : Int32))).toInt64) = 0) (vl ((v5 * (((v2 - v9)).toInt64)) / (((v9 + (1 : Int32))).toInt64)) fun x14 => vl (v9 + (1 : Int32)) fun x15 => some (0, (x14, x15, μ)))
def f_X11_likely_j121 (v0 : Nat) (v1 : Int32) (v2 : Int32) (v3 : Int32) (v4 : Int32) (v7 : Int64) (v9 : Int32) (t0 : Int64) (t1 : Int64) (μ : fMem) : Option (Nat × (Int64 × Int64 × Int32 × fMem)) :=
  vl (t0 * t1) fun x25 => vl (v7 * (100 : Int64)) fun x26 => vl (v9 + (1 : Int32)) fun x27 => some (0, (x25, x26, x27, μ))
def f_X11_likely_L87 (v0 : Nat) (v1 : Int32) (v2 : Int32) (v3 : Int32) (v4 : Int32) (v5 : Int64) (v7 : Int64) (v9 : Int32) (μ : fMem) : Option (Nat × (Int64 × Int64 × Int32 × fMem)) :=
  if v2 ≤ v9 then some (1, (v5, v7, v9, μ)) else if v3 ≤ v9 then gd (ixo v1 12) (f_X11_likely_j121 v0 v1 v2 v3 v4 v7 v9 v5 (((μ.1 (v0 + 14) (Int32.toNatClampNeg v1))).toInt64) μ) else gd (ixo v1 12) (f_X11_likely_j121 v0 v1 v2 v3 v4 v7 v9 v5 ((((100 : Int32) - (μ.1 (v0 + 14) (Int32.toNatClampNeg v1)))).toInt64) μ)
def f_X11_likely (v0 : Nat) (v1 : Int32) (v2 : Int32) (v3 : Int32) (v4 : Int32) (μ : fMem) : Option (Int64 × fMem) :=
  vl (sI μ v0 0 (0 : Int32)) fun μ1 => bd (f_X11_isDead v0 v1 μ1) fun r3 μ2 => if r3 = 0 then some ((-1 : Int64), μ2) else if v2 < 0 then some ((-1 : Int64), μ2) else if (8 : Int32) < v2 then some ((-1 : Int64), μ2) else if v3 < 0 then some ((-1 : Int64), μ2) else if v2 < v3 then some ((-1 : Int64), μ2) else if v4 < 0 then some ((-1 : Int64), μ2) else if v4 ≤ (1 : Int32) then bd (lpn (fun (q : Int64 × Int32 × fMem) => f_X11_likely_L56 v0 v1 v2 v3 v4 q.1 q.2.1 q.2.2) fuel ((1 : Int64), (0 : Int32), μ2)) fun t16 q17 => (fun (x18 : Int64) (x19 : Int32) (μ20 : fMem) => bd (lpn (fun (q : Int64 × Int64 × Int32 × fMem) => f_X11_likely_L87 v0 v1 v2 v3 v4 q.1 q.2.1 q.2.2.1 q.2.2.2) fuel (x18, (1 : Int64), (0 : Int32), μ20)) fun t28 q29 => (fun (x30 : Int64) (x31 : Int64) (x32 : Int32) (μ33 : fMem) => bd (f_X11_common x30 x31 μ33) fun r35 μ34 => if v4 = 0 then gd (¬ r35 = 0) (some ((x30 / r35), μ34)) else gd (¬ r35 = 0) (some ((x31 / r35), μ34))) q29.1 q29.2.1 q29.2.2.1 q29.2.2.2) q17.1 q17.2.1 q17.2.2 else some ((-1 : Int64), μ2)
def rm_X11_likely : Room := { frames := 1, cells := 0, slots := 0, locals := 29 }
set_option maxHeartbeats 4000000 in
set_option maxRecDepth 100000 in
theorem m_X11_likely (l : Launch) (w : fW) (hJ : fJ w) (hw : w.2.2.2 = sd 1) (v0 : Nat) (v1 : Int32) (v2 : Int32) (v3 : Int32) (v4 : Int32) (hk0 : kd v0 = (4, 11)) (μ : fMem) {r : Int64} {μr : fMem} (h : f_X11_likely v0 v1 v2 v3 v4 μ = some (r, μr)) : Met l yX11_likely (.code yX11_likely cX11_likely 11 (some .long) :: gw) rm_X11_likely (fPc w [.ref (w.2.2.1 v0), .int v1, .int v2, .int v3, .int v4] μ) (fQl w r μr) 0 0 (fA w) := by
  refine met_of hJ (by decide) ?_ (Nat.le_of_ble_eq_true rfl)
  generalize ([.ref (w.2.2.1 v0), .int v1, .int v2, .int v3, .int v4] : List Value).toArray = args
  intro p e s m below meth c ls C hr hP hl hS
  obtain ⟨hx, hb, hml, hown, hts, hK, -, hlk, hT⟩ := id C
  have hl : lv_has ls 11 [(0, .ref (w.2.2.1 v0)), (1, .int v1), (2, .int v2), (3, .int v3), (4, .int v4)] := hl
  unfold f_X11_likely at h
  refine lv_aload_n hx hb dX11_likely_0 rfl (lv_at hl 0 rfl) ?_
  refine lv_iconst (v := (0)) hx hb dX11_likely_1 (by decide) ?_
  refine r_putI C hP hS (iw hw (fi_11 hk0)) hk0 fp_X11_148 rfl dX11_likely_2 (fun H locs hP hS => ?_)
  obtain ⟨μ1, eμ1, h⟩ := vl_ex h
  have hP : fP w μ1 H := by rw [eμ1]; exact hP
  refine lv_aload_n hx hb dX11_likely_5 rfl (lv_at hl 0 rfl) ?_
  refine lv_iload_n hx hb dX11_likely_6 rfl (lv_at hl 1 rfl) ?_
  obtain ⟨r3, μ2, h4, h⟩ := bd_ok h
  refine go_i (callV_run (As := [.int v1]) (rest := []) C hl hP (hS.wide hJ).2.1 (iw hw (fi_11 hk0)) hk0 (m_X11_isDead l w hJ hw v0 v1 hk0 μ1 h4) mv_X11_428 ⟨rfl, rfl, by decide, by decide⟩ rfl rfl (Nat.le_of_ble_eq_true rfl) ⟨Nat.zero_le _, Nat.zero_le _⟩ dX11_likely_7) hS (fun H locs hP hS => ?_)
  refine lv_if_eq (tgt := 43) hx hb dX11_likely_10 (by decide) (fun c5 => ?_) (fun c5 => ?_)
  · replace h := if_t c5 h
    refine lv_ldc2 hx hb hown (hts _ ct_X11_467) dX11_likely_43 ?_
    exact r_lret C hr hP hS h dX11_likely_46
  · replace h := if_f c5 h
    refine lv_iload_n hx hb dX11_likely_13 rfl (lv_at hl 2 rfl) ?_
    refine lv_if_lt (tgt := 43) hx hb dX11_likely_14 (by decide) (fun c6 => ?_) (fun c6 => ?_)
    · replace h := if_t c6 h
      refine lv_ldc2 hx hb hown (hts _ ct_X11_467) dX11_likely_43 ?_
      exact r_lret C hr hP hS h dX11_likely_46
    · replace h := if_f c6 h
      refine lv_iload_n hx hb dX11_likely_17 rfl (lv_at hl 2 rfl) ?_
      refine lv_bipush (v := (8)) hx hb dX11_likely_18 (by decide) ?_
      refine lv_icmp_gt (tgt := 43) hx hb dX11_likely_20 (by decide) (fun c7 => ?_) (fun c7 => ?_)
      · replace h := if_t c7 h
        refine lv_ldc2 hx hb hown (hts _ ct_X11_467) dX11_likely_43 ?_
        exact r_lret C hr hP hS h dX11_likely_46
      · replace h := if_f c7 h
        refine lv_iload_n hx hb dX11_likely_23 rfl (lv_at hl 3 rfl) ?_
        refine lv_if_lt (tgt := 43) hx hb dX11_likely_24 (by decide) (fun c8 => ?_) (fun c8 => ?_)
        · replace h := if_t c8 h
          refine lv_ldc2 hx hb hown (hts _ ct_X11_467) dX11_likely_43 ?_
          exact r_lret C hr hP hS h dX11_likely_46
        · replace h := if_f c8 h
          refine lv_iload_n hx hb dX11_likely_27 rfl (lv_at hl 3 rfl) ?_
          refine lv_iload_n hx hb dX11_likely_28 rfl (lv_at hl 2 rfl) ?_
          refine lv_icmp_gt (tgt := 43) hx hb dX11_likely_29 (by decide) (fun c9 => ?_) (fun c9 => ?_)
          · replace h := if_t c9 h
            refine lv_ldc2 hx hb hown (hts _ ct_X11_467) dX11_likely_43 ?_
            exact r_lret C hr hP hS h dX11_likely_46
          · replace h := if_f c9 h
            refine lv_iload hx hb dX11_likely_32 (lv_at hl 4 rfl) ?_
            refine lv_if_lt (tgt := 43) hx hb dX11_likely_34 (by decide) (fun c10 => ?_) (fun c10 => ?_)
            · replace h := if_t c10 h
              refine lv_ldc2 hx hb hown (hts _ ct_X11_467) dX11_likely_43 ?_
              exact r_lret C hr hP hS h dX11_likely_46
            · replace h := if_f c10 h
              refine lv_iload hx hb dX11_likely_37 (lv_at hl 4 rfl) ?_
              refine lv_iconst (v := (1)) hx hb dX11_likely_39 (by decide) ?_
              refine lv_icmp_le (tgt := 47) hx hb dX11_likely_40 (by decide) (fun c11 => ?_) (fun c11 => ?_)
              · replace h := if_t c11 h
                refine lv_lconst (v := 1) hx hb dX11_likely_47 (by decide) ?_
                refine lv_lstore (lv' := [(5, .long (1 : Int64)), (0, .ref (w.2.2.1 v0)), (1, .int v1), (2, .int v2), (3, .int v3), (4, .int v4)]) hx hb dX11_likely_48 hl (by decide) rfl (fun ls hl => ?_)
                refine lv_lconst (v := 1) hx hb dX11_likely_50 (by decide) ?_
                refine lv_lstore (lv' := [(7, .long (1 : Int64)), (5, .long (1 : Int64)), (0, .ref (w.2.2.1 v0)), (1, .int v1), (2, .int v2), (3, .int v3), (4, .int v4)]) hx hb dX11_likely_51 hl (by decide) rfl (fun ls hl => ?_)
                refine lv_iconst (v := (0)) hx hb dX11_likely_53 (by decide) ?_
                refine lv_istore (lv' := [(9, .int (0 : Int32)), (7, .long (1 : Int64)), (5, .long (1 : Int64)), (0, .ref (w.2.2.1 v0)), (1, .int v1), (2, .int v2), (3, .int v3), (4, .int v4)]) hx hb dX11_likely_54 hl (by decide) rfl (fun ls hl => ?_)
                obtain ⟨t16, q17, h41, h⟩ := bd_ok h
                refine lpn_ind (b := (fun (q : Int64 × Int32 × fMem) => f_X11_likely_L56 v0 v1 v2 v3 v4 q.1 q.2.1 q.2.2)) (P := fun (q : Int64 × Int32 × fMem) => WW p l e rm_X11_likely s m args below meth c (MQ below (fQl w r μr) args s 0 0 (fA w)) w q.2.2 11 56 [] [(0, .ref (w.2.2.1 v0)), (1, .int v1), (2, .int v2), (3, .int v3), (4, .int v4), (5, .long q.1), (7, .long (1 : Int64)), (9, .int q.2.1)]) (K := fun _ (q : Int64 × Int32 × fMem) => WW p l e rm_X11_likely s m args below meth c (MQ below (fQl w r μr) args s 0 0 (fA w)) w q.2.2 11 84 [] [(0, .ref (w.2.2.1 v0)), (1, .int v1), (2, .int v2), (3, .int v3), (4, .int v4), (5, .long q.1), (7, .long (1 : Int64))]) ?_ fuel ((1 : Int64), (0 : Int32), μ2) t16 q17 h41 ?_ _ _ _ hP hS (lv_sub hl [3, 4, 5, 6, 7, 2, 1, 0] rfl)
                · intro q tz56 sz56 h hP0_56 hK0_56 H locs ls hP hS hl
                  obtain ⟨v5, v9, μ⟩ := q
                  have hP : fP w μ H := hP
                  have hl : lv_has ls 11 [(0, .ref (w.2.2.1 v0)), (1, .int v1), (2, .int v2), (3, .int v3), (4, .int v4), (5, .long v5), (7, .long (1 : Int64)), (9, .int v9)] := hl
                  have h : f_X11_likely_L56 v0 v1 v2 v3 v4 v5 v9 μ = some (tz56, sz56) := h
                  unfold f_X11_likely_L56 at h
                  refine lv_iload hx hb dX11_likely_56 (lv_at hl 7 rfl) ?_
                  refine lv_iload_n hx hb dX11_likely_58 rfl (lv_at hl 3 rfl) ?_
                  refine lv_icmp_ge (tgt := 84) hx hb dX11_likely_59 (by decide) (fun c12 => ?_) (fun c12 => ?_)
                  · replace h := if_t c12 h
                    obtain ⟨rfl, rfl⟩ := leaf h
                    exact (hK0_56 0 rfl) _ _ _ hP hS (lv_sub hl [0, 1, 2, 3, 4, 5, 6] rfl)
                  · replace h := if_f c12 h
                    refine lv_lload hx hb dX11_likely_62 (lv_at hl 5 rfl) ?_
                    refine lv_iload_n hx hb dX11_likely_64 rfl (lv_at hl 2 rfl) ?_
                    refine lv_iload hx hb dX11_likely_65 (lv_at hl 7 rfl) ?_
                    refine lv_isub hx hb dX11_likely_67 ?_
                    refine lv_i2l hx hb dX11_likely_68 rfl ?_
                    refine lv_lmul hx hb dX11_likely_69 ?_
                    refine lv_iload hx hb dX11_likely_70 (lv_at hl 7 rfl) ?_
                    refine lv_iconst (v := (1)) hx hb dX11_likely_72 (by decide) ?_
                    refine lv_iadd hx hb dX11_likely_73 ?_
                    refine lv_i2l hx hb dX11_likely_74 rfl ?_
                    obtain ⟨g13, h⟩ := gd_ok h
                    refine lv_ldiv hx hb dX11_likely_75 g13 ?_
                    refine lv_topl (fun x14 ex14 => ?_)
                    replace h := vl_ok ex14 h
                    refine lv_lstore (lv' := [(5, .long x14), (0, .ref (w.2.2.1 v0)), (1, .int v1), (2, .int v2), (3, .int v3), (4, .int v4), (7, .long (1 : Int64)), (9, .int v9)]) hx hb dX11_likely_76 hl (by decide) rfl (fun ls hl => ?_)
                    obtain ⟨x15, ex15⟩ : ∃ y : Int32, y = (v9 + (1 : Int32)) := ⟨_, rfl⟩
                    replace h := vl_ok ex15 h
                    refine lv_iinc (v := x15) (lv' := [(9, .int x15), (5, .long x14), (0, .ref (w.2.2.1 v0)), (1, .int v1), (2, .int v2), (3, .int v3), (4, .int v4), (7, .long (1 : Int64))]) hx hb dX11_likely_78 hl (k := 7) rfl (by rw [ex15]; rfl) (by decide) rfl (fun ls hl => ?_)
                    refine lv_goto (tgt := 56) hx hb dX11_likely_81 (by decide) ?_
                    obtain ⟨rfl, rfl⟩ := leaf h
                    exact hP0_56 rfl _ _ _ hP hS (lv_sub hl [2, 3, 4, 5, 6, 1, 7, 0] rfl)
                · obtain ⟨x18, x19, μ20⟩ := q17
                  intro H locs ls hP hS hl
                  have hP : fP w μ20 H := hP
                  have hl : lv_has ls 11 [(0, .ref (w.2.2.1 v0)), (1, .int v1), (2, .int v2), (3, .int v3), (4, .int v4), (5, .long x18), (7, .long (1 : Int64))] := hl
                  try dsimp only at h
                  refine lv_iconst (v := (0)) hx hb dX11_likely_84 (by decide) ?_
                  refine lv_istore (lv' := [(9, .int (0 : Int32)), (0, .ref (w.2.2.1 v0)), (1, .int v1), (2, .int v2), (3, .int v3), (4, .int v4), (5, .long x18), (7, .long (1 : Int64))]) hx hb dX11_likely_85 hl (by decide) rfl (fun ls hl => ?_)
                  obtain ⟨t28, q29, h40, h⟩ := bd_ok h
                  refine lpn_ind (b := (fun (q : Int64 × Int64 × Int32 × fMem) => f_X11_likely_L87 v0 v1 v2 v3 v4 q.1 q.2.1 q.2.2.1 q.2.2.2)) (P := fun (q : Int64 × Int64 × Int32 × fMem) => WW p l e rm_X11_likely s m args below meth c (MQ below (fQl w r μr) args s 0 0 (fA w)) w q.2.2.2 11 87 [] [(0, .ref (w.2.2.1 v0)), (1, .int v1), (2, .int v2), (3, .int v3), (4, .int v4), (5, .long q.1), (7, .long q.2.1), (9, .int q.2.2.1)]) (K := fun _ (q : Int64 × Int64 × Int32 × fMem) => WW p l e rm_X11_likely s m args below meth c (MQ below (fQl w r μr) args s 0 0 (fA w)) w q.2.2.2 11 138 [] [(4, .int v4), (5, .long q.1), (7, .long q.2.1)]) ?_ fuel (x18, (1 : Int64), (0 : Int32), μ20) t28 q29 h40 ?_ _ _ _ hP hS (lv_sub hl [1, 2, 3, 4, 5, 6, 7, 0] rfl)
                  · intro q tz87 sz87 h hP0_87 hK0_87 H locs ls hP hS hl
                    obtain ⟨v5, v7, v9, μ⟩ := q
                    have hP : fP w μ H := hP
                    have hl : lv_has ls 11 [(0, .ref (w.2.2.1 v0)), (1, .int v1), (2, .int v2), (3, .int v3), (4, .int v4), (5, .long v5), (7, .long v7), (9, .int v9)] := hl
                    have h : f_X11_likely_L87 v0 v1 v2 v3 v4 v5 v7 v9 μ = some (tz87, sz87) := h
                    unfold f_X11_likely_L87 at h
                    have J121 : ∀ (v7 : Int64) (v9 : Int32) (t0 : Int64) (t1 : Int64) (μ : fMem), f_X11_likely_j121 v0 v1 v2 v3 v4 v7 v9 t0 t1 μ = some (tz87, sz87) → WW p l e rm_X11_likely s m args below meth c (MQ below (fQl w r μr) args s 0 0 (fA w)) w μ 11 121 [.long t1, .long t0] [(0, .ref (w.2.2.1 v0)), (1, .int v1), (2, .int v2), (3, .int v3), (4, .int v4), (7, .long v7), (9, .int v9)] := by
                      intro v7 v9 t0 t1 μ  h H locs ls hP hS hl
                      unfold f_X11_likely_j121 at h
                      refine lv_lmul hx hb dX11_likely_121 ?_
                      refine lv_topl (fun x25 ex25 => ?_)
                      replace h := vl_ok ex25 h
                      refine lv_lstore (lv' := [(5, .long x25), (0, .ref (w.2.2.1 v0)), (1, .int v1), (2, .int v2), (3, .int v3), (4, .int v4), (7, .long v7), (9, .int v9)]) hx hb dX11_likely_122 hl (by decide) rfl (fun ls hl => ?_)
                      refine lv_lload hx hb dX11_likely_124 (lv_at hl 6 rfl) ?_
                      refine lv_ldc2 hx hb hown (hts _ ct_X11_469) dX11_likely_126 ?_
                      refine lv_lmul hx hb dX11_likely_129 ?_
                      refine lv_topl (fun x26 ex26 => ?_)
                      replace h := vl_ok ex26 h
                      refine lv_lstore (lv' := [(7, .long x26), (5, .long x25), (0, .ref (w.2.2.1 v0)), (1, .int v1), (2, .int v2), (3, .int v3), (4, .int v4), (9, .int v9)]) hx hb dX11_likely_130 hl (by decide) rfl (fun ls hl => ?_)
                      obtain ⟨x27, ex27⟩ : ∃ y : Int32, y = (v9 + (1 : Int32)) := ⟨_, rfl⟩
                      replace h := vl_ok ex27 h
                      refine lv_iinc (v := x27) (lv' := [(9, .int x27), (7, .long x26), (5, .long x25), (0, .ref (w.2.2.1 v0)), (1, .int v1), (2, .int v2), (3, .int v3), (4, .int v4)]) hx hb dX11_likely_132 hl (k := 7) rfl (by rw [ex27]; rfl) (by decide) rfl (fun ls hl => ?_)
                      refine lv_goto (tgt := 87) hx hb dX11_likely_135 (by decide) ?_
                      obtain ⟨rfl, rfl⟩ := leaf h
                      exact hP0_87 rfl _ _ _ hP hS (lv_sub hl [3, 4, 5, 6, 7, 2, 1, 0] rfl)
                    refine lv_iload hx hb dX11_likely_87 (lv_at hl 7 rfl) ?_
                    refine lv_iload_n hx hb dX11_likely_89 rfl (lv_at hl 2 rfl) ?_
                    refine lv_icmp_ge (tgt := 138) hx hb dX11_likely_90 (by decide) (fun c21 => ?_) (fun c21 => ?_)
                    · replace h := if_t c21 h
                      obtain ⟨rfl, rfl⟩ := leaf h
                      exact (hK0_87 0 rfl) _ _ _ hP hS (lv_sub hl [4, 5, 6] rfl)
                    · replace h := if_f c21 h
                      refine lv_lload hx hb dX11_likely_93 (lv_at hl 5 rfl) ?_
                      refine lv_iload hx hb dX11_likely_95 (lv_at hl 7 rfl) ?_
                      refine lv_iload_n hx hb dX11_likely_97 rfl (lv_at hl 3 rfl) ?_
                      refine lv_icmp_ge (tgt := 114) hx hb dX11_likely_98 (by decide) (fun c22 => ?_) (fun c22 => ?_)
                      · replace h := if_t c22 h
                        refine lv_aload_n hx hb dX11_likely_114 rfl (lv_at hl 0 rfl) ?_
                        refine r_getF (off := 14) C hP (iw hw (fi_11 hk0)) hk0 fl_X11_49 rfl rfl (zw hw) dX11_likely_115 ?_
                        refine lv_iload_n hx hb dX11_likely_118 rfl (lv_at hl 1 rfl) ?_
                        obtain ⟨g23, h⟩ := gd_ok h
                        refine r_iald C hP (iw hw (ff_11_15 hk0).2) (ff_11_15 hk0).1 g23 dX11_likely_119 ?_
                        refine lv_i2l hx hb dX11_likely_120 rfl ?_
                        exact J121 v7 v9 v5 (((μ.1 (v0 + 14) (Int32.toNatClampNeg v1))).toInt64) μ  h _ _ _ hP hS (lv_sub hl [0, 1, 2, 3, 4, 6, 7] rfl)
                      · replace h := if_f c22 h
                        refine lv_bipush (v := (100)) hx hb dX11_likely_101 (by decide) ?_
                        refine lv_aload_n hx hb dX11_likely_103 rfl (lv_at hl 0 rfl) ?_
                        refine r_getF (off := 14) C hP (iw hw (fi_11 hk0)) hk0 fl_X11_49 rfl rfl (zw hw) dX11_likely_104 ?_
                        refine lv_iload_n hx hb dX11_likely_107 rfl (lv_at hl 1 rfl) ?_
                        obtain ⟨g24, h⟩ := gd_ok h
                        refine r_iald C hP (iw hw (ff_11_15 hk0).2) (ff_11_15 hk0).1 g24 dX11_likely_108 ?_
                        refine lv_isub hx hb dX11_likely_109 ?_
                        refine lv_i2l hx hb dX11_likely_110 rfl ?_
                        refine lv_goto (tgt := 121) hx hb dX11_likely_111 (by decide) ?_
                        exact J121 v7 v9 v5 ((((100 : Int32) - (μ.1 (v0 + 14) (Int32.toNatClampNeg v1)))).toInt64) μ  h _ _ _ hP hS (lv_sub hl [0, 1, 2, 3, 4, 6, 7] rfl)
                  · obtain ⟨x30, x31, x32, μ33⟩ := q29
                    intro H locs ls hP hS hl
                    have hP : fP w μ33 H := hP
                    have hl : lv_has ls 11 [(4, .int v4), (5, .long x30), (7, .long x31)] := hl
                    try dsimp only at h
                    refine lv_lload hx hb dX11_likely_138 (lv_at hl 1 rfl) ?_
                    refine lv_lload hx hb dX11_likely_140 (lv_at hl 2 rfl) ?_
                    obtain ⟨r35, μ34, h36, h⟩ := bd_ok h
                    refine go_l (callS_run (As := [.long x30, .long x31]) (rest := []) C hl hP (hS.wide hJ).2.1 (m_X11_common l w hJ hw x30 x31  μ33 h36) ms_X11_471 ⟨rfl, rfl, by decide, by decide⟩ rfl rfl (Nat.le_of_ble_eq_true rfl) ⟨Nat.zero_le _, Nat.zero_le _⟩ dX11_likely_142) hS (fun H locs hP hS => ?_)
                    refine lv_lstore (lv' := [(9, .long r35), (4, .int v4), (5, .long x30), (7, .long x31)]) hx hb dX11_likely_145 hl (by decide) rfl (fun ls hl => ?_)
                    refine lv_iload hx hb dX11_likely_147 (lv_at hl 1 rfl) ?_
                    refine lv_if_ne (tgt := 160) hx hb dX11_likely_149 (by decide) (fun c37 => ?_) (fun c37 => ?_)
                    · replace h := if_f c37 h
                      refine lv_lload hx hb dX11_likely_160 (lv_at hl 3 rfl) ?_
                      refine lv_lload hx hb dX11_likely_162 (lv_at hl 0 rfl) ?_
                      obtain ⟨g38, h⟩ := gd_ok h
                      refine lv_ldiv hx hb dX11_likely_164 g38 ?_
                      exact r_lret C hr hP hS h dX11_likely_165
                    · replace h := if_t c37 h
                      refine lv_lload hx hb dX11_likely_152 (lv_at hl 2 rfl) ?_
                      refine lv_lload hx hb dX11_likely_154 (lv_at hl 0 rfl) ?_
                      obtain ⟨g39, h⟩ := gd_ok h
                      refine lv_ldiv hx hb dX11_likely_156 g39 ?_
                      refine lv_goto (tgt := 165) hx hb dX11_likely_157 (by decide) ?_
                      exact r_lret C hr hP hS h dX11_likely_165
              · replace h := if_f c11 h
                refine lv_ldc2 hx hb hown (hts _ ct_X11_467) dX11_likely_43 ?_
                exact r_lret C hr hP hS h dX11_likely_46

def f_X11_tickets_L39 (v0 : Nat) (v1 : Int32) (v2 : Int32) (v3 : Int32) (v4 : Int32) (v5 : Int32) (μ : fMem) : Option (Nat × (Int32 × Int32 × fMem)) :=
  if (μ.1 (v0 + 2) 3) ≤ v5 then some (1, (v4, v5, μ)) else bd (f_X11_doesCome v0 (1 : Int32) v5 μ) fun r10 μ9 => if r10 = 0 then vl (v5 + (1 : Int32)) fun x18 => some (0, (v4, x18, μ9)) else vl (v4 + (1 : Int32)) fun x13 => bd (f_X11_visits v0 (1 : Int32) v5 μ9) fun r15 μ14 => vl (v5 + (1 : Int32)) fun x17 => some (0, (x13, x17, μ14))
def f_X11_tickets_L28 (v0 : Nat) (v1 : Int32) (v2 : Int32) (v3 : Int32) (μ : fMem) : Option (Nat × (Int32 × Int32 × fMem)) :=
  if v1 ≤ v3 then some (1, (v2, v3, μ)) else bd (lpn (fun (q : Int32 × Int32 × fMem) => f_X11_tickets_L39 v0 v1 v2 v3 q.1 q.2.1 q.2.2) fuel ((0 : Int32), (0 : Int32), μ)) fun t19 q20 => (fun (x21 : Int32) (x22 : Int32) (μ23 : fMem) => vl (sI μ23 (v0 + 22) 1 ((μ23.1 (v0 + 22) 1) + (1 : Int32))) fun μ24 => vl (imx v2 x21) fun x25 => vl (v3 + (1 : Int32)) fun x26 => some (0, (x25, x26, μ24))) q20.1 q20.2.1 q20.2.2
def f_X11_tickets (v0 : Nat) (v1 : Int32) (μ : fMem) : Option (Int32 × fMem) :=
  vl (sI μ v0 0 (0 : Int32)) fun μ1 => if v1 < (1 : Int32) then some ((-1 : Int32), μ1) else if v1 ≤ (99 : Int32) then bd (f_X11_copies v0 (1 : Int32) (0 : Int32) μ1) fun r5 μ4 => bd (lpn (fun (q : Int32 × Int32 × fMem) => f_X11_tickets_L28 v0 v1 q.1 q.2.1 q.2.2) fuel ((0 : Int32), (0 : Int32), μ4)) fun t28 q29 => (fun (x30 : Int32) (x31 : Int32) (μ32 : fMem) => some (x30, μ32)) q29.1 q29.2.1 q29.2.2 else some ((-1 : Int32), μ1)
def rm_X11_tickets : Room := { frames := 8, cells := 0, slots := 0, locals := 254 }
set_option maxHeartbeats 4000000 in
set_option maxRecDepth 100000 in
theorem m_X11_tickets (l : Launch) (w : fW) (hJ : fJ w) (hw : w.2.2.2 = sd 1) (v0 : Nat) (v1 : Int32) (hk0 : kd v0 = (4, 11)) (μ : fMem) {r : Int32} {μr : fMem} (h : f_X11_tickets v0 v1 μ = some (r, μr)) : Met l yX11_tickets (.code yX11_tickets cX11_tickets 6 (some .int) :: gw) rm_X11_tickets (fPc w [.ref (w.2.2.1 v0), .int v1] μ) (fQi w r μr) 0 0 (fA w) := by
  refine met_of hJ (by decide) ?_ (Nat.le_of_ble_eq_true rfl)
  generalize ([.ref (w.2.2.1 v0), .int v1] : List Value).toArray = args
  intro p e s m below meth c ls C hr hP hl hS
  obtain ⟨hx, hb, hml, hown, hts, hK, -, hlk, hT⟩ := id C
  have hl : lv_has ls 6 [(0, .ref (w.2.2.1 v0)), (1, .int v1)] := hl
  unfold f_X11_tickets at h
  refine lv_aload_n hx hb dX11_tickets_0 rfl (lv_at hl 0 rfl) ?_
  refine lv_iconst (v := (0)) hx hb dX11_tickets_1 (by decide) ?_
  refine r_putI C hP hS (iw hw (fi_11 hk0)) hk0 fp_X11_148 rfl dX11_tickets_2 (fun H locs hP hS => ?_)
  obtain ⟨μ1, eμ1, h⟩ := vl_ex h
  have hP : fP w μ1 H := by rw [eμ1]; exact hP
  refine lv_iload_n hx hb dX11_tickets_5 rfl (lv_at hl 1 rfl) ?_
  refine lv_iconst (v := (1)) hx hb dX11_tickets_6 (by decide) ?_
  refine lv_icmp_lt (tgt := 16) hx hb dX11_tickets_7 (by decide) (fun c2 => ?_) (fun c2 => ?_)
  · replace h := if_t c2 h
    refine lv_iconst (v := (-1)) hx hb dX11_tickets_16 (by decide) ?_
    exact r_iret C hr hP hS h dX11_tickets_17
  · replace h := if_f c2 h
    refine lv_iload_n hx hb dX11_tickets_10 rfl (lv_at hl 1 rfl) ?_
    refine lv_bipush (v := (99)) hx hb dX11_tickets_11 (by decide) ?_
    refine lv_icmp_le (tgt := 18) hx hb dX11_tickets_13 (by decide) (fun c3 => ?_) (fun c3 => ?_)
    · replace h := if_t c3 h
      refine lv_aload_n hx hb dX11_tickets_18 rfl (lv_at hl 0 rfl) ?_
      refine lv_iconst (v := (1)) hx hb dX11_tickets_19 (by decide) ?_
      refine lv_iconst (v := (0)) hx hb dX11_tickets_20 (by decide) ?_
      obtain ⟨r5, μ4, h6, h⟩ := bd_ok h
      refine go_v (callV_run (As := [.int (1 : Int32), .int (0 : Int32)]) (rest := []) C hl hP (hS.wide hJ).2.1 (iw hw (fi_11 hk0)) hk0 (m_X11_copies l w hJ hw v0 (1 : Int32) (0 : Int32) hk0 μ1 h6) mv_X11_403 ⟨rfl, rfl, by decide, by decide⟩ rfl rfl (Nat.le_of_ble_eq_true rfl) ⟨Nat.zero_le _, Nat.zero_le _⟩ dX11_tickets_21) hS (fun H locs hP hS => ?_)
      refine lv_iconst (v := (0)) hx hb dX11_tickets_24 (by decide) ?_
      refine lv_istore_n (lv' := [(2, .int (0 : Int32)), (0, .ref (w.2.2.1 v0)), (1, .int v1)]) hx hb dX11_tickets_25 rfl hl (by decide) rfl (fun ls hl => ?_)
      refine lv_iconst (v := (0)) hx hb dX11_tickets_26 (by decide) ?_
      refine lv_istore_n (lv' := [(3, .int (0 : Int32)), (2, .int (0 : Int32)), (0, .ref (w.2.2.1 v0)), (1, .int v1)]) hx hb dX11_tickets_27 rfl hl (by decide) rfl (fun ls hl => ?_)
      obtain ⟨t28, q29, h33, h⟩ := bd_ok h
      refine lpn_ind (b := (fun (q : Int32 × Int32 × fMem) => f_X11_tickets_L28 v0 v1 q.1 q.2.1 q.2.2)) (P := fun (q : Int32 × Int32 × fMem) => WW p l e rm_X11_tickets s m args below meth c (MQ below (fQi w r μr) args s 0 0 (fA w)) w q.2.2 6 28 [] [(0, .ref (w.2.2.1 v0)), (1, .int v1), (2, .int q.1), (3, .int q.2.1)]) (K := fun _ (q : Int32 × Int32 × fMem) => WW p l e rm_X11_tickets s m args below meth c (MQ below (fQi w r μr) args s 0 0 (fA w)) w q.2.2 6 102 [] [(2, .int q.1)]) ?_ fuel ((0 : Int32), (0 : Int32), μ4) t28 q29 h33 ?_ _ _ _ hP hS (lv_sub hl [2, 3, 1, 0] rfl)
      · intro q tz28 sz28 h hP0_28 hK0_28 H locs ls hP hS hl
        obtain ⟨v2, v3, μ⟩ := q
        have hP : fP w μ H := hP
        have hl : lv_has ls 6 [(0, .ref (w.2.2.1 v0)), (1, .int v1), (2, .int v2), (3, .int v3)] := hl
        have h : f_X11_tickets_L28 v0 v1 v2 v3 μ = some (tz28, sz28) := h
        unfold f_X11_tickets_L28 at h
        refine lv_iload_n hx hb dX11_tickets_28 rfl (lv_at hl 3 rfl) ?_
        refine lv_iload_n hx hb dX11_tickets_29 rfl (lv_at hl 1 rfl) ?_
        refine lv_icmp_ge (tgt := 102) hx hb dX11_tickets_30 (by decide) (fun c7 => ?_) (fun c7 => ?_)
        · replace h := if_t c7 h
          obtain ⟨rfl, rfl⟩ := leaf h
          exact (hK0_28 0 rfl) _ _ _ hP hS (lv_sub hl [2] rfl)
        · replace h := if_f c7 h
          refine lv_iconst (v := (0)) hx hb dX11_tickets_33 (by decide) ?_
          refine lv_istore (lv' := [(4, .int (0 : Int32)), (0, .ref (w.2.2.1 v0)), (1, .int v1), (2, .int v2), (3, .int v3)]) hx hb dX11_tickets_34 hl (by decide) rfl (fun ls hl => ?_)
          refine lv_iconst (v := (0)) hx hb dX11_tickets_36 (by decide) ?_
          refine lv_istore (lv' := [(5, .int (0 : Int32)), (4, .int (0 : Int32)), (0, .ref (w.2.2.1 v0)), (1, .int v1), (2, .int v2), (3, .int v3)]) hx hb dX11_tickets_37 hl (by decide) rfl (fun ls hl => ?_)
          obtain ⟨t19, q20, h27, h⟩ := bd_ok h
          refine lpn_ind (b := (fun (q : Int32 × Int32 × fMem) => f_X11_tickets_L39 v0 v1 v2 v3 q.1 q.2.1 q.2.2)) (P := fun (q : Int32 × Int32 × fMem) => WW p l e rm_X11_tickets s m args below meth c (MQ below (fQi w r μr) args s 0 0 (fA w)) w q.2.2 6 39 [] [(0, .ref (w.2.2.1 v0)), (1, .int v1), (2, .int v2), (3, .int v3), (4, .int q.1), (5, .int q.2.1)]) (K := fun _ (q : Int32 × Int32 × fMem) => WW p l e rm_X11_tickets s m args below meth c (MQ below (fQi w r μr) args s 0 0 (fA w)) w q.2.2 6 79 [] [(0, .ref (w.2.2.1 v0)), (1, .int v1), (2, .int v2), (3, .int v3), (4, .int q.1)]) ?_ fuel ((0 : Int32), (0 : Int32), μ) t19 q20 h27 ?_ _ _ _ hP hS (lv_sub hl [2, 3, 4, 5, 1, 0] rfl)
          · intro q tz39 sz39 h hP0_39 hK0_39 H locs ls hP hS hl
            obtain ⟨v4, v5, μ⟩ := q
            have hP : fP w μ H := hP
            have hl : lv_has ls 6 [(0, .ref (w.2.2.1 v0)), (1, .int v1), (2, .int v2), (3, .int v3), (4, .int v4), (5, .int v5)] := hl
            have h : f_X11_tickets_L39 v0 v1 v2 v3 v4 v5 μ = some (tz39, sz39) := h
            unfold f_X11_tickets_L39 at h
            refine lv_iload hx hb dX11_tickets_39 (lv_at hl 5 rfl) ?_
            refine lv_aload_n hx hb dX11_tickets_41 rfl (lv_at hl 0 rfl) ?_
            refine r_getF (off := 2) C hP (iw hw (fi_11 hk0)) hk0 fl_X11_13 rfl rfl (zw hw) dX11_tickets_42 ?_
            refine lv_iconst (v := (3)) hx hb dX11_tickets_45 (by decide) ?_
            refine n_iald (j := 3) C hP (iw hw (ff_11_3 hk0).2) (ff_11_3 hk0).1 (by decide) (by decide) dX11_tickets_46 ?_
            refine lv_icmp_ge (tgt := 79) hx hb dX11_tickets_47 (by decide) (fun c8 => ?_) (fun c8 => ?_)
            · replace h := if_t c8 h
              obtain ⟨rfl, rfl⟩ := leaf h
              exact (hK0_39 0 rfl) _ _ _ hP hS (lv_sub hl [0, 1, 2, 3, 4] rfl)
            · replace h := if_f c8 h
              refine lv_aload_n hx hb dX11_tickets_50 rfl (lv_at hl 0 rfl) ?_
              refine lv_iconst (v := (1)) hx hb dX11_tickets_51 (by decide) ?_
              refine lv_iload hx hb dX11_tickets_52 (lv_at hl 5 rfl) ?_
              obtain ⟨r10, μ9, h11, h⟩ := bd_ok h
              refine go_i (callV_run (As := [.int (1 : Int32), .int v5]) (rest := []) C hl hP (hS.wide hJ).2.1 (iw hw (fi_11 hk0)) hk0 (m_X11_doesCome l w hJ hw v0 (1 : Int32) v5 hk0 μ h11) mv_X11_397 ⟨rfl, rfl, by decide, by decide⟩ rfl rfl (Nat.le_of_ble_eq_true rfl) ⟨Nat.zero_le _, Nat.zero_le _⟩ dX11_tickets_54) hS (fun H locs hP hS => ?_)
              refine lv_if_ne (tgt := 63) hx hb dX11_tickets_57 (by decide) (fun c12 => ?_) (fun c12 => ?_)
              · replace h := if_f c12 h
                obtain ⟨x13, ex13⟩ : ∃ y : Int32, y = (v4 + (1 : Int32)) := ⟨_, rfl⟩
                replace h := vl_ok ex13 h
                refine lv_iinc (v := x13) (lv' := [(4, .int x13), (0, .ref (w.2.2.1 v0)), (1, .int v1), (2, .int v2), (3, .int v3), (5, .int v5)]) hx hb dX11_tickets_63 hl (k := 4) rfl (by rw [ex13]; rfl) (by decide) rfl (fun ls hl => ?_)
                refine lv_aload_n hx hb dX11_tickets_66 rfl (lv_at hl 1 rfl) ?_
                refine lv_iconst (v := (1)) hx hb dX11_tickets_67 (by decide) ?_
                refine lv_iload hx hb dX11_tickets_68 (lv_at hl 5 rfl) ?_
                obtain ⟨r15, μ14, h16, h⟩ := bd_ok h
                refine go_v (callV_run (As := [.int (1 : Int32), .int v5]) (rest := []) C hl hP (hS.wide hJ).2.1 (iw hw (fi_11 hk0)) hk0 (m_X11_visits l w hJ hw v0 (1 : Int32) v5 hk0 μ9 h16) mv_X11_400 ⟨rfl, rfl, by decide, by decide⟩ rfl rfl (Nat.le_of_ble_eq_true rfl) ⟨Nat.zero_le _, Nat.zero_le _⟩ dX11_tickets_70) hS (fun H locs hP hS => ?_)
                obtain ⟨x17, ex17⟩ : ∃ y : Int32, y = (v5 + (1 : Int32)) := ⟨_, rfl⟩
                replace h := vl_ok ex17 h
                refine lv_iinc (v := x17) (lv' := [(5, .int x17), (4, .int x13), (0, .ref (w.2.2.1 v0)), (1, .int v1), (2, .int v2), (3, .int v3)]) hx hb dX11_tickets_73 hl (k := 5) rfl (by rw [ex17]; rfl) (by decide) rfl (fun ls hl => ?_)
                refine lv_goto (tgt := 39) hx hb dX11_tickets_76 (by decide) ?_
                obtain ⟨rfl, rfl⟩ := leaf h
                exact hP0_39 rfl _ _ _ hP hS (lv_sub hl [2, 3, 4, 5, 1, 0] rfl)
              · replace h := if_t c12 h
                refine lv_goto (tgt := 73) hx hb dX11_tickets_60 (by decide) ?_
                obtain ⟨x18, ex18⟩ : ∃ y : Int32, y = (v5 + (1 : Int32)) := ⟨_, rfl⟩
                replace h := vl_ok ex18 h
                refine lv_iinc (v := x18) (lv' := [(5, .int x18), (0, .ref (w.2.2.1 v0)), (1, .int v1), (2, .int v2), (3, .int v3), (4, .int v4)]) hx hb dX11_tickets_73 hl (k := 5) rfl (by rw [ex18]; rfl) (by decide) rfl (fun ls hl => ?_)
                refine lv_goto (tgt := 39) hx hb dX11_tickets_76 (by decide) ?_
                obtain ⟨rfl, rfl⟩ := leaf h
                exact hP0_39 rfl _ _ _ hP hS (lv_sub hl [1, 2, 3, 4, 5, 0] rfl)
          · obtain ⟨x21, x22, μ23⟩ := q20
            intro H locs ls hP hS hl
            have hP : fP w μ23 H := hP
            have hl : lv_has ls 6 [(0, .ref (w.2.2.1 v0)), (1, .int v1), (2, .int v2), (3, .int v3), (4, .int x21)] := hl
            try dsimp only at h
            refine lv_aload_n hx hb dX11_tickets_79 rfl (lv_at hl 0 rfl) ?_
            refine r_getF (off := 22) C hP (iw hw (fi_11 hk0)) hk0 fl_X11_78 rfl rfl (zw hw) dX11_tickets_80 ?_
            refine lv_iconst (v := (1)) hx hb dX11_tickets_83 (by decide) ?_
            refine lv_dup2_11 hx hb dX11_tickets_84 rfl rfl ?_
            refine n_iald (j := 1) C hP (iw hw (ff_11_37 hk0).2) (ff_11_37 hk0).1 (by decide) (by decide) dX11_tickets_85 ?_
            refine lv_iconst (v := (1)) hx hb dX11_tickets_86 (by decide) ?_
            refine lv_iadd hx hb dX11_tickets_87 ?_
            refine n_iast (j := 1) C hP hS (iw hw (ff_11_37 hk0).2) (ff_11_37 hk0).1 (by decide) (by decide) dX11_tickets_88 (fun H locs hP hS => ?_)
            obtain ⟨μ24, eμ24, h⟩ := vl_ex h
            have hP : fP w μ24 H := by rw [eμ24]; exact hP
            refine lv_iload_n hx hb dX11_tickets_89 rfl (lv_at hl 2 rfl) ?_
            refine lv_iload hx hb dX11_tickets_90 (lv_at hl 4 rfl) ?_
            refine b_mmax (rest := []) C hl mm_X11_474 (by decide) (Nat.le_of_ble_eq_true rfl) dX11_tickets_92 ?_
            refine lv_topi (fun x25 ex25 => ?_)
            replace h := vl_ok ex25 h
            refine lv_istore_n (lv' := [(2, .int x25), (0, .ref (w.2.2.1 v0)), (1, .int v1), (3, .int v3), (4, .int x21)]) hx hb dX11_tickets_95 rfl hl (by decide) rfl (fun ls hl => ?_)
            obtain ⟨x26, ex26⟩ : ∃ y : Int32, y = (v3 + (1 : Int32)) := ⟨_, rfl⟩
            replace h := vl_ok ex26 h
            refine lv_iinc (v := x26) (lv' := [(3, .int x26), (2, .int x25), (0, .ref (w.2.2.1 v0)), (1, .int v1), (4, .int x21)]) hx hb dX11_tickets_96 hl (k := 3) rfl (by rw [ex26]; rfl) (by decide) rfl (fun ls hl => ?_)
            refine lv_goto (tgt := 28) hx hb dX11_tickets_99 (by decide) ?_
            obtain ⟨rfl, rfl⟩ := leaf h
            exact hP0_28 rfl _ _ _ hP hS (lv_sub hl [2, 3, 1, 0] rfl)
      · obtain ⟨x30, x31, μ32⟩ := q29
        intro H locs ls hP hS hl
        have hP : fP w μ32 H := hP
        have hl : lv_has ls 6 [(2, .int x30)] := hl
        try dsimp only at h
        refine lv_iload_n hx hb dX11_tickets_102 rfl (lv_at hl 0 rfl) ?_
        exact r_iret C hr hP hS h dX11_tickets_103
    · replace h := if_f c3 h
      refine lv_iconst (v := (-1)) hx hb dX11_tickets_16 (by decide) ?_
      exact r_iret C hr hP hS h dX11_tickets_17

def f_X11_shunned_L24 (v0 : Nat) (v1 : Int32) (v2 : Int32) (v3 : Int32) (v4 : Int32) (μ : fMem) : Option (Nat × (Int32 × Int32 × fMem)) :=
  if (μ.1 (v0 + 2) 3) ≤ v4 then some (1, (v3, v4, μ)) else bd (f_X11_likingOf v0 (0 : Int32) v4 v2 μ) fun r5 μ4 => if (30 : Int32) ≤ r5 then vl (v3 &&& (0 : Int32)) fun x8 => vl (v4 + (1 : Int32)) fun x9 => some (0, (x8, x9, μ4)) else vl (v3 &&& (1 : Int32)) fun x10 => vl (v4 + (1 : Int32)) fun x11 => some (0, (x10, x11, μ4))
def f_X11_shunned_L9 (v0 : Nat) (v1 : Int32) (v2 : Int32) (μ : fMem) : Option (Nat × (Int32 × Int32 × fMem)) :=
  if (μ.1 (v0 + 2) 2) ≤ v2 then some (1, (v1, v2, μ)) else bd (lpn (fun (q : Int32 × Int32 × fMem) => f_X11_shunned_L24 v0 v1 v2 q.1 q.2.1 q.2.2) fuel ((1 : Int32), (0 : Int32), μ)) fun t12 q13 => (fun (x14 : Int32) (x15 : Int32) (μ16 : fMem) => if x14 = 0 then vl (v1 ||| (0 : Int32)) fun x18 => vl (v2 + (1 : Int32)) fun x19 => some (0, (x18, x19, μ16)) else vl (v1 ||| (shl (1 : Int32) v2)) fun x20 => vl (v2 + (1 : Int32)) fun x21 => some (0, (x20, x21, μ16))) q13.1 q13.2.1 q13.2.2
def f_X11_shunned (v0 : Nat) (μ : fMem) : Option (Int32 × fMem) :=
  vl (sI μ v0 0 (0 : Int32)) fun μ1 => bd (lpn (fun (q : Int32 × Int32 × fMem) => f_X11_shunned_L9 v0 q.1 q.2.1 q.2.2) fuel ((0 : Int32), (0 : Int32), μ1)) fun t23 q24 => (fun (x25 : Int32) (x26 : Int32) (μ27 : fMem) => some (x25, μ27)) q24.1 q24.2.1 q24.2.2
def rm_X11_shunned : Room := { frames := 5, cells := 0, slots := 0, locals := 176 }
set_option maxHeartbeats 4000000 in
set_option maxRecDepth 100000 in
theorem m_X11_shunned (l : Launch) (w : fW) (hJ : fJ w) (hw : w.2.2.2 = sd 1) (v0 : Nat) (hk0 : kd v0 = (4, 11)) (μ : fMem) {r : Int32} {μr : fMem} (h : f_X11_shunned v0 μ = some (r, μr)) : Met l yX11_shunned (.code yX11_shunned cX11_shunned 5 (some .int) :: gw) rm_X11_shunned (fPc w [.ref (w.2.2.1 v0)] μ) (fQi w r μr) 0 0 (fA w) := by
  refine met_of hJ (by decide) ?_ (Nat.le_of_ble_eq_true rfl)
  generalize ([.ref (w.2.2.1 v0)] : List Value).toArray = args
  intro p e s m below meth c ls C hr hP hl hS
  obtain ⟨hx, hb, hml, hown, hts, hK, -, hlk, hT⟩ := id C
  have hl : lv_has ls 5 [(0, .ref (w.2.2.1 v0))] := hl
  unfold f_X11_shunned at h
  refine lv_aload_n hx hb dX11_shunned_0 rfl (lv_at hl 0 rfl) ?_
  refine lv_iconst (v := (0)) hx hb dX11_shunned_1 (by decide) ?_
  refine r_putI C hP hS (iw hw (fi_11 hk0)) hk0 fp_X11_148 rfl dX11_shunned_2 (fun H locs hP hS => ?_)
  obtain ⟨μ1, eμ1, h⟩ := vl_ex h
  have hP : fP w μ1 H := by rw [eμ1]; exact hP
  refine lv_iconst (v := (0)) hx hb dX11_shunned_5 (by decide) ?_
  refine lv_istore_n (lv' := [(1, .int (0 : Int32)), (0, .ref (w.2.2.1 v0))]) hx hb dX11_shunned_6 rfl hl (by decide) rfl (fun ls hl => ?_)
  refine lv_iconst (v := (0)) hx hb dX11_shunned_7 (by decide) ?_
  refine lv_istore_n (lv' := [(2, .int (0 : Int32)), (1, .int (0 : Int32)), (0, .ref (w.2.2.1 v0))]) hx hb dX11_shunned_8 rfl hl (by decide) rfl (fun ls hl => ?_)
  obtain ⟨t23, q24, h28, h⟩ := bd_ok h
  refine lpn_ind (b := (fun (q : Int32 × Int32 × fMem) => f_X11_shunned_L9 v0 q.1 q.2.1 q.2.2)) (P := fun (q : Int32 × Int32 × fMem) => WW p l e rm_X11_shunned s m args below meth c (MQ below (fQi w r μr) args s 0 0 (fA w)) w q.2.2 5 9 [] [(0, .ref (w.2.2.1 v0)), (1, .int q.1), (2, .int q.2.1)]) (K := fun _ (q : Int32 × Int32 × fMem) => WW p l e rm_X11_shunned s m args below meth c (MQ below (fQi w r μr) args s 0 0 (fA w)) w q.2.2 5 82 [] [(1, .int q.1)]) ?_ fuel ((0 : Int32), (0 : Int32), μ1) t23 q24 h28 ?_ _ _ _ hP hS (lv_sub hl [2, 1, 0] rfl)
  · intro q tz9 sz9 h hP0_9 hK0_9 H locs ls hP hS hl
    obtain ⟨v1, v2, μ⟩ := q
    have hP : fP w μ H := hP
    have hl : lv_has ls 5 [(0, .ref (w.2.2.1 v0)), (1, .int v1), (2, .int v2)] := hl
    have h : f_X11_shunned_L9 v0 v1 v2 μ = some (tz9, sz9) := h
    unfold f_X11_shunned_L9 at h
    refine lv_iload_n hx hb dX11_shunned_9 rfl (lv_at hl 2 rfl) ?_
    refine lv_aload_n hx hb dX11_shunned_10 rfl (lv_at hl 0 rfl) ?_
    refine r_getF (off := 2) C hP (iw hw (fi_11 hk0)) hk0 fl_X11_13 rfl rfl (zw hw) dX11_shunned_11 ?_
    refine lv_iconst (v := (2)) hx hb dX11_shunned_14 (by decide) ?_
    refine n_iald (j := 2) C hP (iw hw (ff_11_3 hk0).2) (ff_11_3 hk0).1 (by decide) (by decide) dX11_shunned_15 ?_
    refine lv_icmp_ge (tgt := 82) hx hb dX11_shunned_16 (by decide) (fun c2 => ?_) (fun c2 => ?_)
    · replace h := if_t c2 h
      obtain ⟨rfl, rfl⟩ := leaf h
      exact (hK0_9 0 rfl) _ _ _ hP hS (lv_sub hl [1] rfl)
    · replace h := if_f c2 h
      refine lv_iconst (v := (1)) hx hb dX11_shunned_19 (by decide) ?_
      refine lv_istore_n (lv' := [(3, .int (1 : Int32)), (0, .ref (w.2.2.1 v0)), (1, .int v1), (2, .int v2)]) hx hb dX11_shunned_20 rfl hl (by decide) rfl (fun ls hl => ?_)
      refine lv_iconst (v := (0)) hx hb dX11_shunned_21 (by decide) ?_
      refine lv_istore (lv' := [(4, .int (0 : Int32)), (3, .int (1 : Int32)), (0, .ref (w.2.2.1 v0)), (1, .int v1), (2, .int v2)]) hx hb dX11_shunned_22 hl (by decide) rfl (fun ls hl => ?_)
      obtain ⟨t12, q13, h22, h⟩ := bd_ok h
      refine lpn_ind (b := (fun (q : Int32 × Int32 × fMem) => f_X11_shunned_L24 v0 v1 v2 q.1 q.2.1 q.2.2)) (P := fun (q : Int32 × Int32 × fMem) => WW p l e rm_X11_shunned s m args below meth c (MQ below (fQi w r μr) args s 0 0 (fA w)) w q.2.2 5 24 [] [(0, .ref (w.2.2.1 v0)), (1, .int v1), (2, .int v2), (3, .int q.1), (4, .int q.2.1)]) (K := fun _ (q : Int32 × Int32 × fMem) => WW p l e rm_X11_shunned s m args below meth c (MQ below (fQi w r μr) args s 0 0 (fA w)) w q.2.2 5 62 [] [(0, .ref (w.2.2.1 v0)), (1, .int v1), (2, .int v2), (3, .int q.1)]) ?_ fuel ((1 : Int32), (0 : Int32), μ) t12 q13 h22 ?_ _ _ _ hP hS (lv_sub hl [2, 3, 4, 1, 0] rfl)
      · intro q tz24 sz24 h hP0_24 hK0_24 H locs ls hP hS hl
        obtain ⟨v3, v4, μ⟩ := q
        have hP : fP w μ H := hP
        have hl : lv_has ls 5 [(0, .ref (w.2.2.1 v0)), (1, .int v1), (2, .int v2), (3, .int v3), (4, .int v4)] := hl
        have h : f_X11_shunned_L24 v0 v1 v2 v3 v4 μ = some (tz24, sz24) := h
        unfold f_X11_shunned_L24 at h
        refine lv_iload hx hb dX11_shunned_24 (lv_at hl 4 rfl) ?_
        refine lv_aload_n hx hb dX11_shunned_26 rfl (lv_at hl 0 rfl) ?_
        refine r_getF (off := 2) C hP (iw hw (fi_11 hk0)) hk0 fl_X11_13 rfl rfl (zw hw) dX11_shunned_27 ?_
        refine lv_iconst (v := (3)) hx hb dX11_shunned_30 (by decide) ?_
        refine n_iald (j := 3) C hP (iw hw (ff_11_3 hk0).2) (ff_11_3 hk0).1 (by decide) (by decide) dX11_shunned_31 ?_
        refine lv_icmp_ge (tgt := 62) hx hb dX11_shunned_32 (by decide) (fun c3 => ?_) (fun c3 => ?_)
        · replace h := if_t c3 h
          obtain ⟨rfl, rfl⟩ := leaf h
          exact (hK0_24 0 rfl) _ _ _ hP hS (lv_sub hl [0, 1, 2, 3] rfl)
        · replace h := if_f c3 h
          refine lv_iload_n hx hb dX11_shunned_35 rfl (lv_at hl 3 rfl) ?_
          refine lv_aload_n hx hb dX11_shunned_36 rfl (lv_at hl 0 rfl) ?_
          refine lv_iconst (v := (0)) hx hb dX11_shunned_37 (by decide) ?_
          refine lv_iload hx hb dX11_shunned_38 (lv_at hl 4 rfl) ?_
          refine lv_iload_n hx hb dX11_shunned_40 rfl (lv_at hl 2 rfl) ?_
          obtain ⟨r5, μ4, h6, h⟩ := bd_ok h
          refine go_i (callV_run (As := [.int (0 : Int32), .int v4, .int v2]) (rest := [.int v3]) C hl hP (hS.wide hJ).2.1 (iw hw (fi_11 hk0)) hk0 (m_X11_likingOf l w hJ hw v0 (0 : Int32) v4 v2 hk0 μ h6) mv_X11_378 ⟨rfl, rfl, by decide, by decide⟩ rfl rfl (Nat.le_of_ble_eq_true rfl) ⟨Nat.zero_le _, Nat.zero_le _⟩ dX11_shunned_41) hS (fun H locs hP hS => ?_)
          refine lv_bipush (v := (30)) hx hb dX11_shunned_44 (by decide) ?_
          refine lv_icmp_ge (tgt := 53) hx hb dX11_shunned_46 (by decide) (fun c7 => ?_) (fun c7 => ?_)
          · replace h := if_t c7 h
            refine lv_iconst (v := (0)) hx hb dX11_shunned_53 (by decide) ?_
            refine lv_iand hx hb dX11_shunned_54 ?_
            refine lv_topi (fun x8 ex8 => ?_)
            replace h := vl_ok ex8 h
            refine lv_istore_n (lv' := [(3, .int x8), (0, .ref (w.2.2.1 v0)), (1, .int v1), (2, .int v2), (4, .int v4)]) hx hb dX11_shunned_55 rfl hl (by decide) rfl (fun ls hl => ?_)
            obtain ⟨x9, ex9⟩ : ∃ y : Int32, y = (v4 + (1 : Int32)) := ⟨_, rfl⟩
            replace h := vl_ok ex9 h
            refine lv_iinc (v := x9) (lv' := [(4, .int x9), (3, .int x8), (0, .ref (w.2.2.1 v0)), (1, .int v1), (2, .int v2)]) hx hb dX11_shunned_56 hl (k := 4) rfl (by rw [ex9]; rfl) (by decide) rfl (fun ls hl => ?_)
            refine lv_goto (tgt := 24) hx hb dX11_shunned_59 (by decide) ?_
            obtain ⟨rfl, rfl⟩ := leaf h
            exact hP0_24 rfl _ _ _ hP hS (lv_sub hl [2, 3, 4, 1, 0] rfl)
          · replace h := if_f c7 h
            refine lv_iconst (v := (1)) hx hb dX11_shunned_49 (by decide) ?_
            refine lv_goto (tgt := 54) hx hb dX11_shunned_50 (by decide) ?_
            refine lv_iand hx hb dX11_shunned_54 ?_
            refine lv_topi (fun x10 ex10 => ?_)
            replace h := vl_ok ex10 h
            refine lv_istore_n (lv' := [(3, .int x10), (0, .ref (w.2.2.1 v0)), (1, .int v1), (2, .int v2), (4, .int v4)]) hx hb dX11_shunned_55 rfl hl (by decide) rfl (fun ls hl => ?_)
            obtain ⟨x11, ex11⟩ : ∃ y : Int32, y = (v4 + (1 : Int32)) := ⟨_, rfl⟩
            replace h := vl_ok ex11 h
            refine lv_iinc (v := x11) (lv' := [(4, .int x11), (3, .int x10), (0, .ref (w.2.2.1 v0)), (1, .int v1), (2, .int v2)]) hx hb dX11_shunned_56 hl (k := 4) rfl (by rw [ex11]; rfl) (by decide) rfl (fun ls hl => ?_)
            refine lv_goto (tgt := 24) hx hb dX11_shunned_59 (by decide) ?_
            obtain ⟨rfl, rfl⟩ := leaf h
            exact hP0_24 rfl _ _ _ hP hS (lv_sub hl [2, 3, 4, 1, 0] rfl)
      · obtain ⟨x14, x15, μ16⟩ := q13
        intro H locs ls hP hS hl
        have hP : fP w μ16 H := hP
        have hl : lv_has ls 5 [(0, .ref (w.2.2.1 v0)), (1, .int v1), (2, .int v2), (3, .int x14)] := hl
        try dsimp only at h
        refine lv_iload_n hx hb dX11_shunned_62 rfl (lv_at hl 1 rfl) ?_
        refine lv_iload_n hx hb dX11_shunned_63 rfl (lv_at hl 3 rfl) ?_
        refine lv_if_eq (tgt := 73) hx hb dX11_shunned_64 (by decide) (fun c17 => ?_) (fun c17 => ?_)
        · replace h := if_t c17 h
          refine lv_iconst (v := (0)) hx hb dX11_shunned_73 (by decide) ?_
          refine lv_ior hx hb dX11_shunned_74 ?_
          refine lv_topi (fun x18 ex18 => ?_)
          replace h := vl_ok ex18 h
          refine lv_istore_n (lv' := [(1, .int x18), (0, .ref (w.2.2.1 v0)), (2, .int v2), (3, .int x14)]) hx hb dX11_shunned_75 rfl hl (by decide) rfl (fun ls hl => ?_)
          obtain ⟨x19, ex19⟩ : ∃ y : Int32, y = (v2 + (1 : Int32)) := ⟨_, rfl⟩
          replace h := vl_ok ex19 h
          refine lv_iinc (v := x19) (lv' := [(2, .int x19), (1, .int x18), (0, .ref (w.2.2.1 v0)), (3, .int x14)]) hx hb dX11_shunned_76 hl (k := 2) rfl (by rw [ex19]; rfl) (by decide) rfl (fun ls hl => ?_)
          refine lv_goto (tgt := 9) hx hb dX11_shunned_79 (by decide) ?_
          obtain ⟨rfl, rfl⟩ := leaf h
          exact hP0_9 rfl _ _ _ hP hS (lv_sub hl [2, 1, 0] rfl)
        · replace h := if_f c17 h
          refine lv_iconst (v := (1)) hx hb dX11_shunned_67 (by decide) ?_
          refine lv_iload_n hx hb dX11_shunned_68 rfl (lv_at hl 2 rfl) ?_
          refine r_ishl hx hb dX11_shunned_69 ?_
          refine lv_goto (tgt := 74) hx hb dX11_shunned_70 (by decide) ?_
          refine lv_ior hx hb dX11_shunned_74 ?_
          refine lv_topi (fun x20 ex20 => ?_)
          replace h := vl_ok ex20 h
          refine lv_istore_n (lv' := [(1, .int x20), (0, .ref (w.2.2.1 v0)), (2, .int v2), (3, .int x14)]) hx hb dX11_shunned_75 rfl hl (by decide) rfl (fun ls hl => ?_)
          obtain ⟨x21, ex21⟩ : ∃ y : Int32, y = (v2 + (1 : Int32)) := ⟨_, rfl⟩
          replace h := vl_ok ex21 h
          refine lv_iinc (v := x21) (lv' := [(2, .int x21), (1, .int x20), (0, .ref (w.2.2.1 v0)), (3, .int x14)]) hx hb dX11_shunned_76 hl (k := 2) rfl (by rw [ex21]; rfl) (by decide) rfl (fun ls hl => ?_)
          refine lv_goto (tgt := 9) hx hb dX11_shunned_79 (by decide) ?_
          obtain ⟨rfl, rfl⟩ := leaf h
          exact hP0_9 rfl _ _ _ hP hS (lv_sub hl [2, 1, 0] rfl)
  · obtain ⟨x25, x26, μ27⟩ := q24
    intro H locs ls hP hS hl
    have hP : fP w μ27 H := hP
    have hl : lv_has ls 5 [(1, .int x25)] := hl
    try dsimp only at h
    refine lv_iload_n hx hb dX11_shunned_82 rfl (lv_at hl 0 rfl) ?_
    exact r_iret C hr hP hS h dX11_shunned_83

def f_X11_loved_L49 (v0 : Nat) (v1 : Int32) (v2 : Int32) (v3 : Int32) (v4 : Int32) (v5 : Int32) (v6 : Int32) (μ : fMem) : Option (Nat × (Int32 × Int32 × fMem)) :=
  if (μ.1 (v0 + 2) 3) ≤ v6 then some (1, (v5, v6, μ)) else bd (f_X11_likingOf v0 (0 : Int32) v6 v4 μ) fun r8 μ7 => vl (v5 + r8) fun x10 => vl (v6 + (1 : Int32)) fun x11 => some (0, (x10, x11, μ7))
def f_X11_loved_L32 (v0 : Nat) (v1 : Int32) (v2 : Int32) (v3 : Int32) (v4 : Int32) (μ : fMem) : Option (Nat × (Int32 × Int32 × Int32 × fMem)) :=
  if (μ.1 (v0 + 2) 2) ≤ v4 then some (1, (v2, v3, v4, μ)) else bd (lpn (fun (q : Int32 × Int32 × fMem) => f_X11_loved_L49 v0 v1 v2 v3 v4 q.1 q.2.1 q.2.2) fuel ((0 : Int32), (0 : Int32), μ)) fun t12 q13 => (fun (x14 : Int32) (x15 : Int32) (μ16 : fMem) => if v3 < x14 then vl (v4 + (1 : Int32)) fun x18 => some (0, (v4, x14, x18, μ16)) else vl (v4 + (1 : Int32)) fun x19 => some (0, (v2, v3, x19, μ16))) q13.1 q13.2.1 q13.2.2
def f_X11_loved (v0 : Nat) (v1 : Int32) (μ : fMem) : Option (Int32 × fMem) :=
  vl (sI μ v0 0 (0 : Int32)) fun μ1 => if v1 < 0 then some ((-1 : Int32), μ1) else if (1 : Int32) < v1 then some ((-1 : Int32), μ1) else if (μ1.1 (v0 + 2) 2) = 0 then some ((-1 : Int32), μ1) else bd (lpn (fun (q : Int32 × Int32 × Int32 × fMem) => f_X11_loved_L32 v0 v1 q.1 q.2.1 q.2.2.1 q.2.2.2) fuel ((0 : Int32), (-1 : Int32), (0 : Int32), μ1)) fun t21 q22 => (fun (x23 : Int32) (x24 : Int32) (x25 : Int32) (μ26 : fMem) => if v1 = 0 then some (x23, μ26) else some (x24, μ26)) q22.1 q22.2.1 q22.2.2.1 q22.2.2.2
def rm_X11_loved : Room := { frames := 5, cells := 0, slots := 0, locals := 176 }
set_option maxHeartbeats 4000000 in
set_option maxRecDepth 100000 in
theorem m_X11_loved (l : Launch) (w : fW) (hJ : fJ w) (hw : w.2.2.2 = sd 1) (v0 : Nat) (v1 : Int32) (hk0 : kd v0 = (4, 11)) (μ : fMem) {r : Int32} {μr : fMem} (h : f_X11_loved v0 v1 μ = some (r, μr)) : Met l yX11_loved (.code yX11_loved cX11_loved 7 (some .int) :: gw) rm_X11_loved (fPc w [.ref (w.2.2.1 v0), .int v1] μ) (fQi w r μr) 0 0 (fA w) := by
  refine met_of hJ (by decide) ?_ (Nat.le_of_ble_eq_true rfl)
  generalize ([.ref (w.2.2.1 v0), .int v1] : List Value).toArray = args
  intro p e s m below meth c ls C hr hP hl hS
  obtain ⟨hx, hb, hml, hown, hts, hK, -, hlk, hT⟩ := id C
  have hl : lv_has ls 7 [(0, .ref (w.2.2.1 v0)), (1, .int v1)] := hl
  unfold f_X11_loved at h
  refine lv_aload_n hx hb dX11_loved_0 rfl (lv_at hl 0 rfl) ?_
  refine lv_iconst (v := (0)) hx hb dX11_loved_1 (by decide) ?_
  refine r_putI C hP hS (iw hw (fi_11 hk0)) hk0 fp_X11_148 rfl dX11_loved_2 (fun H locs hP hS => ?_)
  obtain ⟨μ1, eμ1, h⟩ := vl_ex h
  have hP : fP w μ1 H := by rw [eμ1]; exact hP
  refine lv_iload_n hx hb dX11_loved_5 rfl (lv_at hl 1 rfl) ?_
  refine lv_if_lt (tgt := 23) hx hb dX11_loved_6 (by decide) (fun c2 => ?_) (fun c2 => ?_)
  · replace h := if_t c2 h
    refine lv_iconst (v := (-1)) hx hb dX11_loved_23 (by decide) ?_
    exact r_iret C hr hP hS h dX11_loved_24
  · replace h := if_f c2 h
    refine lv_iload_n hx hb dX11_loved_9 rfl (lv_at hl 1 rfl) ?_
    refine lv_iconst (v := (1)) hx hb dX11_loved_10 (by decide) ?_
    refine lv_icmp_gt (tgt := 23) hx hb dX11_loved_11 (by decide) (fun c3 => ?_) (fun c3 => ?_)
    · replace h := if_t c3 h
      refine lv_iconst (v := (-1)) hx hb dX11_loved_23 (by decide) ?_
      exact r_iret C hr hP hS h dX11_loved_24
    · replace h := if_f c3 h
      refine lv_aload_n hx hb dX11_loved_14 rfl (lv_at hl 0 rfl) ?_
      refine r_getF (off := 2) C hP (iw hw (fi_11 hk0)) hk0 fl_X11_13 rfl rfl (zw hw) dX11_loved_15 ?_
      refine lv_iconst (v := (2)) hx hb dX11_loved_18 (by decide) ?_
      refine n_iald (j := 2) C hP (iw hw (ff_11_3 hk0).2) (ff_11_3 hk0).1 (by decide) (by decide) dX11_loved_19 ?_
      refine lv_if_ne (tgt := 25) hx hb dX11_loved_20 (by decide) (fun c4 => ?_) (fun c4 => ?_)
      · replace h := if_f c4 h
        refine lv_iconst (v := (0)) hx hb dX11_loved_25 (by decide) ?_
        refine lv_istore_n (lv' := [(2, .int (0 : Int32)), (0, .ref (w.2.2.1 v0)), (1, .int v1)]) hx hb dX11_loved_26 rfl hl (by decide) rfl (fun ls hl => ?_)
        refine lv_iconst (v := (-1)) hx hb dX11_loved_27 (by decide) ?_
        refine lv_istore_n (lv' := [(3, .int (-1 : Int32)), (2, .int (0 : Int32)), (0, .ref (w.2.2.1 v0)), (1, .int v1)]) hx hb dX11_loved_28 rfl hl (by decide) rfl (fun ls hl => ?_)
        refine lv_iconst (v := (0)) hx hb dX11_loved_29 (by decide) ?_
        refine lv_istore (lv' := [(4, .int (0 : Int32)), (3, .int (-1 : Int32)), (2, .int (0 : Int32)), (0, .ref (w.2.2.1 v0)), (1, .int v1)]) hx hb dX11_loved_30 hl (by decide) rfl (fun ls hl => ?_)
        obtain ⟨t21, q22, h28, h⟩ := bd_ok h
        refine lpn_ind (b := (fun (q : Int32 × Int32 × Int32 × fMem) => f_X11_loved_L32 v0 v1 q.1 q.2.1 q.2.2.1 q.2.2.2)) (P := fun (q : Int32 × Int32 × Int32 × fMem) => WW p l e rm_X11_loved s m args below meth c (MQ below (fQi w r μr) args s 0 0 (fA w)) w q.2.2.2 7 32 [] [(0, .ref (w.2.2.1 v0)), (1, .int v1), (2, .int q.1), (3, .int q.2.1), (4, .int q.2.2.1)]) (K := fun _ (q : Int32 × Int32 × Int32 × fMem) => WW p l e rm_X11_loved s m args below meth c (MQ below (fQi w r μr) args s 0 0 (fA w)) w q.2.2.2 7 101 [] [(1, .int v1), (2, .int q.1), (3, .int q.2.1)]) ?_ fuel ((0 : Int32), (-1 : Int32), (0 : Int32), μ1) t21 q22 h28 ?_ _ _ _ hP hS (lv_sub hl [3, 4, 2, 1, 0] rfl)
        · intro q tz32 sz32 h hP0_32 hK0_32 H locs ls hP hS hl
          obtain ⟨v2, v3, v4, μ⟩ := q
          have hP : fP w μ H := hP
          have hl : lv_has ls 7 [(0, .ref (w.2.2.1 v0)), (1, .int v1), (2, .int v2), (3, .int v3), (4, .int v4)] := hl
          have h : f_X11_loved_L32 v0 v1 v2 v3 v4 μ = some (tz32, sz32) := h
          unfold f_X11_loved_L32 at h
          refine lv_iload hx hb dX11_loved_32 (lv_at hl 4 rfl) ?_
          refine lv_aload_n hx hb dX11_loved_34 rfl (lv_at hl 0 rfl) ?_
          refine r_getF (off := 2) C hP (iw hw (fi_11 hk0)) hk0 fl_X11_13 rfl rfl (zw hw) dX11_loved_35 ?_
          refine lv_iconst (v := (2)) hx hb dX11_loved_38 (by decide) ?_
          refine n_iald (j := 2) C hP (iw hw (ff_11_3 hk0).2) (ff_11_3 hk0).1 (by decide) (by decide) dX11_loved_39 ?_
          refine lv_icmp_ge (tgt := 101) hx hb dX11_loved_40 (by decide) (fun c5 => ?_) (fun c5 => ?_)
          · replace h := if_t c5 h
            obtain ⟨rfl, rfl⟩ := leaf h
            exact (hK0_32 0 rfl) _ _ _ hP hS (lv_sub hl [1, 2, 3] rfl)
          · replace h := if_f c5 h
            refine lv_iconst (v := (0)) hx hb dX11_loved_43 (by decide) ?_
            refine lv_istore (lv' := [(5, .int (0 : Int32)), (0, .ref (w.2.2.1 v0)), (1, .int v1), (2, .int v2), (3, .int v3), (4, .int v4)]) hx hb dX11_loved_44 hl (by decide) rfl (fun ls hl => ?_)
            refine lv_iconst (v := (0)) hx hb dX11_loved_46 (by decide) ?_
            refine lv_istore (lv' := [(6, .int (0 : Int32)), (5, .int (0 : Int32)), (0, .ref (w.2.2.1 v0)), (1, .int v1), (2, .int v2), (3, .int v3), (4, .int v4)]) hx hb dX11_loved_47 hl (by decide) rfl (fun ls hl => ?_)
            obtain ⟨t12, q13, h20, h⟩ := bd_ok h
            refine lpn_ind (b := (fun (q : Int32 × Int32 × fMem) => f_X11_loved_L49 v0 v1 v2 v3 v4 q.1 q.2.1 q.2.2)) (P := fun (q : Int32 × Int32 × fMem) => WW p l e rm_X11_loved s m args below meth c (MQ below (fQi w r μr) args s 0 0 (fA w)) w q.2.2 7 49 [] [(0, .ref (w.2.2.1 v0)), (1, .int v1), (2, .int v2), (3, .int v3), (4, .int v4), (5, .int q.1), (6, .int q.2.1)]) (K := fun _ (q : Int32 × Int32 × fMem) => WW p l e rm_X11_loved s m args below meth c (MQ below (fQi w r μr) args s 0 0 (fA w)) w q.2.2 7 80 [] [(0, .ref (w.2.2.1 v0)), (1, .int v1), (2, .int v2), (3, .int v3), (4, .int v4), (5, .int q.1)]) ?_ fuel ((0 : Int32), (0 : Int32), μ) t12 q13 h20 ?_ _ _ _ hP hS (lv_sub hl [2, 3, 4, 5, 6, 1, 0] rfl)
            · intro q tz49 sz49 h hP0_49 hK0_49 H locs ls hP hS hl
              obtain ⟨v5, v6, μ⟩ := q
              have hP : fP w μ H := hP
              have hl : lv_has ls 7 [(0, .ref (w.2.2.1 v0)), (1, .int v1), (2, .int v2), (3, .int v3), (4, .int v4), (5, .int v5), (6, .int v6)] := hl
              have h : f_X11_loved_L49 v0 v1 v2 v3 v4 v5 v6 μ = some (tz49, sz49) := h
              unfold f_X11_loved_L49 at h
              refine lv_iload hx hb dX11_loved_49 (lv_at hl 6 rfl) ?_
              refine lv_aload_n hx hb dX11_loved_51 rfl (lv_at hl 0 rfl) ?_
              refine r_getF (off := 2) C hP (iw hw (fi_11 hk0)) hk0 fl_X11_13 rfl rfl (zw hw) dX11_loved_52 ?_
              refine lv_iconst (v := (3)) hx hb dX11_loved_55 (by decide) ?_
              refine n_iald (j := 3) C hP (iw hw (ff_11_3 hk0).2) (ff_11_3 hk0).1 (by decide) (by decide) dX11_loved_56 ?_
              refine lv_icmp_ge (tgt := 80) hx hb dX11_loved_57 (by decide) (fun c6 => ?_) (fun c6 => ?_)
              · replace h := if_t c6 h
                obtain ⟨rfl, rfl⟩ := leaf h
                exact (hK0_49 0 rfl) _ _ _ hP hS (lv_sub hl [0, 1, 2, 3, 4, 5] rfl)
              · replace h := if_f c6 h
                refine lv_iload hx hb dX11_loved_60 (lv_at hl 5 rfl) ?_
                refine lv_aload_n hx hb dX11_loved_62 rfl (lv_at hl 0 rfl) ?_
                refine lv_iconst (v := (0)) hx hb dX11_loved_63 (by decide) ?_
                refine lv_iload hx hb dX11_loved_64 (lv_at hl 6 rfl) ?_
                refine lv_iload hx hb dX11_loved_66 (lv_at hl 4 rfl) ?_
                obtain ⟨r8, μ7, h9, h⟩ := bd_ok h
                refine go_i (callV_run (As := [.int (0 : Int32), .int v6, .int v4]) (rest := [.int v5]) C hl hP (hS.wide hJ).2.1 (iw hw (fi_11 hk0)) hk0 (m_X11_likingOf l w hJ hw v0 (0 : Int32) v6 v4 hk0 μ h9) mv_X11_378 ⟨rfl, rfl, by decide, by decide⟩ rfl rfl (Nat.le_of_ble_eq_true rfl) ⟨Nat.zero_le _, Nat.zero_le _⟩ dX11_loved_68) hS (fun H locs hP hS => ?_)
                refine lv_iadd hx hb dX11_loved_71 ?_
                refine lv_topi (fun x10 ex10 => ?_)
                replace h := vl_ok ex10 h
                refine lv_istore (lv' := [(5, .int x10), (0, .ref (w.2.2.1 v0)), (1, .int v1), (2, .int v2), (3, .int v3), (4, .int v4), (6, .int v6)]) hx hb dX11_loved_72 hl (by decide) rfl (fun ls hl => ?_)
                obtain ⟨x11, ex11⟩ : ∃ y : Int32, y = (v6 + (1 : Int32)) := ⟨_, rfl⟩
                replace h := vl_ok ex11 h
                refine lv_iinc (v := x11) (lv' := [(6, .int x11), (5, .int x10), (0, .ref (w.2.2.1 v0)), (1, .int v1), (2, .int v2), (3, .int v3), (4, .int v4)]) hx hb dX11_loved_74 hl (k := 6) rfl (by rw [ex11]; rfl) (by decide) rfl (fun ls hl => ?_)
                refine lv_goto (tgt := 49) hx hb dX11_loved_77 (by decide) ?_
                obtain ⟨rfl, rfl⟩ := leaf h
                exact hP0_49 rfl _ _ _ hP hS (lv_sub hl [2, 3, 4, 5, 6, 1, 0] rfl)
            · obtain ⟨x14, x15, μ16⟩ := q13
              intro H locs ls hP hS hl
              have hP : fP w μ16 H := hP
              have hl : lv_has ls 7 [(0, .ref (w.2.2.1 v0)), (1, .int v1), (2, .int v2), (3, .int v3), (4, .int v4), (5, .int x14)] := hl
              try dsimp only at h
              refine lv_iload hx hb dX11_loved_80 (lv_at hl 5 rfl) ?_
              refine lv_iload_n hx hb dX11_loved_82 rfl (lv_at hl 3 rfl) ?_
              refine lv_icmp_gt (tgt := 89) hx hb dX11_loved_83 (by decide) (fun c17 => ?_) (fun c17 => ?_)
              · replace h := if_t c17 h
                refine lv_iload hx hb dX11_loved_89 (lv_at hl 4 rfl) ?_
                refine lv_istore_n (lv' := [(2, .int v4), (0, .ref (w.2.2.1 v0)), (1, .int v1), (3, .int v3), (4, .int v4), (5, .int x14)]) hx hb dX11_loved_91 rfl hl (by decide) rfl (fun ls hl => ?_)
                refine lv_iload hx hb dX11_loved_92 (lv_at hl 5 rfl) ?_
                refine lv_istore_n (lv' := [(3, .int x14), (2, .int v4), (0, .ref (w.2.2.1 v0)), (1, .int v1), (4, .int v4), (5, .int x14)]) hx hb dX11_loved_94 rfl hl (by decide) rfl (fun ls hl => ?_)
                obtain ⟨x18, ex18⟩ : ∃ y : Int32, y = (v4 + (1 : Int32)) := ⟨_, rfl⟩
                replace h := vl_ok ex18 h
                refine lv_iinc (v := x18) (lv' := [(4, .int x18), (3, .int x14), (2, .int v4), (0, .ref (w.2.2.1 v0)), (1, .int v1), (5, .int x14)]) hx hb dX11_loved_95 hl (k := 4) rfl (by rw [ex18]; rfl) (by decide) rfl (fun ls hl => ?_)
                refine lv_goto (tgt := 32) hx hb dX11_loved_98 (by decide) ?_
                obtain ⟨rfl, rfl⟩ := leaf h
                exact hP0_32 rfl _ _ _ hP hS (lv_sub hl [3, 4, 2, 1, 0] rfl)
              · replace h := if_f c17 h
                refine lv_goto (tgt := 95) hx hb dX11_loved_86 (by decide) ?_
                obtain ⟨x19, ex19⟩ : ∃ y : Int32, y = (v4 + (1 : Int32)) := ⟨_, rfl⟩
                replace h := vl_ok ex19 h
                refine lv_iinc (v := x19) (lv' := [(4, .int x19), (0, .ref (w.2.2.1 v0)), (1, .int v1), (2, .int v2), (3, .int v3), (5, .int x14)]) hx hb dX11_loved_95 hl (k := 4) rfl (by rw [ex19]; rfl) (by decide) rfl (fun ls hl => ?_)
                refine lv_goto (tgt := 32) hx hb dX11_loved_98 (by decide) ?_
                obtain ⟨rfl, rfl⟩ := leaf h
                exact hP0_32 rfl _ _ _ hP hS (lv_sub hl [1, 2, 3, 4, 0] rfl)
        · obtain ⟨x23, x24, x25, μ26⟩ := q22
          intro H locs ls hP hS hl
          have hP : fP w μ26 H := hP
          have hl : lv_has ls 7 [(1, .int v1), (2, .int x23), (3, .int x24)] := hl
          try dsimp only at h
          refine lv_iload_n hx hb dX11_loved_101 rfl (lv_at hl 0 rfl) ?_
          refine lv_if_ne (tgt := 109) hx hb dX11_loved_102 (by decide) (fun c27 => ?_) (fun c27 => ?_)
          · replace h := if_f c27 h
            refine lv_iload_n hx hb dX11_loved_109 rfl (lv_at hl 2 rfl) ?_
            exact r_iret C hr hP hS h dX11_loved_110
          · replace h := if_t c27 h
            refine lv_iload_n hx hb dX11_loved_105 rfl (lv_at hl 1 rfl) ?_
            refine lv_goto (tgt := 110) hx hb dX11_loved_106 (by decide) ?_
            exact r_iret C hr hP hS h dX11_loved_110
      · replace h := if_t c4 h
        refine lv_iconst (v := (-1)) hx hb dX11_loved_23 (by decide) ?_
        exact r_iret C hr hP hS h dX11_loved_24

def f_X11_note (v0 : Nat) (v1 : Int32) (v2 : Int32) (v3 : Int32) (v4 : Int32) (μ : fMem) : Option (Int32 × fMem) :=
  vl (sI μ v0 0 (0 : Int32)) fun μ1 => if v1 < (1 : Int32) then some ((-1 : Int32), μ1) else if (30 : Int32) < v1 then some ((-1 : Int32), μ1) else bd (f_X11_isThing v0 v2 μ1) fun r5 μ4 => if r5 = 0 then some ((-1 : Int32), μ4) else bd (f_X11_isRoom v0 v3 μ4) fun r9 μ8 => if r9 = 0 then some ((-1 : Int32), μ8) else if (μ8.1 v0 57) = (24 : Int32) then some ((-1 : Int32), μ8) else gd (ixo (μ8.1 v0 57) 24) (vl (sI μ8 (v0 + 34) (Int32.toNatClampNeg (μ8.1 v0 57)) v1) fun μ13 => gd (ixo (μ13.1 v0 57) 24) (vl (sI μ13 (v0 + 35) (Int32.toNatClampNeg (μ13.1 v0 57)) v2) fun μ15 => gd (ixo (μ15.1 v0 57) 24) (vl (sI μ15 (v0 + 36) (Int32.toNatClampNeg (μ15.1 v0 57)) v3) fun μ17 => gd (ixo (μ17.1 v0 57) 24) (gd (bl v4) (vl (sI μ17 (v0 + 37) (Int32.toNatClampNeg (μ17.1 v0 57)) v4) fun μ19 => gd (ixo (μ19.1 v0 57) 24) (vl (sI μ19 (v0 + 38) (Int32.toNatClampNeg (μ19.1 v0 57)) (-1 : Int32)) fun μ22 => vl (sI μ22 v0 57 ((μ22.1 v0 57) + (1 : Int32))) fun μ24 => some (((μ24.1 v0 57) - (1 : Int32)), μ24)))))))
def rm_X11_note : Room := { frames := 1, cells := 0, slots := 0, locals := 21 }
set_option maxHeartbeats 4000000 in
set_option maxRecDepth 100000 in
theorem m_X11_note (l : Launch) (w : fW) (hJ : fJ w) (hw : w.2.2.2 = sd 1) (v0 : Nat) (v1 : Int32) (v2 : Int32) (v3 : Int32) (v4 : Int32) (hk0 : kd v0 = (4, 11)) (μ : fMem) {r : Int32} {μr : fMem} (h : f_X11_note v0 v1 v2 v3 v4 μ = some (r, μr)) : Met l yX11_note (.code yX11_note cX11_note 5 (some .int) :: gw) rm_X11_note (fPc w [.ref (w.2.2.1 v0), .int v1, .int v2, .int v3, .int v4] μ) (fQi w r μr) 0 0 (fA w) := by
  refine met_of hJ (by decide) ?_ (Nat.le_of_ble_eq_true rfl)
  generalize ([.ref (w.2.2.1 v0), .int v1, .int v2, .int v3, .int v4] : List Value).toArray = args
  intro p e s m below meth c ls C hr hP hl hS
  obtain ⟨hx, hb, hml, hown, hts, hK, -, hlk, hT⟩ := id C
  have hl : lv_has ls 5 [(0, .ref (w.2.2.1 v0)), (1, .int v1), (2, .int v2), (3, .int v3), (4, .int v4)] := hl
  unfold f_X11_note at h
  refine lv_aload_n hx hb dX11_note_0 rfl (lv_at hl 0 rfl) ?_
  refine lv_iconst (v := (0)) hx hb dX11_note_1 (by decide) ?_
  refine r_putI C hP hS (iw hw (fi_11 hk0)) hk0 fp_X11_148 rfl dX11_note_2 (fun H locs hP hS => ?_)
  obtain ⟨μ1, eμ1, h⟩ := vl_ex h
  have hP : fP w μ1 H := by rw [eμ1]; exact hP
  refine lv_iload_n hx hb dX11_note_5 rfl (lv_at hl 1 rfl) ?_
  refine lv_iconst (v := (1)) hx hb dX11_note_6 (by decide) ?_
  refine lv_icmp_lt (tgt := 41) hx hb dX11_note_7 (by decide) (fun c2 => ?_) (fun c2 => ?_)
  · replace h := if_t c2 h
    refine lv_iconst (v := (-1)) hx hb dX11_note_41 (by decide) ?_
    exact r_iret C hr hP hS h dX11_note_42
  · replace h := if_f c2 h
    refine lv_iload_n hx hb dX11_note_10 rfl (lv_at hl 1 rfl) ?_
    refine lv_bipush (v := (30)) hx hb dX11_note_11 (by decide) ?_
    refine lv_icmp_gt (tgt := 41) hx hb dX11_note_13 (by decide) (fun c3 => ?_) (fun c3 => ?_)
    · replace h := if_t c3 h
      refine lv_iconst (v := (-1)) hx hb dX11_note_41 (by decide) ?_
      exact r_iret C hr hP hS h dX11_note_42
    · replace h := if_f c3 h
      refine lv_aload_n hx hb dX11_note_16 rfl (lv_at hl 0 rfl) ?_
      refine lv_iload_n hx hb dX11_note_17 rfl (lv_at hl 2 rfl) ?_
      obtain ⟨r5, μ4, h6, h⟩ := bd_ok h
      refine go_i (callV_run (As := [.int v2]) (rest := []) C hl hP (hS.wide hJ).2.1 (iw hw (fi_11 hk0)) hk0 (m_X11_isThing l w hJ hw v0 v2 hk0 μ1 h6) mv_X11_416 ⟨rfl, rfl, by decide, by decide⟩ rfl rfl (Nat.le_of_ble_eq_true rfl) ⟨Nat.zero_le _, Nat.zero_le _⟩ dX11_note_18) hS (fun H locs hP hS => ?_)
      refine lv_if_eq (tgt := 41) hx hb dX11_note_21 (by decide) (fun c7 => ?_) (fun c7 => ?_)
      · replace h := if_t c7 h
        refine lv_iconst (v := (-1)) hx hb dX11_note_41 (by decide) ?_
        exact r_iret C hr hP hS h dX11_note_42
      · replace h := if_f c7 h
        refine lv_aload_n hx hb dX11_note_24 rfl (lv_at hl 0 rfl) ?_
        refine lv_iload_n hx hb dX11_note_25 rfl (lv_at hl 3 rfl) ?_
        obtain ⟨r9, μ8, h10, h⟩ := bd_ok h
        refine go_i (callV_run (As := [.int v3]) (rest := []) C hl hP (hS.wide hJ).2.1 (iw hw (fi_11 hk0)) hk0 (m_X11_isRoom l w hJ hw v0 v3 hk0 μ4 h10) mv_X11_419 ⟨rfl, rfl, by decide, by decide⟩ rfl rfl (Nat.le_of_ble_eq_true rfl) ⟨Nat.zero_le _, Nat.zero_le _⟩ dX11_note_26) hS (fun H locs hP hS => ?_)
        refine lv_if_eq (tgt := 41) hx hb dX11_note_29 (by decide) (fun c11 => ?_) (fun c11 => ?_)
        · replace h := if_t c11 h
          refine lv_iconst (v := (-1)) hx hb dX11_note_41 (by decide) ?_
          exact r_iret C hr hP hS h dX11_note_42
        · replace h := if_f c11 h
          refine lv_aload_n hx hb dX11_note_32 rfl (lv_at hl 0 rfl) ?_
          refine r_getI C hP (iw hw (fi_11 hk0)) hk0 fl_X11_304 (Or.inl rfl) dX11_note_33 ?_
          refine lv_bipush (v := (24)) hx hb dX11_note_36 (by decide) ?_
          refine lv_icmp_ne (tgt := 43) hx hb dX11_note_38 (by decide) (fun c12 => ?_) (fun c12 => ?_)
          · replace h := if_f c12 h
            refine lv_aload_n hx hb dX11_note_43 rfl (lv_at hl 0 rfl) ?_
            refine r_getF (off := 34) C hP (iw hw (fi_11 hk0)) hk0 fl_X11_126 rfl rfl (zw hw) dX11_note_44 ?_
            refine lv_aload_n hx hb dX11_note_47 rfl (lv_at hl 0 rfl) ?_
            refine r_getI C hP (iw hw (fi_11 hk0)) hk0 fl_X11_304 (Or.inl rfl) dX11_note_48 ?_
            refine lv_iload_n hx hb dX11_note_51 rfl (lv_at hl 1 rfl) ?_
            obtain ⟨g14, h⟩ := gd_ok h
            refine r_iast C hP hS (iw hw (ff_11_59 hk0).2) (ff_11_59 hk0).1 g14 dX11_note_52 (fun H locs hP hS => ?_)
            obtain ⟨μ13, eμ13, h⟩ := vl_ex h
            have hP : fP w μ13 H := by rw [eμ13]; exact hP
            refine lv_aload_n hx hb dX11_note_53 rfl (lv_at hl 0 rfl) ?_
            refine r_getF (off := 35) C hP (iw hw (fi_11 hk0)) hk0 fl_X11_129 rfl rfl (zw hw) dX11_note_54 ?_
            refine lv_aload_n hx hb dX11_note_57 rfl (lv_at hl 0 rfl) ?_
            refine r_getI C hP (iw hw (fi_11 hk0)) hk0 fl_X11_304 (Or.inl rfl) dX11_note_58 ?_
            refine lv_iload_n hx hb dX11_note_61 rfl (lv_at hl 2 rfl) ?_
            obtain ⟨g16, h⟩ := gd_ok h
            refine r_iast C hP hS (iw hw (ff_11_60 hk0).2) (ff_11_60 hk0).1 g16 dX11_note_62 (fun H locs hP hS => ?_)
            obtain ⟨μ15, eμ15, h⟩ := vl_ex h
            have hP : fP w μ15 H := by rw [eμ15]; exact hP
            refine lv_aload_n hx hb dX11_note_63 rfl (lv_at hl 0 rfl) ?_
            refine r_getF (off := 36) C hP (iw hw (fi_11 hk0)) hk0 fl_X11_132 rfl rfl (zw hw) dX11_note_64 ?_
            refine lv_aload_n hx hb dX11_note_67 rfl (lv_at hl 0 rfl) ?_
            refine r_getI C hP (iw hw (fi_11 hk0)) hk0 fl_X11_304 (Or.inl rfl) dX11_note_68 ?_
            refine lv_iload_n hx hb dX11_note_71 rfl (lv_at hl 3 rfl) ?_
            obtain ⟨g18, h⟩ := gd_ok h
            refine r_iast C hP hS (iw hw (ff_11_61 hk0).2) (ff_11_61 hk0).1 g18 dX11_note_72 (fun H locs hP hS => ?_)
            obtain ⟨μ17, eμ17, h⟩ := vl_ex h
            have hP : fP w μ17 H := by rw [eμ17]; exact hP
            refine lv_aload_n hx hb dX11_note_73 rfl (lv_at hl 0 rfl) ?_
            refine r_getF (off := 37) C hP (iw hw (fi_11 hk0)) hk0 fl_X11_135 rfl rfl (zw hw) dX11_note_74 ?_
            refine lv_aload_n hx hb dX11_note_77 rfl (lv_at hl 0 rfl) ?_
            refine r_getI C hP (iw hw (fi_11 hk0)) hk0 fl_X11_304 (Or.inl rfl) dX11_note_78 ?_
            refine lv_iload hx hb dX11_note_81 (lv_at hl 4 rfl) ?_
            obtain ⟨g20, h⟩ := gd_ok h
            obtain ⟨g21, h⟩ := gd_ok h
            refine r_zast C hP hS (iw hw (ff_11_62 hk0).2) (ff_11_62 hk0).1 g20 g21 dX11_note_83 (fun H locs hP hS => ?_)
            obtain ⟨μ19, eμ19, h⟩ := vl_ex h
            have hP : fP w μ19 H := by rw [eμ19]; exact hP
            refine lv_aload_n hx hb dX11_note_84 rfl (lv_at hl 0 rfl) ?_
            refine r_getF (off := 38) C hP (iw hw (fi_11 hk0)) hk0 fl_X11_139 rfl rfl (zw hw) dX11_note_85 ?_
            refine lv_aload_n hx hb dX11_note_88 rfl (lv_at hl 0 rfl) ?_
            refine r_getI C hP (iw hw (fi_11 hk0)) hk0 fl_X11_304 (Or.inl rfl) dX11_note_89 ?_
            refine lv_iconst (v := (-1)) hx hb dX11_note_92 (by decide) ?_
            obtain ⟨g23, h⟩ := gd_ok h
            refine r_iast C hP hS (iw hw (ff_11_63 hk0).2) (ff_11_63 hk0).1 g23 dX11_note_93 (fun H locs hP hS => ?_)
            obtain ⟨μ22, eμ22, h⟩ := vl_ex h
            have hP : fP w μ22 H := by rw [eμ22]; exact hP
            refine lv_aload_n hx hb dX11_note_94 rfl (lv_at hl 0 rfl) ?_
            refine lv_dup hx hb dX11_note_95 rfl ?_
            refine r_getI C hP (iw hw (fi_11 hk0)) hk0 fl_X11_304 (Or.inl rfl) dX11_note_96 ?_
            refine lv_iconst (v := (1)) hx hb dX11_note_99 (by decide) ?_
            refine lv_iadd hx hb dX11_note_100 ?_
            refine r_putI C hP hS (iw hw (fi_11 hk0)) hk0 fp_X11_304 rfl dX11_note_101 (fun H locs hP hS => ?_)
            obtain ⟨μ24, eμ24, h⟩ := vl_ex h
            have hP : fP w μ24 H := by rw [eμ24]; exact hP
            refine lv_aload_n hx hb dX11_note_104 rfl (lv_at hl 0 rfl) ?_
            refine r_getI C hP (iw hw (fi_11 hk0)) hk0 fl_X11_304 (Or.inl rfl) dX11_note_105 ?_
            refine lv_iconst (v := (1)) hx hb dX11_note_108 (by decide) ?_
            refine lv_isub hx hb dX11_note_109 ?_
            exact r_iret C hr hP hS h dX11_note_110
          · replace h := if_t c12 h
            refine lv_iconst (v := (-1)) hx hb dX11_note_41 (by decide) ?_
            exact r_iret C hr hP hS h dX11_note_42

def f_X11_out (v0 : Nat) (v1 : Int32) (μ : fMem) : Option (Int32 × fMem) :=
  vl (sI μ v0 0 (0 : Int32)) fun μ1 => if v1 < 0 then some ((-1 : Int32), μ1) else if (μ1.1 v0 57) ≤ v1 then some ((-1 : Int32), μ1) else if (μ1.1 v0 57) = (24 : Int32) then some ((-1 : Int32), μ1) else gd (ixo (μ1.1 v0 57) 24) (vl (sI μ1 (v0 + 38) (Int32.toNatClampNeg (μ1.1 v0 57)) v1) fun μ5 => vl (sI μ5 v0 57 ((μ5.1 v0 57) + (1 : Int32))) fun μ7 => some (((μ7.1 v0 57) - (1 : Int32)), μ7))
def rm_X11_out : Room := { frames := 0, cells := 0, slots := 0, locals := 0 }
set_option maxHeartbeats 4000000 in
set_option maxRecDepth 100000 in
theorem m_X11_out (l : Launch) (w : fW) (hJ : fJ w) (hw : w.2.2.2 = sd 1) (v0 : Nat) (v1 : Int32) (hk0 : kd v0 = (4, 11)) (μ : fMem) {r : Int32} {μr : fMem} (h : f_X11_out v0 v1 μ = some (r, μr)) : Met l yX11_out (.code yX11_out cX11_out 2 (some .int) :: gw) rm_X11_out (fPc w [.ref (w.2.2.1 v0), .int v1] μ) (fQi w r μr) 0 0 (fA w) := by
  refine met_of hJ (by decide) ?_ (Nat.le_of_ble_eq_true rfl)
  generalize ([.ref (w.2.2.1 v0), .int v1] : List Value).toArray = args
  intro p e s m below meth c ls C hr hP hl hS
  obtain ⟨hx, hb, hml, hown, hts, hK, -, hlk, hT⟩ := id C
  have hl : lv_has ls 2 [(0, .ref (w.2.2.1 v0)), (1, .int v1)] := hl
  unfold f_X11_out at h
  refine lv_aload_n hx hb dX11_out_0 rfl (lv_at hl 0 rfl) ?_
  refine lv_iconst (v := (0)) hx hb dX11_out_1 (by decide) ?_
  refine r_putI C hP hS (iw hw (fi_11 hk0)) hk0 fp_X11_148 rfl dX11_out_2 (fun H locs hP hS => ?_)
  obtain ⟨μ1, eμ1, h⟩ := vl_ex h
  have hP : fP w μ1 H := by rw [eμ1]; exact hP
  refine lv_iload_n hx hb dX11_out_5 rfl (lv_at hl 1 rfl) ?_
  refine lv_if_lt (tgt := 26) hx hb dX11_out_6 (by decide) (fun c2 => ?_) (fun c2 => ?_)
  · replace h := if_t c2 h
    refine lv_iconst (v := (-1)) hx hb dX11_out_26 (by decide) ?_
    exact r_iret C hr hP hS h dX11_out_27
  · replace h := if_f c2 h
    refine lv_iload_n hx hb dX11_out_9 rfl (lv_at hl 1 rfl) ?_
    refine lv_aload_n hx hb dX11_out_10 rfl (lv_at hl 0 rfl) ?_
    refine r_getI C hP (iw hw (fi_11 hk0)) hk0 fl_X11_304 (Or.inl rfl) dX11_out_11 ?_
    refine lv_icmp_ge (tgt := 26) hx hb dX11_out_14 (by decide) (fun c3 => ?_) (fun c3 => ?_)
    · replace h := if_t c3 h
      refine lv_iconst (v := (-1)) hx hb dX11_out_26 (by decide) ?_
      exact r_iret C hr hP hS h dX11_out_27
    · replace h := if_f c3 h
      refine lv_aload_n hx hb dX11_out_17 rfl (lv_at hl 0 rfl) ?_
      refine r_getI C hP (iw hw (fi_11 hk0)) hk0 fl_X11_304 (Or.inl rfl) dX11_out_18 ?_
      refine lv_bipush (v := (24)) hx hb dX11_out_21 (by decide) ?_
      refine lv_icmp_ne (tgt := 28) hx hb dX11_out_23 (by decide) (fun c4 => ?_) (fun c4 => ?_)
      · replace h := if_f c4 h
        refine lv_aload_n hx hb dX11_out_28 rfl (lv_at hl 0 rfl) ?_
        refine r_getF (off := 38) C hP (iw hw (fi_11 hk0)) hk0 fl_X11_139 rfl rfl (zw hw) dX11_out_29 ?_
        refine lv_aload_n hx hb dX11_out_32 rfl (lv_at hl 0 rfl) ?_
        refine r_getI C hP (iw hw (fi_11 hk0)) hk0 fl_X11_304 (Or.inl rfl) dX11_out_33 ?_
        refine lv_iload_n hx hb dX11_out_36 rfl (lv_at hl 1 rfl) ?_
        obtain ⟨g6, h⟩ := gd_ok h
        refine r_iast C hP hS (iw hw (ff_11_63 hk0).2) (ff_11_63 hk0).1 g6 dX11_out_37 (fun H locs hP hS => ?_)
        obtain ⟨μ5, eμ5, h⟩ := vl_ex h
        have hP : fP w μ5 H := by rw [eμ5]; exact hP
        refine lv_aload_n hx hb dX11_out_38 rfl (lv_at hl 0 rfl) ?_
        refine lv_dup hx hb dX11_out_39 rfl ?_
        refine r_getI C hP (iw hw (fi_11 hk0)) hk0 fl_X11_304 (Or.inl rfl) dX11_out_40 ?_
        refine lv_iconst (v := (1)) hx hb dX11_out_43 (by decide) ?_
        refine lv_iadd hx hb dX11_out_44 ?_
        refine r_putI C hP hS (iw hw (fi_11 hk0)) hk0 fp_X11_304 rfl dX11_out_45 (fun H locs hP hS => ?_)
        obtain ⟨μ7, eμ7, h⟩ := vl_ex h
        have hP : fP w μ7 H := by rw [eμ7]; exact hP
        refine lv_aload_n hx hb dX11_out_48 rfl (lv_at hl 0 rfl) ?_
        refine r_getI C hP (iw hw (fi_11 hk0)) hk0 fl_X11_304 (Or.inl rfl) dX11_out_49 ?_
        refine lv_iconst (v := (1)) hx hb dX11_out_52 (by decide) ?_
        refine lv_isub hx hb dX11_out_53 ?_
        exact r_iret C hr hP hS h dX11_out_54
      · replace h := if_t c4 h
        refine lv_iconst (v := (-1)) hx hb dX11_out_26 (by decide) ?_
        exact r_iret C hr hP hS h dX11_out_27

def f_X11_known (v0 : Nat) (v1 : Int32) (μ : fMem) : Option (Int32 × fMem) :=
  vl (sI μ v0 0 (0 : Int32)) fun μ1 => if v1 < (-1 : Int32) then gd (bl (0 : Int32)) (some ((0 : Int32), μ1)) else if v1 ≤ (μ1.1 v0 57) then vl (sI μ1 v0 58 v1) fun μ4 => gd (bl (1 : Int32)) (some ((1 : Int32), μ4)) else gd (bl (0 : Int32)) (some ((0 : Int32), μ1))
def rm_X11_known : Room := { frames := 0, cells := 0, slots := 0, locals := 0 }
set_option maxHeartbeats 4000000 in
set_option maxRecDepth 100000 in
theorem m_X11_known (l : Launch) (w : fW) (hJ : fJ w) (hw : w.2.2.2 = sd 1) (v0 : Nat) (v1 : Int32) (hk0 : kd v0 = (4, 11)) (μ : fMem) {r : Int32} {μr : fMem} (h : f_X11_known v0 v1 μ = some (r, μr)) : Met l yX11_known (.code yX11_known cX11_known 2 (some .boolean) :: gw) rm_X11_known (fPc w [.ref (w.2.2.1 v0), .int v1] μ) (fQi w r μr) 0 0 (fA w) := by
  refine met_of hJ (by decide) ?_ (Nat.le_of_ble_eq_true rfl)
  generalize ([.ref (w.2.2.1 v0), .int v1] : List Value).toArray = args
  intro p e s m below meth c ls C hr hP hl hS
  obtain ⟨hx, hb, hml, hown, hts, hK, -, hlk, hT⟩ := id C
  have hl : lv_has ls 2 [(0, .ref (w.2.2.1 v0)), (1, .int v1)] := hl
  unfold f_X11_known at h
  refine lv_aload_n hx hb dX11_known_0 rfl (lv_at hl 0 rfl) ?_
  refine lv_iconst (v := (0)) hx hb dX11_known_1 (by decide) ?_
  refine r_putI C hP hS (iw hw (fi_11 hk0)) hk0 fp_X11_148 rfl dX11_known_2 (fun H locs hP hS => ?_)
  obtain ⟨μ1, eμ1, h⟩ := vl_ex h
  have hP : fP w μ1 H := by rw [eμ1]; exact hP
  refine lv_iload_n hx hb dX11_known_5 rfl (lv_at hl 1 rfl) ?_
  refine lv_iconst (v := (-1)) hx hb dX11_known_6 (by decide) ?_
  refine lv_icmp_lt (tgt := 18) hx hb dX11_known_7 (by decide) (fun c2 => ?_) (fun c2 => ?_)
  · replace h := if_t c2 h
    refine lv_iconst (v := (0)) hx hb dX11_known_18 (by decide) ?_
    exact r_zret C hr hP hS h dX11_known_19
  · replace h := if_f c2 h
    refine lv_iload_n hx hb dX11_known_10 rfl (lv_at hl 1 rfl) ?_
    refine lv_aload_n hx hb dX11_known_11 rfl (lv_at hl 0 rfl) ?_
    refine r_getI C hP (iw hw (fi_11 hk0)) hk0 fl_X11_304 (Or.inl rfl) dX11_known_12 ?_
    refine lv_icmp_le (tgt := 20) hx hb dX11_known_15 (by decide) (fun c3 => ?_) (fun c3 => ?_)
    · replace h := if_t c3 h
      refine lv_aload_n hx hb dX11_known_20 rfl (lv_at hl 0 rfl) ?_
      refine lv_iload_n hx hb dX11_known_21 rfl (lv_at hl 1 rfl) ?_
      refine r_putI C hP hS (iw hw (fi_11 hk0)) hk0 fp_X11_123 rfl dX11_known_22 (fun H locs hP hS => ?_)
      obtain ⟨μ4, eμ4, h⟩ := vl_ex h
      have hP : fP w μ4 H := by rw [eμ4]; exact hP
      refine lv_iconst (v := (1)) hx hb dX11_known_25 (by decide) ?_
      exact r_zret C hr hP hS h dX11_known_26
    · replace h := if_f c3 h
      refine lv_iconst (v := (0)) hx hb dX11_known_18 (by decide) ?_
      exact r_zret C hr hP hS h dX11_known_19

def f_X11_knownMany (v0 : Nat) (μ : fMem) : Option (Int32 × fMem) :=
  if (μ.1 v0 58) = (-1 : Int32) then some ((μ.1 v0 57), μ) else some ((μ.1 v0 58), μ)
def rm_X11_knownMany : Room := { frames := 0, cells := 0, slots := 0, locals := 0 }
set_option maxHeartbeats 4000000 in
set_option maxRecDepth 100000 in
theorem m_X11_knownMany (l : Launch) (w : fW) (hJ : fJ w) (hw : w.2.2.2 = sd 1) (v0 : Nat) (hk0 : kd v0 = (4, 11)) (μ : fMem) {r : Int32} {μr : fMem} (h : f_X11_knownMany v0 μ = some (r, μr)) : Met l yX11_knownMany (.code yX11_knownMany cX11_knownMany 1 (some .int) :: gw) rm_X11_knownMany (fPc w [.ref (w.2.2.1 v0)] μ) (fQi w r μr) 0 0 (fA w) := by
  refine met_of hJ (by decide) ?_ (Nat.le_of_ble_eq_true rfl)
  generalize ([.ref (w.2.2.1 v0)] : List Value).toArray = args
  intro p e s m below meth c ls C hr hP hl hS
  obtain ⟨hx, hb, hml, hown, hts, hK, -, hlk, hT⟩ := id C
  have hl : lv_has ls 1 [(0, .ref (w.2.2.1 v0))] := hl
  unfold f_X11_knownMany at h
  refine lv_aload_n hx hb dX11_knownMany_0 rfl (lv_at hl 0 rfl) ?_
  refine r_getI C hP (iw hw (fi_11 hk0)) hk0 fl_X11_123 (Or.inl rfl) dX11_knownMany_1 ?_
  refine lv_iconst (v := (-1)) hx hb dX11_knownMany_4 (by decide) ?_
  refine lv_icmp_ne (tgt := 15) hx hb dX11_knownMany_5 (by decide) (fun c1 => ?_) (fun c1 => ?_)
  · replace h := if_f c1 h
    refine lv_aload_n hx hb dX11_knownMany_15 rfl (lv_at hl 0 rfl) ?_
    refine r_getI C hP (iw hw (fi_11 hk0)) hk0 fl_X11_123 (Or.inl rfl) dX11_knownMany_16 ?_
    exact r_iret C hr hP hS h dX11_knownMany_19
  · replace h := if_t c1 h
    refine lv_aload_n hx hb dX11_knownMany_8 rfl (lv_at hl 0 rfl) ?_
    refine r_getI C hP (iw hw (fi_11 hk0)) hk0 fl_X11_304 (Or.inl rfl) dX11_knownMany_9 ?_
    refine lv_goto (tgt := 19) hx hb dX11_knownMany_12 (by decide) ?_
    exact r_iret C hr hP hS h dX11_knownMany_19

def f_X11_isSo_j70 (v0 : Nat) (v1 : Int32) (v2 : Int32) (t0 : Int32) (μ : fMem) : Option (Nat × (Int32 × fMem)) :=
  gd (ixo v2 24) (if t0 = (μ.1 (v0 + 37) (Int32.toNatClampNeg v2)) then vl (v2 + (1 : Int32)) fun x20 => some (0, (x20, μ)) else some (2, (v2, μ)))
def f_X11_isSo_L2 (v0 : Nat) (v1 : Int32) (v2 : Int32) (μ : fMem) : Option (Nat × (Int32 × fMem)) :=
  bd (f_X11_knownMany v0 μ) fun r2 μ1 => if r2 ≤ v2 then some (1, (v2, μ1)) else gd (ixo v2 24) (if (μ1.1 (v0 + 39) (Int32.toNatClampNeg v2)) = 0 then gd (ixo v2 24) (if (μ1.1 (v0 + 38) (Int32.toNatClampNeg v2)) = (-1 : Int32) then gd (ixo v2 24) (if (μ1.1 (v0 + 34) (Int32.toNatClampNeg v2)) = v1 then gd (ixo v2 24) (gd (ixo ((8 : Int32) + (μ1.1 (v0 + 35) (Int32.toNatClampNeg v2))) 184) (gd (ixo v2 24) (if (μ1.1 (v0 + 25) (Int32.toNatClampNeg ((8 : Int32) + (μ1.1 (v0 + 35) (Int32.toNatClampNeg v2))))) = (μ1.1 (v0 + 36) (Int32.toNatClampNeg v2)) then f_X11_isSo_j70 v0 v1 v2 (1 : Int32) μ1 else f_X11_isSo_j70 v0 v1 v2 (0 : Int32) μ1))) else vl (v2 + (1 : Int32)) fun x17 => some (0, (x17, μ1))) else vl (v2 + (1 : Int32)) fun x10 => some (0, (x10, μ1))) else vl (v2 + (1 : Int32)) fun x7 => some (0, (x7, μ1)))
def f_X11_isSo (v0 : Nat) (v1 : Int32) (μ : fMem) : Option (Int32 × fMem) :=
  bd (lpn (fun (q : Int32 × fMem) => f_X11_isSo_L2 v0 v1 q.1 q.2) fuel ((0 : Int32), μ)) fun t21 q22 => (fun (x23 : Int32) (μ24 : fMem) => if t21 = 0 then gd (bl (1 : Int32)) (some ((1 : Int32), μ24)) else gd (bl (0 : Int32)) (some ((0 : Int32), μ24))) q22.1 q22.2
def rm_X11_isSo : Room := { frames := 1, cells := 0, slots := 0, locals := 20 }
set_option maxHeartbeats 4000000 in
set_option maxRecDepth 100000 in
theorem m_X11_isSo (l : Launch) (w : fW) (hJ : fJ w) (hw : w.2.2.2 = sd 1) (v0 : Nat) (v1 : Int32) (hk0 : kd v0 = (4, 11)) (μ : fMem) {r : Int32} {μr : fMem} (h : f_X11_isSo v0 v1 μ = some (r, μr)) : Met l yX11_isSo (.code yX11_isSo cX11_isSo 3 (some .boolean) :: gw) rm_X11_isSo (fPc w [.ref (w.2.2.1 v0), .int v1] μ) (fQi w r μr) 0 0 (fA w) := by
  refine met_of hJ (by decide) ?_ (Nat.le_of_ble_eq_true rfl)
  generalize ([.ref (w.2.2.1 v0), .int v1] : List Value).toArray = args
  intro p e s m below meth c ls C hr hP hl hS
  obtain ⟨hx, hb, hml, hown, hts, hK, -, hlk, hT⟩ := id C
  have hl : lv_has ls 3 [(0, .ref (w.2.2.1 v0)), (1, .int v1)] := hl
  unfold f_X11_isSo at h
  refine lv_iconst (v := (0)) hx hb dX11_isSo_0 (by decide) ?_
  refine lv_istore_n (lv' := [(2, .int (0 : Int32)), (0, .ref (w.2.2.1 v0)), (1, .int v1)]) hx hb dX11_isSo_1 rfl hl (by decide) rfl (fun ls hl => ?_)
  obtain ⟨t21, q22, h25, h⟩ := bd_ok h
  refine lpn_ind (b := (fun (q : Int32 × fMem) => f_X11_isSo_L2 v0 v1 q.1 q.2)) (P := fun (q : Int32 × fMem) => WW p l e rm_X11_isSo s m args below meth c (MQ below (fQi w r μr) args s 0 0 (fA w)) w q.2 3 2 [] [(0, .ref (w.2.2.1 v0)), (1, .int v1), (2, .int q.1)]) (K := fun t (q : Int32 × fMem) => (t = 0 → WW p l e rm_X11_isSo s m args below meth c (MQ below (fQi w r μr) args s 0 0 (fA w)) w q.2 3 87 [] []) ∧ (t = 1 → WW p l e rm_X11_isSo s m args below meth c (MQ below (fQi w r μr) args s 0 0 (fA w)) w q.2 3 79 [] [])) ?_ fuel ((0 : Int32), μ) t21 q22 h25 ?_ _ _ _ hP hS (lv_sub hl [1, 2, 0] rfl)
  · intro q tz2 sz2 h hP0_2 hK0_2 H locs ls hP hS hl
    obtain ⟨v2, μ⟩ := q
    have hP : fP w μ H := hP
    have hl : lv_has ls 3 [(0, .ref (w.2.2.1 v0)), (1, .int v1), (2, .int v2)] := hl
    have h : f_X11_isSo_L2 v0 v1 v2 μ = some (tz2, sz2) := h
    unfold f_X11_isSo_L2 at h
    have J70 : ∀ (v2 : Int32) (t0 : Int32) (μ : fMem), f_X11_isSo_j70 v0 v1 v2 t0 μ = some (tz2, sz2) → WW p l e rm_X11_isSo s m args below meth c (MQ below (fQi w r μr) args s 0 0 (fA w)) w μ 3 70 [.int t0] [(0, .ref (w.2.2.1 v0)), (1, .int v1), (2, .int v2)] := by
      intro v2 t0 μ  h H locs ls hP hS hl
      unfold f_X11_isSo_j70 at h
      refine lv_aload_n hx hb dX11_isSo_70 rfl (lv_at hl 0 rfl) ?_
      refine r_getF (off := 37) C hP (iw hw (fi_11 hk0)) hk0 fl_X11_135 rfl rfl (zw hw) dX11_isSo_71 ?_
      refine lv_iload_n hx hb dX11_isSo_74 rfl (lv_at hl 2 rfl) ?_
      obtain ⟨g18, h⟩ := gd_ok h
      refine r_zald C hP (iw hw (ff_11_62 hk0).2) (ff_11_62 hk0).1 g18 dX11_isSo_75 ?_
      refine lv_icmp_eq (tgt := 81) hx hb dX11_isSo_76 (by decide) (fun c19 => ?_) (fun c19 => ?_)
      · replace h := if_t c19 h
        obtain ⟨x20, ex20⟩ : ∃ y : Int32, y = (v2 + (1 : Int32)) := ⟨_, rfl⟩
        replace h := vl_ok ex20 h
        refine lv_iinc (v := x20) (lv' := [(2, .int x20), (0, .ref (w.2.2.1 v0)), (1, .int v1)]) hx hb dX11_isSo_81 hl (k := 2) rfl (by rw [ex20]; rfl) (by decide) rfl (fun ls hl => ?_)
        refine lv_goto (tgt := 2) hx hb dX11_isSo_84 (by decide) ?_
        obtain ⟨rfl, rfl⟩ := leaf h
        exact hP0_2 rfl _ _ _ hP hS (lv_sub hl [1, 2, 0] rfl)
      · replace h := if_f c19 h
        obtain ⟨rfl, rfl⟩ := leaf h
        exact ((hK0_2 1 rfl).2 rfl) _ _ _ hP hS (lv_sub hl [] rfl)
    refine lv_iload_n hx hb dX11_isSo_2 rfl (lv_at hl 2 rfl) ?_
    refine lv_aload_n hx hb dX11_isSo_3 rfl (lv_at hl 0 rfl) ?_
    obtain ⟨r2, μ1, h3, h⟩ := bd_ok h
    refine go_i (callV_run (As := []) (rest := [.int v2]) C hl hP (hS.wide hJ).2.1 (iw hw (fi_11 hk0)) hk0 (m_X11_knownMany l w hJ hw v0 hk0 μ h3) mv_X11_476 ⟨rfl, rfl, by decide, by decide⟩ rfl rfl (Nat.le_of_ble_eq_true rfl) ⟨Nat.zero_le _, Nat.zero_le _⟩ dX11_isSo_4) hS (fun H locs hP hS => ?_)
    refine lv_icmp_ge (tgt := 87) hx hb dX11_isSo_7 (by decide) (fun c4 => ?_) (fun c4 => ?_)
    · replace h := if_t c4 h
      obtain ⟨rfl, rfl⟩ := leaf h
      exact ((hK0_2 0 rfl).1 rfl) _ _ _ hP hS (lv_sub hl [] rfl)
    · replace h := if_f c4 h
      refine lv_aload_n hx hb dX11_isSo_10 rfl (lv_at hl 0 rfl) ?_
      refine r_getF (off := 39) C hP (iw hw (fi_11 hk0)) hk0 fl_X11_142 rfl rfl (zw hw) dX11_isSo_11 ?_
      refine lv_iload_n hx hb dX11_isSo_14 rfl (lv_at hl 2 rfl) ?_
      obtain ⟨g5, h⟩ := gd_ok h
      refine r_zald C hP (iw hw (ff_11_64 hk0).2) (ff_11_64 hk0).1 g5 dX11_isSo_15 ?_
      refine lv_if_ne (tgt := 81) hx hb dX11_isSo_16 (by decide) (fun c6 => ?_) (fun c6 => ?_)
      · replace h := if_f c6 h
        obtain ⟨x7, ex7⟩ : ∃ y : Int32, y = (v2 + (1 : Int32)) := ⟨_, rfl⟩
        replace h := vl_ok ex7 h
        refine lv_iinc (v := x7) (lv' := [(2, .int x7), (0, .ref (w.2.2.1 v0)), (1, .int v1)]) hx hb dX11_isSo_81 hl (k := 2) rfl (by rw [ex7]; rfl) (by decide) rfl (fun ls hl => ?_)
        refine lv_goto (tgt := 2) hx hb dX11_isSo_84 (by decide) ?_
        obtain ⟨rfl, rfl⟩ := leaf h
        exact hP0_2 rfl _ _ _ hP hS (lv_sub hl [1, 2, 0] rfl)
      · replace h := if_t c6 h
        refine lv_aload_n hx hb dX11_isSo_19 rfl (lv_at hl 0 rfl) ?_
        refine r_getF (off := 38) C hP (iw hw (fi_11 hk0)) hk0 fl_X11_139 rfl rfl (zw hw) dX11_isSo_20 ?_
        refine lv_iload_n hx hb dX11_isSo_23 rfl (lv_at hl 2 rfl) ?_
        obtain ⟨g8, h⟩ := gd_ok h
        refine r_iald C hP (iw hw (ff_11_63 hk0).2) (ff_11_63 hk0).1 g8 dX11_isSo_24 ?_
        refine lv_iconst (v := (-1)) hx hb dX11_isSo_25 (by decide) ?_
        refine lv_icmp_ne (tgt := 81) hx hb dX11_isSo_26 (by decide) (fun c9 => ?_) (fun c9 => ?_)
        · replace h := if_f c9 h
          obtain ⟨x10, ex10⟩ : ∃ y : Int32, y = (v2 + (1 : Int32)) := ⟨_, rfl⟩
          replace h := vl_ok ex10 h
          refine lv_iinc (v := x10) (lv' := [(2, .int x10), (0, .ref (w.2.2.1 v0)), (1, .int v1)]) hx hb dX11_isSo_81 hl (k := 2) rfl (by rw [ex10]; rfl) (by decide) rfl (fun ls hl => ?_)
          refine lv_goto (tgt := 2) hx hb dX11_isSo_84 (by decide) ?_
          obtain ⟨rfl, rfl⟩ := leaf h
          exact hP0_2 rfl _ _ _ hP hS (lv_sub hl [1, 2, 0] rfl)
        · replace h := if_t c9 h
          refine lv_aload_n hx hb dX11_isSo_29 rfl (lv_at hl 0 rfl) ?_
          refine r_getF (off := 34) C hP (iw hw (fi_11 hk0)) hk0 fl_X11_126 rfl rfl (zw hw) dX11_isSo_30 ?_
          refine lv_iload_n hx hb dX11_isSo_33 rfl (lv_at hl 2 rfl) ?_
          obtain ⟨g11, h⟩ := gd_ok h
          refine r_iald C hP (iw hw (ff_11_59 hk0).2) (ff_11_59 hk0).1 g11 dX11_isSo_34 ?_
          refine lv_iload_n hx hb dX11_isSo_35 rfl (lv_at hl 1 rfl) ?_
          refine lv_icmp_eq (tgt := 42) hx hb dX11_isSo_36 (by decide) (fun c12 => ?_) (fun c12 => ?_)
          · replace h := if_t c12 h
            refine lv_aload_n hx hb dX11_isSo_42 rfl (lv_at hl 0 rfl) ?_
            refine r_getF (off := 25) C hP (iw hw (fi_11 hk0)) hk0 fl_X11_87 rfl rfl (zw hw) dX11_isSo_43 ?_
            refine lv_bipush (v := (8)) hx hb dX11_isSo_46 (by decide) ?_
            refine lv_aload_n hx hb dX11_isSo_48 rfl (lv_at hl 0 rfl) ?_
            refine r_getF (off := 35) C hP (iw hw (fi_11 hk0)) hk0 fl_X11_129 rfl rfl (zw hw) dX11_isSo_49 ?_
            refine lv_iload_n hx hb dX11_isSo_52 rfl (lv_at hl 2 rfl) ?_
            obtain ⟨g13, h⟩ := gd_ok h
            refine r_iald C hP (iw hw (ff_11_60 hk0).2) (ff_11_60 hk0).1 g13 dX11_isSo_53 ?_
            refine lv_iadd hx hb dX11_isSo_54 ?_
            obtain ⟨g14, h⟩ := gd_ok h
            refine r_iald C hP (iw hw (ff_11_40 hk0).2) (ff_11_40 hk0).1 g14 dX11_isSo_55 ?_
            refine lv_aload_n hx hb dX11_isSo_56 rfl (lv_at hl 0 rfl) ?_
            refine r_getF (off := 36) C hP (iw hw (fi_11 hk0)) hk0 fl_X11_132 rfl rfl (zw hw) dX11_isSo_57 ?_
            refine lv_iload_n hx hb dX11_isSo_60 rfl (lv_at hl 2 rfl) ?_
            obtain ⟨g15, h⟩ := gd_ok h
            refine r_iald C hP (iw hw (ff_11_61 hk0).2) (ff_11_61 hk0).1 g15 dX11_isSo_61 ?_
            refine lv_icmp_ne (tgt := 69) hx hb dX11_isSo_62 (by decide) (fun c16 => ?_) (fun c16 => ?_)
            · replace h := if_f c16 h
              refine lv_iconst (v := (0)) hx hb dX11_isSo_69 (by decide) ?_
              exact J70 v2 (0 : Int32) μ1  h _ _ _ hP hS (lv_sub hl [0, 1, 2] rfl)
            · replace h := if_t c16 h
              refine lv_iconst (v := (1)) hx hb dX11_isSo_65 (by decide) ?_
              refine lv_goto (tgt := 70) hx hb dX11_isSo_66 (by decide) ?_
              exact J70 v2 (1 : Int32) μ1  h _ _ _ hP hS (lv_sub hl [0, 1, 2] rfl)
          · replace h := if_f c12 h
            refine lv_goto (tgt := 81) hx hb dX11_isSo_39 (by decide) ?_
            obtain ⟨x17, ex17⟩ : ∃ y : Int32, y = (v2 + (1 : Int32)) := ⟨_, rfl⟩
            replace h := vl_ok ex17 h
            refine lv_iinc (v := x17) (lv' := [(2, .int x17), (0, .ref (w.2.2.1 v0)), (1, .int v1)]) hx hb dX11_isSo_81 hl (k := 2) rfl (by rw [ex17]; rfl) (by decide) rfl (fun ls hl => ?_)
            refine lv_goto (tgt := 2) hx hb dX11_isSo_84 (by decide) ?_
            obtain ⟨rfl, rfl⟩ := leaf h
            exact hP0_2 rfl _ _ _ hP hS (lv_sub hl [1, 2, 0] rfl)
  · obtain ⟨x23, μ24⟩ := q22
    try dsimp only at h
    refine ⟨fun ht => ?_, fun ht => ?_⟩
    · intro H locs ls hP hS hl
      have hP : fP w μ24 H := hP
      have hl : lv_has ls 3 [] := hl
      replace h := if_t ht h
      refine lv_iconst (v := (1)) hx hb dX11_isSo_87 (by decide) ?_
      exact r_zret C hr hP hS h dX11_isSo_88
    · intro H locs ls hP hS hl
      have hP : fP w μ24 H := hP
      have hl : lv_has ls 3 [] := hl
      replace h := if_f (by rw [ht]; decide) h
      refine lv_iconst (v := (0)) hx hb dX11_isSo_79 (by decide) ?_
      exact r_zret C hr hP hS h dX11_isSo_80

def f_X11_fitsTaste_L7 (v0 : Nat) (v1 : Int32) (v2 : Int32) (μ : fMem) : Option (Nat × (Int32 × fMem)) :=
  if v1 < v2 then some (1, (v2, μ)) else bd (f_X11_passes v0 (1 : Int32) μ) fun r6 μ5 => bd (f_X11_isSo v0 v2 μ5) fun r9 μ8 => if r9 = 0 then some (2, (v2, μ8)) else vl (v2 + (1 : Int32)) fun x12 => some (0, (x12, μ8))
def f_X11_fitsTaste (v0 : Nat) (v1 : Int32) (μ : fMem) : Option (Int32 × fMem) :=
  bd (f_X11_starts v0 (1 : Int32) μ) fun r2 μ1 => bd (lpn (fun (q : Int32 × fMem) => f_X11_fitsTaste_L7 v0 v1 q.1 q.2) fuel ((1 : Int32), μ1)) fun t13 q14 => (fun (x15 : Int32) (μ16 : fMem) => if t13 = 0 then gd (bl (1 : Int32)) (some ((1 : Int32), μ16)) else gd (bl (0 : Int32)) (some ((0 : Int32), μ16))) q14.1 q14.2
def rm_X11_fitsTaste : Room := { frames := 9, cells := 0, slots := 0, locals := 276 }
set_option maxHeartbeats 4000000 in
set_option maxRecDepth 100000 in
theorem m_X11_fitsTaste (l : Launch) (w : fW) (hJ : fJ w) (hw : w.2.2.2 = sd 1) (v0 : Nat) (v1 : Int32) (hk0 : kd v0 = (4, 11)) (μ : fMem) {r : Int32} {μr : fMem} (h : f_X11_fitsTaste v0 v1 μ = some (r, μr)) : Met l yX11_fitsTaste (.code yX11_fitsTaste cX11_fitsTaste 3 (some .boolean) :: gw) rm_X11_fitsTaste (fPc w [.ref (w.2.2.1 v0), .int v1] μ) (fQi w r μr) 0 0 (fA w) := by
  refine met_of hJ (by decide) ?_ (Nat.le_of_ble_eq_true rfl)
  generalize ([.ref (w.2.2.1 v0), .int v1] : List Value).toArray = args
  intro p e s m below meth c ls C hr hP hl hS
  obtain ⟨hx, hb, hml, hown, hts, hK, -, hlk, hT⟩ := id C
  have hl : lv_has ls 3 [(0, .ref (w.2.2.1 v0)), (1, .int v1)] := hl
  unfold f_X11_fitsTaste at h
  refine lv_aload_n hx hb dX11_fitsTaste_0 rfl (lv_at hl 0 rfl) ?_
  refine lv_iconst (v := (1)) hx hb dX11_fitsTaste_1 (by decide) ?_
  obtain ⟨r2, μ1, h3, h⟩ := bd_ok h
  refine go_v (callV_run (As := [.int (1 : Int32)]) (rest := []) C hl hP (hS.wide hJ).2.1 (iw hw (fi_11 hk0)) hk0 (m_X11_starts l w hJ hw v0 (1 : Int32) hk0 μ h3) mv_X11_334 ⟨rfl, rfl, by decide, by decide⟩ rfl rfl (Nat.le_of_ble_eq_true rfl) ⟨Nat.zero_le _, Nat.zero_le _⟩ dX11_fitsTaste_2) hS (fun H locs hP hS => ?_)
  refine lv_iconst (v := (1)) hx hb dX11_fitsTaste_5 (by decide) ?_
  refine lv_istore_n (lv' := [(2, .int (1 : Int32)), (0, .ref (w.2.2.1 v0)), (1, .int v1)]) hx hb dX11_fitsTaste_6 rfl hl (by decide) rfl (fun ls hl => ?_)
  obtain ⟨t13, q14, h17, h⟩ := bd_ok h
  refine lpn_ind (b := (fun (q : Int32 × fMem) => f_X11_fitsTaste_L7 v0 v1 q.1 q.2)) (P := fun (q : Int32 × fMem) => WW p l e rm_X11_fitsTaste s m args below meth c (MQ below (fQi w r μr) args s 0 0 (fA w)) w q.2 3 7 [] [(0, .ref (w.2.2.1 v0)), (1, .int v1), (2, .int q.1)]) (K := fun t (q : Int32 × fMem) => (t = 0 → WW p l e rm_X11_fitsTaste s m args below meth c (MQ below (fQi w r μr) args s 0 0 (fA w)) w q.2 3 33 [] []) ∧ (t = 1 → WW p l e rm_X11_fitsTaste s m args below meth c (MQ below (fQi w r μr) args s 0 0 (fA w)) w q.2 3 25 [] [])) ?_ fuel ((1 : Int32), μ1) t13 q14 h17 ?_ _ _ _ hP hS (lv_sub hl [1, 2, 0] rfl)
  · intro q tz7 sz7 h hP0_7 hK0_7 H locs ls hP hS hl
    obtain ⟨v2, μ⟩ := q
    have hP : fP w μ H := hP
    have hl : lv_has ls 3 [(0, .ref (w.2.2.1 v0)), (1, .int v1), (2, .int v2)] := hl
    have h : f_X11_fitsTaste_L7 v0 v1 v2 μ = some (tz7, sz7) := h
    unfold f_X11_fitsTaste_L7 at h
    refine lv_iload_n hx hb dX11_fitsTaste_7 rfl (lv_at hl 2 rfl) ?_
    refine lv_iload_n hx hb dX11_fitsTaste_8 rfl (lv_at hl 1 rfl) ?_
    refine lv_icmp_gt (tgt := 33) hx hb dX11_fitsTaste_9 (by decide) (fun c4 => ?_) (fun c4 => ?_)
    · replace h := if_t c4 h
      obtain ⟨rfl, rfl⟩ := leaf h
      exact ((hK0_7 0 rfl).1 rfl) _ _ _ hP hS (lv_sub hl [] rfl)
    · replace h := if_f c4 h
      refine lv_aload_n hx hb dX11_fitsTaste_12 rfl (lv_at hl 0 rfl) ?_
      refine lv_iconst (v := (1)) hx hb dX11_fitsTaste_13 (by decide) ?_
      obtain ⟨r6, μ5, h7, h⟩ := bd_ok h
      refine go_v (callV_run (As := [.int (1 : Int32)]) (rest := []) C hl hP (hS.wide hJ).2.1 (iw hw (fi_11 hk0)) hk0 (m_X11_passes l w hJ hw v0 (1 : Int32) hk0 μ h7) mv_X11_409 ⟨rfl, rfl, by decide, by decide⟩ rfl rfl (Nat.le_of_ble_eq_true rfl) ⟨Nat.zero_le _, Nat.zero_le _⟩ dX11_fitsTaste_14) hS (fun H locs hP hS => ?_)
      refine lv_aload_n hx hb dX11_fitsTaste_17 rfl (lv_at hl 0 rfl) ?_
      refine lv_iload_n hx hb dX11_fitsTaste_18 rfl (lv_at hl 2 rfl) ?_
      obtain ⟨r9, μ8, h10, h⟩ := bd_ok h
      refine go_i (callV_run (As := [.int v2]) (rest := []) C hl hP (hS.wide hJ).2.1 (iw hw (fi_11 hk0)) hk0 (m_X11_isSo l w hJ hw v0 v2 hk0 μ5 h10) mv_X11_479 ⟨rfl, rfl, by decide, by decide⟩ rfl rfl (Nat.le_of_ble_eq_true rfl) ⟨Nat.zero_le _, Nat.zero_le _⟩ dX11_fitsTaste_19) hS (fun H locs hP hS => ?_)
      refine lv_if_ne (tgt := 27) hx hb dX11_fitsTaste_22 (by decide) (fun c11 => ?_) (fun c11 => ?_)
      · replace h := if_f c11 h
        obtain ⟨x12, ex12⟩ : ∃ y : Int32, y = (v2 + (1 : Int32)) := ⟨_, rfl⟩
        replace h := vl_ok ex12 h
        refine lv_iinc (v := x12) (lv' := [(2, .int x12), (0, .ref (w.2.2.1 v0)), (1, .int v1)]) hx hb dX11_fitsTaste_27 hl (k := 2) rfl (by rw [ex12]; rfl) (by decide) rfl (fun ls hl => ?_)
        refine lv_goto (tgt := 7) hx hb dX11_fitsTaste_30 (by decide) ?_
        obtain ⟨rfl, rfl⟩ := leaf h
        exact hP0_7 rfl _ _ _ hP hS (lv_sub hl [1, 2, 0] rfl)
      · replace h := if_t c11 h
        obtain ⟨rfl, rfl⟩ := leaf h
        exact ((hK0_7 1 rfl).2 rfl) _ _ _ hP hS (lv_sub hl [] rfl)
  · obtain ⟨x15, μ16⟩ := q14
    try dsimp only at h
    refine ⟨fun ht => ?_, fun ht => ?_⟩
    · intro H locs ls hP hS hl
      have hP : fP w μ16 H := hP
      have hl : lv_has ls 3 [] := hl
      replace h := if_t ht h
      refine lv_iconst (v := (1)) hx hb dX11_fitsTaste_33 (by decide) ?_
      exact r_zret C hr hP hS h dX11_fitsTaste_34
    · intro H locs ls hP hS hl
      have hP : fP w μ16 H := hP
      have hl : lv_has ls 3 [] := hl
      replace h := if_f (by rw [ht]; decide) h
      refine lv_iconst (v := (0)) hx hb dX11_fitsTaste_25 (by decide) ?_
      exact r_zret C hr hP hS h dX11_fitsTaste_26

