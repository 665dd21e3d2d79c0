def f_X1_put_L20 (v0 : Nat) (v1 : Int32) (v2 : Int32) (t0 : Int32) (v4 : Int32) (μ : fMem) : Option (Nat × (Int32 × fMem)) :=
  if (μ.1 v0 4) ≤ v4 then some (1, (v4, μ)) else gd (ixo v4 6) (gd (ixo v2 6) (gd (ixo ((v1 * (6 : Int32)) + v4) 24) (gd (ixo v2 6) (gd (ixo v2 6) (vl (sI μ ((v0 + 28) + 1 + (Int32.toNatClampNeg v4)) (Int32.toNatClampNeg v2) ((μ.1 ((v0 + 28) + 1 + (Int32.toNatClampNeg v4)) (Int32.toNatClampNeg v2)) + (μ.1 ((v0 + 3) + 1 + (Int32.toNatClampNeg ((v1 * (6 : Int32)) + v4))) (Int32.toNatClampNeg v2)))) fun μ7 => gd (ixo (v1 + (1 : Int32)) 5) (if t0 = 0 then gd (ixo v1 5) (gd (ixo v4 6) (gd (ixo v4 6) (vl (sI μ7 ((v0 + 35) + 1 + (Int32.toNatClampNeg (v1 + (1 : Int32)))) (Int32.toNatClampNeg v4) (μ7.1 ((v0 + 35) + 1 + (Int32.toNatClampNeg v1)) (Int32.toNatClampNeg v4))) fun μ13 => vl (v4 + (1 : Int32)) fun x15 => some (0, (x15, μ13))))) else gd (ixo v1 5) (gd (ixo v4 6) (gd (ixo v4 6) (gd (ixo v2 6) (gd (ixo v4 6) (vl (sI μ7 ((v0 + 35) + 1 + (Int32.toNatClampNeg (v1 + (1 : Int32)))) (Int32.toNatClampNeg v4) (imx (μ7.1 ((v0 + 35) + 1 + (Int32.toNatClampNeg v1)) (Int32.toNatClampNeg v4)) (μ7.1 ((v0 + 28) + 1 + (Int32.toNatClampNeg v4)) (Int32.toNatClampNeg v2)))) fun μ20 => vl (v4 + (1 : Int32)) fun x22 => some (0, (x22, μ20)))))))))))))
def f_X1_put_j16 (v0 : Nat) (v1 : Int32) (v2 : Int32) (t0 : Int32) (μ : fMem) : Option (Unit × fMem) :=
  bd (lpn (fun (q : Int32 × fMem) => f_X1_put_L20 v0 v1 v2 t0 q.1 q.2) fuel ((0 : Int32), μ)) fun t23 q24 => (fun (x25 : Int32) (μ26 : fMem) => some ((), μ26)) q24.1 q24.2
def f_X1_put (v0 : Nat) (v1 : Int32) (v2 : Int32) (μ : fMem) : Option (Unit × fMem) :=
  if ((μ.1 v0 5) &&& (shl (1 : Int32) v2)) = 0 then f_X1_put_j16 v0 v1 v2 (1 : Int32) μ else f_X1_put_j16 v0 v1 v2 (0 : Int32) μ
def rm_X1_put : Room := { frames := 1, cells := 0, slots := 0, locals := 80 }
set_option maxHeartbeats 4000000 in
set_option maxRecDepth 100000 in
theorem m_X1_put (l : Launch) (w : fW) (hJ : fJ w) (hw : w.2.2.2 = sd 0) (v0 : Nat) (v1 : Int32) (v2 : Int32) (hk0 : kd v0 = (4, 1)) (μ : fMem) {r : Unit} {μr : fMem} (h : f_X1_put v0 v1 v2 μ = some (r, μr)) : Met l yX1_put (.code yX1_put cX1_put 5 none :: gw) rm_X1_put (fPc w [.ref (w.2.2.1 v0), .int v1, .int v2] μ) (fQv w μr) 0 0 (fA w) := by
  refine met_of hJ (by decide) ?_ (Nat.le_of_ble_eq_true rfl)
  generalize ([.ref (w.2.2.1 v0), .int v1, .int v2] : List Value).toArray = args
  intro p e s m below meth c ls C hr hP hl hS
  obtain ⟨hx, hb, hml, hown, hts, hK, -, hlk, hT⟩ := id C
  have hl : lv_has ls 5 [(0, .ref (w.2.2.1 v0)), (1, .int v1), (2, .int v2)] := hl
  unfold f_X1_put at h
  have J16 : ∀ (t0 : Int32) (μ : fMem), f_X1_put_j16 v0 v1 v2 t0 μ = some (r, μr) → WW p l e rm_X1_put s m args below meth c (MQ below (fQv w μr) args s 0 0 (fA w)) w μ 5 16 [.int t0] [(0, .ref (w.2.2.1 v0)), (1, .int v1), (2, .int v2)] := by
    intro t0 μ  h H locs ls hP hS hl
    unfold f_X1_put_j16 at h
    refine lv_istore_n (lv' := [(3, .int t0), (0, .ref (w.2.2.1 v0)), (1, .int v1), (2, .int v2)]) hx hb dX1_put_16 rfl hl (by decide) rfl (fun ls hl => ?_)
    refine lv_iconst (v := (0)) hx hb dX1_put_17 (by decide) ?_
    refine lv_istore (lv' := [(4, .int (0 : Int32)), (3, .int t0), (0, .ref (w.2.2.1 v0)), (1, .int v1), (2, .int v2)]) hx hb dX1_put_18 hl (by decide) rfl (fun ls hl => ?_)
    obtain ⟨t23, q24, h27, h⟩ := bd_ok h
    refine lpn_ind (b := (fun (q : Int32 × fMem) => f_X1_put_L20 v0 v1 v2 t0 q.1 q.2)) (P := fun (q : Int32 × fMem) => WW p l e rm_X1_put s m args below meth c (MQ below (fQv w μr) args s 0 0 (fA w)) w q.2 5 20 [] [(0, .ref (w.2.2.1 v0)), (1, .int v1), (2, .int v2), (3, .int t0), (4, .int q.1)]) (K := fun _ (q : Int32 × fMem) => WW p l e rm_X1_put s m args below meth c (MQ below (fQv w μr) args s 0 0 (fA w)) w q.2 5 109 [] []) ?_ fuel ((0 : Int32), μ) t23 q24 h27 ?_ _ _ _ hP hS (lv_sub hl [2, 3, 4, 1, 0] rfl)
    · intro q tz20 sz20 h hP0_20 hK0_20 H locs ls hP hS hl
      obtain ⟨v4, μ⟩ := q
      have hP : fP w μ H := hP
      have hl : lv_has ls 5 [(0, .ref (w.2.2.1 v0)), (1, .int v1), (2, .int v2), (3, .int t0), (4, .int v4)] := hl
      have h : f_X1_put_L20 v0 v1 v2 t0 v4 μ = some (tz20, sz20) := h
      unfold f_X1_put_L20 at h
      refine lv_iload hx hb dX1_put_20 (lv_at hl 4 rfl) ?_
      refine lv_aload_n hx hb dX1_put_22 rfl (lv_at hl 0 rfl) ?_
      refine r_getI C hP (iw hw (fi_1 hk0)) hk0 fl_X1_25 (Or.inl rfl) dX1_put_23 ?_
      refine lv_icmp_ge (tgt := 109) hx hb dX1_put_26 (by decide) (fun c2 => ?_) (fun c2 => ?_)
      · replace h := if_t c2 h
        obtain ⟨rfl, rfl⟩ := leaf h
        exact (hK0_20 0 rfl) _ _ _ hP hS (lv_sub hl [] rfl)
      · replace h := if_f c2 h
        refine lv_aload_n hx hb dX1_put_29 rfl (lv_at hl 0 rfl) ?_
        refine r_getF (off := 28) C hP (iw hw (fi_1 hk0)) hk0 fl_X1_39 rfl rfl (zw hw) dX1_put_30 ?_
        refine lv_iload hx hb dX1_put_33 (lv_at hl 4 rfl) ?_
        obtain ⟨g3, h⟩ := gd_ok h
        refine r_aald C hP (iw hw (ff_1_8 hk0).2) (ff_1_8 hk0).1 g3 dX1_put_35 ?_
        refine lv_iload_n hx hb dX1_put_36 rfl (lv_at hl 2 rfl) ?_
        refine lv_dup2_11 hx hb dX1_put_37 rfl rfl ?_
        obtain ⟨g4, h⟩ := gd_ok h
        refine r_iald C hP (iw hw (fr_row (ff_1_8 hk0).1 (ixlt g3)).2) (rowkd (fr_row (ff_1_8 hk0).1 (ixlt g3)).1 (f2_1_8 hk0)) g4 dX1_put_38 ?_
        refine lv_aload_n hx hb dX1_put_39 rfl (lv_at hl 0 rfl) ?_
        refine r_getF (off := 3) C hP (iw hw (fi_1 hk0)) hk0 fl_X1_36 rfl rfl (zw hw) dX1_put_40 ?_
        refine lv_iload_n hx hb dX1_put_43 rfl (lv_at hl 1 rfl) ?_
        refine lv_bipush (v := (6)) hx hb dX1_put_44 (by decide) ?_
        refine lv_imul hx hb dX1_put_46 ?_
        refine lv_iload hx hb dX1_put_47 (lv_at hl 4 rfl) ?_
        refine lv_iadd hx hb dX1_put_49 ?_
        obtain ⟨g5, h⟩ := gd_ok h
        refine r_aald C hP (iw hw (ff_1_7 hk0).2) (ff_1_7 hk0).1 g5 dX1_put_50 ?_
        refine lv_iload_n hx hb dX1_put_51 rfl (lv_at hl 2 rfl) ?_
        obtain ⟨g6, h⟩ := gd_ok h
        refine r_iald C hP (iw hw (fr_row (ff_1_7 hk0).1 (ixlt g5)).2) (rowkd (fr_row (ff_1_7 hk0).1 (ixlt g5)).1 (f2_1_7 hk0)) g6 dX1_put_52 ?_
        refine lv_iadd hx hb dX1_put_53 ?_
        obtain ⟨g8, h⟩ := gd_ok h
        refine r_iast C hP hS (iw hw (fr_row (ff_1_8 hk0).1 (ixlt g3)).2) (rowkd (fr_row (ff_1_8 hk0).1 (ixlt g3)).1 (f2_1_8 hk0)) g8 dX1_put_54 (fun H locs hP hS => ?_)
        obtain ⟨μ7, eμ7, h⟩ := vl_ex h
        have hP : fP w μ7 H := by rw [eμ7]; exact hP
        refine lv_aload_n hx hb dX1_put_55 rfl (lv_at hl 0 rfl) ?_
        refine r_getF (off := 35) C hP (iw hw (fi_1 hk0)) hk0 fl_X1_42 rfl rfl (zw hw) dX1_put_56 ?_
        refine lv_iload_n hx hb dX1_put_59 rfl (lv_at hl 1 rfl) ?_
        refine lv_iconst (v := (1)) hx hb dX1_put_60 (by decide) ?_
        refine lv_iadd hx hb dX1_put_61 ?_
        obtain ⟨g9, h⟩ := gd_ok h
        refine r_aald C hP (iw hw (ff_1_9 hk0).2) (ff_1_9 hk0).1 g9 dX1_put_62 ?_
        refine lv_iload hx hb dX1_put_63 (lv_at hl 4 rfl) ?_
        refine lv_iload_n hx hb dX1_put_65 rfl (lv_at hl 3 rfl) ?_
        refine lv_if_eq (tgt := 93) hx hb dX1_put_66 (by decide) (fun c10 => ?_) (fun c10 => ?_)
        · replace h := if_t c10 h
          refine lv_aload_n hx hb dX1_put_93 rfl (lv_at hl 0 rfl) ?_
          refine r_getF (off := 35) C hP (iw hw (fi_1 hk0)) hk0 fl_X1_42 rfl rfl (zw hw) dX1_put_94 ?_
          refine lv_iload_n hx hb dX1_put_97 rfl (lv_at hl 1 rfl) ?_
          obtain ⟨g11, h⟩ := gd_ok h
          refine r_aald C hP (iw hw (ff_1_9 hk0).2) (ff_1_9 hk0).1 g11 dX1_put_98 ?_
          refine lv_iload hx hb dX1_put_99 (lv_at hl 4 rfl) ?_
          obtain ⟨g12, h⟩ := gd_ok h
          refine r_iald C hP (iw hw (fr_row (ff_1_9 hk0).1 (ixlt g11)).2) (rowkd (fr_row (ff_1_9 hk0).1 (ixlt g11)).1 (f2_1_9 hk0)) g12 dX1_put_101 ?_
          obtain ⟨g14, h⟩ := gd_ok h
          refine r_iast C hP hS (iw hw (fr_row (ff_1_9 hk0).1 (ixlt g9)).2) (rowkd (fr_row (ff_1_9 hk0).1 (ixlt g9)).1 (f2_1_9 hk0)) g14 dX1_put_102 (fun H locs hP hS => ?_)
          obtain ⟨μ13, eμ13, h⟩ := vl_ex h
          have hP : fP w μ13 H := by rw [eμ13]; exact hP
          obtain ⟨x15, ex15⟩ : ∃ y : Int32, y = (v4 + (1 : Int32)) := ⟨_, rfl⟩
          replace h := vl_ok ex15 h
          refine lv_iinc (v := x15) (lv' := [(4, .int x15), (0, .ref (w.2.2.1 v0)), (1, .int v1), (2, .int v2), (3, .int t0)]) hx hb dX1_put_103 hl (k := 4) rfl (by rw [ex15]; rfl) (by decide) rfl (fun ls hl => ?_)
          refine lv_goto (tgt := 20) hx hb dX1_put_106 (by decide) ?_
          obtain ⟨rfl, rfl⟩ := leaf h
          exact hP0_20 rfl _ _ _ hP hS (lv_sub hl [1, 2, 3, 4, 0] rfl)
        · replace h := if_f c10 h
          refine lv_aload_n hx hb dX1_put_69 rfl (lv_at hl 0 rfl) ?_
          refine r_getF (off := 35) C hP (iw hw (fi_1 hk0)) hk0 fl_X1_42 rfl rfl (zw hw) dX1_put_70 ?_
          refine lv_iload_n hx hb dX1_put_73 rfl (lv_at hl 1 rfl) ?_
          obtain ⟨g16, h⟩ := gd_ok h
          refine r_aald C hP (iw hw (ff_1_9 hk0).2) (ff_1_9 hk0).1 g16 dX1_put_74 ?_
          refine lv_iload hx hb dX1_put_75 (lv_at hl 4 rfl) ?_
          obtain ⟨g17, h⟩ := gd_ok h
          refine r_iald C hP (iw hw (fr_row (ff_1_9 hk0).1 (ixlt g16)).2) (rowkd (fr_row (ff_1_9 hk0).1 (ixlt g16)).1 (f2_1_9 hk0)) g17 dX1_put_77 ?_
          refine lv_aload_n hx hb dX1_put_78 rfl (lv_at hl 0 rfl) ?_
          refine r_getF (off := 28) C hP (iw hw (fi_1 hk0)) hk0 fl_X1_39 rfl rfl (zw hw) dX1_put_79 ?_
          refine lv_iload hx hb dX1_put_82 (lv_at hl 4 rfl) ?_
          obtain ⟨g18, h⟩ := gd_ok h
          refine r_aald C hP (iw hw (ff_1_8 hk0).2) (ff_1_8 hk0).1 g18 dX1_put_84 ?_
          refine lv_iload_n hx hb dX1_put_85 rfl (lv_at hl 2 rfl) ?_
          obtain ⟨g19, h⟩ := gd_ok h
          refine r_iald C hP (iw hw (fr_row (ff_1_8 hk0).1 (ixlt g18)).2) (rowkd (fr_row (ff_1_8 hk0).1 (ixlt g18)).1 (f2_1_8 hk0)) g19 dX1_put_86 ?_
          refine b_mmax (rest := [.int v4, .ref (w.2.2.1 ((v0 + 35) + 1 + (Int32.toNatClampNeg (v1 + (1 : Int32)))))]) C hl mm_X1_87 (by decide) (Nat.le_of_ble_eq_true rfl) dX1_put_87 ?_
          refine lv_goto (tgt := 102) hx hb dX1_put_90 (by decide) ?_
          obtain ⟨g21, h⟩ := gd_ok h
          refine r_iast C hP hS (iw hw (fr_row (ff_1_9 hk0).1 (ixlt g9)).2) (rowkd (fr_row (ff_1_9 hk0).1 (ixlt g9)).1 (f2_1_9 hk0)) g21 dX1_put_102 (fun H locs hP hS => ?_)
          obtain ⟨μ20, eμ20, h⟩ := vl_ex h
          have hP : fP w μ20 H := by rw [eμ20]; exact hP
          obtain ⟨x22, ex22⟩ : ∃ y : Int32, y = (v4 + (1 : Int32)) := ⟨_, rfl⟩
          replace h := vl_ok ex22 h
          refine lv_iinc (v := x22) (lv' := [(4, .int x22), (0, .ref (w.2.2.1 v0)), (1, .int v1), (2, .int v2), (3, .int t0)]) hx hb dX1_put_103 hl (k := 4) rfl (by rw [ex22]; rfl) (by decide) rfl (fun ls hl => ?_)
          refine lv_goto (tgt := 20) hx hb dX1_put_106 (by decide) ?_
          obtain ⟨rfl, rfl⟩ := leaf h
          exact hP0_20 rfl _ _ _ hP hS (lv_sub hl [1, 2, 3, 4, 0] rfl)
    · obtain ⟨x25, μ26⟩ := q24
      intro H locs ls hP hS hl
      have hP : fP w μ26 H := hP
      have hl : lv_has ls 5 [] := hl
      try dsimp only at h
      exact r_vret C hr hP hS h dX1_put_109
  refine lv_aload_n hx hb dX1_put_0 rfl (lv_at hl 0 rfl) ?_
  refine r_getI C hP (iw hw (fi_1 hk0)) hk0 fl_X1_28 (Or.inl rfl) dX1_put_1 ?_
  refine lv_iconst (v := (1)) hx hb dX1_put_4 (by decide) ?_
  refine lv_iload_n hx hb dX1_put_5 rfl (lv_at hl 2 rfl) ?_
  refine r_ishl hx hb dX1_put_6 ?_
  refine lv_iand hx hb dX1_put_7 ?_
  refine lv_if_ne (tgt := 15) hx hb dX1_put_8 (by decide) (fun c1 => ?_) (fun c1 => ?_)
  · replace h := if_f c1 h
    refine lv_iconst (v := (0)) hx hb dX1_put_15 (by decide) ?_
    exact J16 (0 : Int32) μ  h _ _ _ hP hS (lv_sub hl [0, 1, 2] rfl)
  · replace h := if_t c1 h
    refine lv_iconst (v := (1)) hx hb dX1_put_11 (by decide) ?_
    refine lv_goto (tgt := 16) hx hb dX1_put_12 (by decide) ?_
    exact J16 (1 : Int32) μ  h _ _ _ hP hS (lv_sub hl [0, 1, 2] rfl)

def f_X1_hangFrom_L50 (F_X1_hangFrom : Nat → Int32 → fMem → Option (Unit × fMem)) (v0 : Nat) (v1 : Int32) (v2 : Int32) (v3 : Int32) (μ : fMem) : Option (Nat × (Int32 × fMem)) :=
  if (μ.1 v0 4) ≤ v3 then some (1, (v3, μ)) else gd (ixo v3 6) (gd (ixo v2 6) (gd (ixo ((v1 * (6 : Int32)) + v3) 24) (gd (ixo v2 6) (gd (ixo v2 6) (vl (sI μ ((v0 + 28) + 1 + (Int32.toNatClampNeg v3)) (Int32.toNatClampNeg v2) ((μ.1 ((v0 + 28) + 1 + (Int32.toNatClampNeg v3)) (Int32.toNatClampNeg v2)) - (μ.1 ((v0 + 3) + 1 + (Int32.toNatClampNeg ((v1 * (6 : Int32)) + v3))) (Int32.toNatClampNeg v2)))) fun μ17 => vl (v3 + (1 : Int32)) fun x19 => some (0, (x19, μ17)))))))
def f_X1_hangFrom_L20 (F_X1_hangFrom : Nat → Int32 → fMem → Option (Unit × fMem)) (v0 : Nat) (v1 : Int32) (v2 : Int32) (μ : fMem) : Option (Nat × (Int32 × fMem)) :=
  if (μ.1 v0 3) ≤ v2 then some (1, (v2, μ)) else gd (ixo v1 4) (vl (sI μ (v0 + 2) (Int32.toNatClampNeg v1) v2) fun μ4 => bd (f_X1_put v0 v1 v2 μ4) fun r7 μ6 => bd (F_X1_hangFrom v0 (v1 + (1 : Int32)) μ6) fun r10 μ9 => bd (lpn (fun (q : Int32 × fMem) => f_X1_hangFrom_L50 F_X1_hangFrom v0 v1 v2 q.1 q.2) fuel ((0 : Int32), μ9)) fun t20 q21 => (fun (x22 : Int32) (μ23 : fMem) => vl (v2 + (1 : Int32)) fun x24 => some (0, (x24, μ23))) q21.1 q21.2)
def f_X1_hangFrom_j13 (F_X1_hangFrom : Nat → Int32 → fMem → Option (Unit × fMem)) (v0 : Nat) (μ : fMem) : Option (Unit × fMem) :=
  bd (f_X1_compare v0 μ) fun r32 μ31 => some ((), μ31)
def f_X1_hangFrom_b (F_X1_hangFrom : Nat → Int32 → fMem → Option (Unit × fMem)) (v0 : Nat) (v1 : Int32) (μ : fMem) : Option (Unit × fMem) :=
  if (μ.1 v0 2) ≤ v1 then f_X1_hangFrom_j13 F_X1_hangFrom v0 μ else if v1 < (4 : Int32) then bd (lpn (fun (q : Int32 × fMem) => f_X1_hangFrom_L20 F_X1_hangFrom v0 v1 q.1 q.2) fuel ((0 : Int32), μ)) fun t26 q27 => (fun (x28 : Int32) (μ29 : fMem) => some ((), μ29)) q27.1 q27.2 else f_X1_hangFrom_j13 F_X1_hangFrom v0 μ
set_option maxHeartbeats 4000000 in
set_option maxRecDepth 100000 in
theorem mb_X1_hangFrom (l : Launch) (w : fW) (hJ : fJ w) (hw : w.2.2.2 = sd 0) (R : Room) (hR : 2 ≤ R.frames ∧ 104 ≤ R.locals) {F_X1_hangFrom : Nat → Int32 → fMem → Option (Unit × fMem)} {R_X1_hangFrom : Room} (hF_X1_hangFrom : ∀ (v0 : Nat) (v1 : Int32) (_ : kd v0 = (4, 1)) (μ : fMem) (r : Unit) (μr : fMem), F_X1_hangFrom v0 v1 μ = some (r, μr) → Met l yX1_hangFrom (.code yX1_hangFrom cX1_hangFrom 4 none :: gw) R_X1_hangFrom (fPc w [.ref (w.2.2.1 v0), .int v1] μ) (fQv w μr) 0 0 (fA w)) (hR_X1_hangFrom : rmo R R_X1_hangFrom 4) (v0 : Nat) (v1 : Int32) (hk0 : kd v0 = (4, 1)) (μ : fMem) {r : Unit} {μr : fMem} (h : f_X1_hangFrom_b F_X1_hangFrom v0 v1 μ = some (r, μr)) : Met l yX1_hangFrom (.code yX1_hangFrom cX1_hangFrom 4 none :: gw) R (fPc w [.ref (w.2.2.1 v0), .int v1] μ) (fQv w μr) 0 0 (fA w) := by
  refine met_of hJ (by decide) ?_ (Nat.le_of_ble_eq_true rfl)
  generalize ([.ref (w.2.2.1 v0), .int v1] : List Value).toArray = args
  intro p e s m below meth c ls C hr hP hl hS
  obtain ⟨hx, hb, hml, hown, hts, hK, -, hlk, hT⟩ := id C
  have hl : lv_has ls 4 [(0, .ref (w.2.2.1 v0)), (1, .int v1)] := hl
  unfold f_X1_hangFrom_b at h
  have J13 : ∀  (μ : fMem), f_X1_hangFrom_j13 F_X1_hangFrom v0 μ = some (r, μr) → WW p l e R s m args below meth c (MQ below (fQv w μr) args s 0 0 (fA w)) w μ 4 13 [] [(0, .ref (w.2.2.1 v0))] := by
    intro  μ  h H locs ls hP hS hl
    unfold f_X1_hangFrom_j13 at h
    refine lv_aload_n hx hb dX1_hangFrom_13 rfl (lv_at hl 0 rfl) ?_
    obtain ⟨r32, μ31, h33, h⟩ := bd_ok h
    refine go_v (callV_run (As := []) (rest := []) C hl hP (hS.wide hJ).2.1 (iw hw (fi_1 hk0)) hk0 (m_X1_compare l w hJ hw v0 hk0 μ h33) mv_X1_90 ⟨rfl, rfl, Nat.le_trans (by decide) hR.1, Nat.le_trans (by decide) hR.2⟩ rfl rfl (Nat.le_of_ble_eq_true rfl) ⟨Nat.zero_le _, Nat.zero_le _⟩ dX1_hangFrom_14) hS (fun H locs hP hS => ?_)
    exact r_vret C hr hP hS h dX1_hangFrom_17
  refine lv_iload_n hx hb dX1_hangFrom_0 rfl (lv_at hl 1 rfl) ?_
  refine lv_aload_n hx hb dX1_hangFrom_1 rfl (lv_at hl 0 rfl) ?_
  refine r_getI C hP (iw hw (fi_1 hk0)) hk0 fl_X1_19 (Or.inl rfl) dX1_hangFrom_2 ?_
  refine lv_icmp_ge (tgt := 13) hx hb dX1_hangFrom_5 (by decide) (fun c1 => ?_) (fun c1 => ?_)
  · replace h := if_t c1 h
    exact J13  μ  h _ _ _ hP hS (lv_sub hl [0] rfl)
  · replace h := if_f c1 h
    refine lv_iload_n hx hb dX1_hangFrom_8 rfl (lv_at hl 1 rfl) ?_
    refine lv_iconst (v := (4)) hx hb dX1_hangFrom_9 (by decide) ?_
    refine lv_icmp_lt (tgt := 18) hx hb dX1_hangFrom_10 (by decide) (fun c2 => ?_) (fun c2 => ?_)
    · replace h := if_t c2 h
      refine lv_iconst (v := (0)) hx hb dX1_hangFrom_18 (by decide) ?_
      refine lv_istore_n (lv' := [(2, .int (0 : Int32)), (0, .ref (w.2.2.1 v0)), (1, .int v1)]) hx hb dX1_hangFrom_19 rfl hl (by decide) rfl (fun ls hl => ?_)
      obtain ⟨t26, q27, h30, h⟩ := bd_ok h
      refine lpn_ind (b := (fun (q : Int32 × fMem) => f_X1_hangFrom_L20 F_X1_hangFrom v0 v1 q.1 q.2)) (P := fun (q : Int32 × fMem) => WW p l e R s m args below meth c (MQ below (fQv w μr) args s 0 0 (fA w)) w q.2 4 20 [] [(0, .ref (w.2.2.1 v0)), (1, .int v1), (2, .int q.1)]) (K := fun _ (q : Int32 × fMem) => WW p l e R s m args below meth c (MQ below (fQv w μr) args s 0 0 (fA w)) w q.2 4 94 [] []) ?_ fuel ((0 : Int32), μ) t26 q27 h30 ?_ _ _ _ hP hS (lv_sub hl [1, 2, 0] rfl)
      · intro q tz20 sz20 h hP0_20 hK0_20 H locs ls hP hS hl
        obtain ⟨v2, μ⟩ := q
        have hP : fP w μ H := hP
        have hl : lv_has ls 4 [(0, .ref (w.2.2.1 v0)), (1, .int v1), (2, .int v2)] := hl
        have h : f_X1_hangFrom_L20 F_X1_hangFrom v0 v1 v2 μ = some (tz20, sz20) := h
        unfold f_X1_hangFrom_L20 at h
        refine lv_iload_n hx hb dX1_hangFrom_20 rfl (lv_at hl 2 rfl) ?_
        refine lv_aload_n hx hb dX1_hangFrom_21 rfl (lv_at hl 0 rfl) ?_
        refine r_getI C hP (iw hw (fi_1 hk0)) hk0 fl_X1_22 (Or.inl rfl) dX1_hangFrom_22 ?_
        refine lv_icmp_ge (tgt := 94) hx hb dX1_hangFrom_25 (by decide) (fun c3 => ?_) (fun c3 => ?_)
        · replace h := if_t c3 h
          obtain ⟨rfl, rfl⟩ := leaf h
          exact (hK0_20 0 rfl) _ _ _ hP hS (lv_sub hl [] rfl)
        · replace h := if_f c3 h
          refine lv_aload_n hx hb dX1_hangFrom_28 rfl (lv_at hl 0 rfl) ?_
          refine r_getF (off := 2) C hP (iw hw (fi_1 hk0)) hk0 fl_X1_31 rfl rfl (zw hw) dX1_hangFrom_29 ?_
          refine lv_iload_n hx hb dX1_hangFrom_32 rfl (lv_at hl 1 rfl) ?_
          refine lv_iload_n hx hb dX1_hangFrom_33 rfl (lv_at hl 2 rfl) ?_
          obtain ⟨g5, h⟩ := gd_ok h
          refine r_iast C hP hS (iw hw (ff_1_6 hk0).2) (ff_1_6 hk0).1 g5 dX1_hangFrom_34 (fun H locs hP hS => ?_)
          obtain ⟨μ4, eμ4, h⟩ := vl_ex h
          have hP : fP w μ4 H := by rw [eμ4]; exact hP
          refine lv_aload_n hx hb dX1_hangFrom_35 rfl (lv_at hl 0 rfl) ?_
          refine lv_iload_n hx hb dX1_hangFrom_36 rfl (lv_at hl 1 rfl) ?_
          refine lv_iload_n hx hb dX1_hangFrom_37 rfl (lv_at hl 2 rfl) ?_
          obtain ⟨r7, μ6, h8, h⟩ := bd_ok h
          refine go_v (callV_run (As := [.int v1, .int v2]) (rest := []) C hl hP (hS.wide hJ).2.1 (iw hw (fi_1 hk0)) hk0 (m_X1_put l w hJ hw v0 v1 v2 hk0 μ4 h8) mv_X1_93 ⟨rfl, rfl, Nat.le_trans (by decide) hR.1, Nat.le_trans (by decide) hR.2⟩ rfl rfl (Nat.le_of_ble_eq_true rfl) ⟨Nat.zero_le _, Nat.zero_le _⟩ dX1_hangFrom_38) hS (fun H locs hP hS => ?_)
          refine lv_aload_n hx hb dX1_hangFrom_41 rfl (lv_at hl 0 rfl) ?_
          refine lv_iload_n hx hb dX1_hangFrom_42 rfl (lv_at hl 1 rfl) ?_
          refine lv_iconst (v := (1)) hx hb dX1_hangFrom_43 (by decide) ?_
          refine lv_iadd hx hb dX1_hangFrom_44 ?_
          obtain ⟨r10, μ9, h11, h⟩ := bd_ok h
          refine go_v (callV_run (As := [.int (v1 + (1 : Int32))]) (rest := []) C hl hP (hS.wide hJ).2.1 (iw hw (fi_1 hk0)) hk0 (hF_X1_hangFrom v0 (v1 + (1 : Int32)) hk0 μ6 _ _ h11) mv_X1_64 hR_X1_hangFrom rfl rfl (Nat.le_of_ble_eq_true rfl) ⟨Nat.zero_le _, Nat.zero_le _⟩ dX1_hangFrom_45) hS (fun H locs hP hS => ?_)
          refine lv_iconst (v := (0)) hx hb dX1_hangFrom_48 (by decide) ?_
          refine lv_istore_n (lv' := [(3, .int (0 : Int32)), (0, .ref (w.2.2.1 v0)), (1, .int v1), (2, .int v2)]) hx hb dX1_hangFrom_49 rfl hl (by decide) rfl (fun ls hl => ?_)
          obtain ⟨t20, q21, h25, h⟩ := bd_ok h
          refine lpn_ind (b := (fun (q : Int32 × fMem) => f_X1_hangFrom_L50 F_X1_hangFrom v0 v1 v2 q.1 q.2)) (P := fun (q : Int32 × fMem) => WW p l e R s m args below meth c (MQ below (fQv w μr) args s 0 0 (fA w)) w q.2 4 50 [] [(0, .ref (w.2.2.1 v0)), (1, .int v1), (2, .int v2), (3, .int q.1)]) (K := fun _ (q : Int32 × fMem) => WW p l e R s m args below meth c (MQ below (fQv w μr) args s 0 0 (fA w)) w q.2 4 88 [] [(0, .ref (w.2.2.1 v0)), (1, .int v1), (2, .int v2)]) ?_ fuel ((0 : Int32), μ9) t20 q21 h25 ?_ _ _ _ hP hS (lv_sub hl [1, 2, 3, 0] rfl)
          · intro q tz50 sz50 h hP0_50 hK0_50 H locs ls hP hS hl
            obtain ⟨v3, μ⟩ := q
            have hP : fP w μ H := hP
            have hl : lv_has ls 4 [(0, .ref (w.2.2.1 v0)), (1, .int v1), (2, .int v2), (3, .int v3)] := hl
            have h : f_X1_hangFrom_L50 F_X1_hangFrom v0 v1 v2 v3 μ = some (tz50, sz50) := h
            unfold f_X1_hangFrom_L50 at h
            refine lv_iload_n hx hb dX1_hangFrom_50 rfl (lv_at hl 3 rfl) ?_
            refine lv_aload_n hx hb dX1_hangFrom_51 rfl (lv_at hl 0 rfl) ?_
            refine r_getI C hP (iw hw (fi_1 hk0)) hk0 fl_X1_25 (Or.inl rfl) dX1_hangFrom_52 ?_
            refine lv_icmp_ge (tgt := 88) hx hb dX1_hangFrom_55 (by decide) (fun c12 => ?_) (fun c12 => ?_)
            · replace h := if_t c12 h
              obtain ⟨rfl, rfl⟩ := leaf h
              exact (hK0_50 0 rfl) _ _ _ hP hS (lv_sub hl [0, 1, 2] rfl)
            · replace h := if_f c12 h
              refine lv_aload_n hx hb dX1_hangFrom_58 rfl (lv_at hl 0 rfl) ?_
              refine r_getF (off := 28) C hP (iw hw (fi_1 hk0)) hk0 fl_X1_39 rfl rfl (zw hw) dX1_hangFrom_59 ?_
              refine lv_iload_n hx hb dX1_hangFrom_62 rfl (lv_at hl 3 rfl) ?_
              obtain ⟨g13, h⟩ := gd_ok h
              refine r_aald C hP (iw hw (ff_1_8 hk0).2) (ff_1_8 hk0).1 g13 dX1_hangFrom_63 ?_
              refine lv_iload_n hx hb dX1_hangFrom_64 rfl (lv_at hl 2 rfl) ?_
              refine lv_dup2_11 hx hb dX1_hangFrom_65 rfl rfl ?_
              obtain ⟨g14, h⟩ := gd_ok h
              refine r_iald C hP (iw hw (fr_row (ff_1_8 hk0).1 (ixlt g13)).2) (rowkd (fr_row (ff_1_8 hk0).1 (ixlt g13)).1 (f2_1_8 hk0)) g14 dX1_hangFrom_66 ?_
              refine lv_aload_n hx hb dX1_hangFrom_67 rfl (lv_at hl 0 rfl) ?_
              refine r_getF (off := 3) C hP (iw hw (fi_1 hk0)) hk0 fl_X1_36 rfl rfl (zw hw) dX1_hangFrom_68 ?_
              refine lv_iload_n hx hb dX1_hangFrom_71 rfl (lv_at hl 1 rfl) ?_
              refine lv_bipush (v := (6)) hx hb dX1_hangFrom_72 (by decide) ?_
              refine lv_imul hx hb dX1_hangFrom_74 ?_
              refine lv_iload_n hx hb dX1_hangFrom_75 rfl (lv_at hl 3 rfl) ?_
              refine lv_iadd hx hb dX1_hangFrom_76 ?_
              obtain ⟨g15, h⟩ := gd_ok h
              refine r_aald C hP (iw hw (ff_1_7 hk0).2) (ff_1_7 hk0).1 g15 dX1_hangFrom_77 ?_
              refine lv_iload_n hx hb dX1_hangFrom_78 rfl (lv_at hl 2 rfl) ?_
              obtain ⟨g16, h⟩ := gd_ok h
              refine r_iald C hP (iw hw (fr_row (ff_1_7 hk0).1 (ixlt g15)).2) (rowkd (fr_row (ff_1_7 hk0).1 (ixlt g15)).1 (f2_1_7 hk0)) g16 dX1_hangFrom_79 ?_
              refine lv_isub hx hb dX1_hangFrom_80 ?_
              obtain ⟨g18, h⟩ := gd_ok h
              refine r_iast C hP hS (iw hw (fr_row (ff_1_8 hk0).1 (ixlt g13)).2) (rowkd (fr_row (ff_1_8 hk0).1 (ixlt g13)).1 (f2_1_8 hk0)) g18 dX1_hangFrom_81 (fun H locs hP hS => ?_)
              obtain ⟨μ17, eμ17, h⟩ := vl_ex h
              have hP : fP w μ17 H := by rw [eμ17]; exact hP
              obtain ⟨x19, ex19⟩ : ∃ y : Int32, y = (v3 + (1 : Int32)) := ⟨_, rfl⟩
              replace h := vl_ok ex19 h
              refine lv_iinc (v := x19) (lv' := [(3, .int x19), (0, .ref (w.2.2.1 v0)), (1, .int v1), (2, .int v2)]) hx hb dX1_hangFrom_82 hl (k := 3) rfl (by rw [ex19]; rfl) (by decide) rfl (fun ls hl => ?_)
              refine lv_goto (tgt := 50) hx hb dX1_hangFrom_85 (by decide) ?_
              obtain ⟨rfl, rfl⟩ := leaf h
              exact hP0_50 rfl _ _ _ hP hS (lv_sub hl [1, 2, 3, 0] rfl)
          · obtain ⟨x22, μ23⟩ := q21
            intro H locs ls hP hS hl
            have hP : fP w μ23 H := hP
            have hl : lv_has ls 4 [(0, .ref (w.2.2.1 v0)), (1, .int v1), (2, .int v2)] := hl
            try dsimp only at h
            obtain ⟨x24, ex24⟩ : ∃ y : Int32, y = (v2 + (1 : Int32)) := ⟨_, rfl⟩
            replace h := vl_ok ex24 h
            refine lv_iinc (v := x24) (lv' := [(2, .int x24), (0, .ref (w.2.2.1 v0)), (1, .int v1)]) hx hb dX1_hangFrom_88 hl (k := 2) rfl (by rw [ex24]; rfl) (by decide) rfl (fun ls hl => ?_)
            refine lv_goto (tgt := 20) hx hb dX1_hangFrom_91 (by decide) ?_
            obtain ⟨rfl, rfl⟩ := leaf h
            exact hP0_20 rfl _ _ _ hP hS (lv_sub hl [1, 2, 0] rfl)
      · obtain ⟨x28, μ29⟩ := q27
        intro H locs ls hP hS hl
        have hP : fP w μ29 H := hP
        have hl : lv_has ls 4 [] := hl
        try dsimp only at h
        exact r_vret C hr hP hS h dX1_hangFrom_94
    · replace h := if_f c2 h
      exact J13  μ  h _ _ _ hP hS (lv_sub hl [0] rfl)
def fr_X1_hangFrom : Nat → Nat → Int32 → fMem → Option (Unit × fMem)
  | 0 => fun _ _ _ => none
  | n + 1 => f_X1_hangFrom_b (fr_X1_hangFrom n)
def rr_X1_hangFrom (n : Nat) : Room := { frames := 2 + n, cells := 0, slots := 0, locals := 104 + 23 * n }
theorem mr_X1_hangFrom (l : Launch) (w : fW) (hJ : fJ w) (hw : w.2.2.2 = sd 0) : ∀ n : Nat, ∀ (v0 : Nat) (v1 : Int32) (_ : kd v0 = (4, 1)) (μ : fMem) (r : Unit) (μr : fMem), fr_X1_hangFrom n v0 v1 μ = some (r, μr) → Met l yX1_hangFrom (.code yX1_hangFrom cX1_hangFrom 4 none :: gw) (rr_X1_hangFrom n) (fPc w [.ref (w.2.2.1 v0), .int v1] μ) (fQv w μr) 0 0 (fA w)
  | 0, _, _, _, _, _, _, h => by cases h
  | n + 1, v0, v1, h0, μ, r, μr, h => mb_X1_hangFrom l w hJ hw (rr_X1_hangFrom (n + 1)) ⟨by simp only [rr_X1_hangFrom]; omega, by simp only [rr_X1_hangFrom]; omega⟩ (mr_X1_hangFrom l w hJ hw n) ⟨rfl, rfl, by simp only [rr_X1_hangFrom]; omega, by simp only [rr_X1_hangFrom]; omega⟩ v0 v1 h0 μ h
def f_X1_hangFrom (v0 : Nat) (v1 : Int32) (μ : fMem) : Option (Unit × fMem) := fr_X1_hangFrom 8 v0 v1 μ
def rm_X1_hangFrom : Room := rr_X1_hangFrom 8
theorem m_X1_hangFrom (l : Launch) (w : fW) (hJ : fJ w) (hw : w.2.2.2 = sd 0) (v0 : Nat) (v1 : Int32) (h0 : kd v0 = (4, 1)) (μ : fMem) {r : Unit} {μr : fMem} (h : f_X1_hangFrom v0 v1 μ = some (r, μr)) : Met l yX1_hangFrom (.code yX1_hangFrom cX1_hangFrom 4 none :: gw) rm_X1_hangFrom (fPc w [.ref (w.2.2.1 v0), .int v1] μ) (fQv w μr) 0 0 (fA w) := mr_X1_hangFrom l w hJ hw 8 v0 v1 h0 μ _ _ h

def f_X1_work_L52 (v0 : Nat) (v1 : Nat) (v2 : Nat) (v3 : Nat) (v4 : Int32) (μ : fMem) : Option (Nat × (Int32 × fMem)) :=
  if (μ.1 v0 4) ≤ v4 then some (1, (v4, μ)) else bd (f_X1_weigh v0 v4 v1 v2 v3 μ) fun r16 μ15 => vl (v4 + (1 : Int32)) fun x18 => some (0, (x18, μ15))
def f_X1_work (v0 : Nat) (v1 : Nat) (v2 : Nat) (v3 : Nat) (μ : fMem) : Option (Unit × fMem) :=
  bd (f_X2_told v1 (2 : Int32) μ) fun r2 μ1 => vl (sI μ1 v0 2 (imn (4 : Int32) r2)) fun μ4 => bd (f_X2_told v1 (0 : Int32) μ4) fun r6 μ5 => vl (sI μ5 v0 3 (imn (6 : Int32) r6)) fun μ8 => bd (f_X2_told v1 (3 : Int32) μ8) fun r10 μ9 => vl (sI μ9 v0 4 (imn (6 : Int32) r10)) fun μ12 => vl (sI μ12 v0 5 (μ12.1 v2 5)) fun μ13 => bd (lpn (fun (q : Int32 × fMem) => f_X1_work_L52 v0 v1 v2 v3 q.1 q.2) fuel ((0 : Int32), μ13)) fun t19 q20 => (fun (x21 : Int32) (μ22 : fMem) => vl (sI μ22 v0 1 (-1 : Int32)) fun μ23 => bd (f_X1_hangFrom v0 (0 : Int32) μ23) fun r25 μ24 => some ((), μ24)) q20.1 q20.2
def rm_X1_work : Room := { frames := 11, cells := 0, slots := 0, locals := 311 }
set_option maxHeartbeats 4000000 in
set_option maxRecDepth 100000 in
theorem m_X1_work (l : Launch) (w : fW) (hJ : fJ w) (hw : w.2.2.2 = sd 0) (v0 : Nat) (v1 : Nat) (v2 : Nat) (v3 : Nat) (hk0 : kd v0 = (4, 1)) (hk1 : kd v1 = (4, 2)) (hk2 : kd v2 = (4, 7)) (hk3 : kd v3 = (4, 0)) (μ : fMem) {r : Unit} {μr : fMem} (h : f_X1_work v0 v1 v2 v3 μ = some (r, μr)) : Met l yX1_work (.code yX1_work cX1_work 5 none :: gw) rm_X1_work (fPc w [.ref (w.2.2.1 v0), .ref (w.2.2.1 v1), .ref (w.2.2.1 v2), .ref (w.2.2.1 v3)] μ) (fQv w μr) 0 0 (fA w) := by
  refine met_of hJ (by decide) ?_ (Nat.le_of_ble_eq_true rfl)
  generalize ([.ref (w.2.2.1 v0), .ref (w.2.2.1 v1), .ref (w.2.2.1 v2), .ref (w.2.2.1 v3)] : List Value).toArray = args
  intro p e s m below meth c ls C hr hP hl hS
  obtain ⟨hx, hb, hml, hown, hts, hK, -, hlk, hT⟩ := id C
  have hl : lv_has ls 5 [(0, .ref (w.2.2.1 v0)), (1, .ref (w.2.2.1 v1)), (2, .ref (w.2.2.1 v2)), (3, .ref (w.2.2.1 v3))] := hl
  unfold f_X1_work at h
  refine lv_aload_n hx hb dX1_work_0 rfl (lv_at hl 0 rfl) ?_
  refine lv_iconst (v := (4)) hx hb dX1_work_1 (by decide) ?_
  refine lv_aload_n hx hb dX1_work_2 rfl (lv_at hl 1 rfl) ?_
  refine lv_iconst (v := (2)) hx hb dX1_work_3 (by decide) ?_
  obtain ⟨r2, μ1, h3, h⟩ := bd_ok h
  refine go_i (callV_run (As := [.int (2 : Int32)]) (rest := [.int (4 : Int32), .ref (w.2.2.1 v0)]) C hl hP (hS.wide hJ).2.1 (iw hw (fi_2 hk1)) hk1 (m_X2_told l w hJ hw v1 (2 : Int32) hk1 μ h3) mv_X1_45 ⟨rfl, rfl, by decide, by decide⟩ rfl rfl (Nat.le_of_ble_eq_true rfl) ⟨Nat.zero_le _, Nat.zero_le _⟩ dX1_work_4) hS (fun H locs hP hS => ?_)
  refine b_mmin (rest := [.ref (w.2.2.1 v0)]) C hl mm_X1_51 (by decide) (Nat.le_of_ble_eq_true rfl) dX1_work_7 ?_
  refine r_putI C hP hS (iw hw (fi_1 hk0)) hk0 fp_X1_19 rfl dX1_work_10 (fun H locs hP hS => ?_)
  obtain ⟨μ4, eμ4, h⟩ := vl_ex h
  have hP : fP w μ4 H := by rw [eμ4]; exact hP
  refine lv_aload_n hx hb dX1_work_13 rfl (lv_at hl 0 rfl) ?_
  refine lv_bipush (v := (6)) hx hb dX1_work_14 (by decide) ?_
  refine lv_aload_n hx hb dX1_work_16 rfl (lv_at hl 1 rfl) ?_
  refine lv_iconst (v := (0)) hx hb dX1_work_17 (by decide) ?_
  obtain ⟨r6, μ5, h7, h⟩ := bd_ok h
  refine go_i (callV_run (As := [.int (0 : Int32)]) (rest := [.int (6 : Int32), .ref (w.2.2.1 v0)]) C hl hP (hS.wide hJ).2.1 (iw hw (fi_2 hk1)) hk1 (m_X2_told l w hJ hw v1 (0 : Int32) hk1 μ4 h7) mv_X1_45 ⟨rfl, rfl, by decide, by decide⟩ rfl rfl (Nat.le_of_ble_eq_true rfl) ⟨Nat.zero_le _, Nat.zero_le _⟩ dX1_work_18) hS (fun H locs hP hS => ?_)
  refine b_mmin (rest := [.ref (w.2.2.1 v0)]) C hl mm_X1_51 (by decide) (Nat.le_of_ble_eq_true rfl) dX1_work_21 ?_
  refine r_putI C hP hS (iw hw (fi_1 hk0)) hk0 fp_X1_22 rfl dX1_work_24 (fun H locs hP hS => ?_)
  obtain ⟨μ8, eμ8, h⟩ := vl_ex h
  have hP : fP w μ8 H := by rw [eμ8]; exact hP
  refine lv_aload_n hx hb dX1_work_27 rfl (lv_at hl 0 rfl) ?_
  refine lv_bipush (v := (6)) hx hb dX1_work_28 (by decide) ?_
  refine lv_aload_n hx hb dX1_work_30 rfl (lv_at hl 1 rfl) ?_
  refine lv_iconst (v := (3)) hx hb dX1_work_31 (by decide) ?_
  obtain ⟨r10, μ9, h11, h⟩ := bd_ok h
  refine go_i (callV_run (As := [.int (3 : Int32)]) (rest := [.int (6 : Int32), .ref (w.2.2.1 v0)]) C hl hP (hS.wide hJ).2.1 (iw hw (fi_2 hk1)) hk1 (m_X2_told l w hJ hw v1 (3 : Int32) hk1 μ8 h11) mv_X1_45 ⟨rfl, rfl, by decide, by decide⟩ rfl rfl (Nat.le_of_ble_eq_true rfl) ⟨Nat.zero_le _, Nat.zero_le _⟩ dX1_work_32) hS (fun H locs hP hS => ?_)
  refine b_mmin (rest := [.ref (w.2.2.1 v0)]) C hl mm_X1_51 (by decide) (Nat.le_of_ble_eq_true rfl) dX1_work_35 ?_
  refine r_putI C hP hS (iw hw (fi_1 hk0)) hk0 fp_X1_25 rfl dX1_work_38 (fun H locs hP hS => ?_)
  obtain ⟨μ12, eμ12, h⟩ := vl_ex h
  have hP : fP w μ12 H := by rw [eμ12]; exact hP
  refine lv_aload_n hx hb dX1_work_41 rfl (lv_at hl 0 rfl) ?_
  refine lv_aload_n hx hb dX1_work_42 rfl (lv_at hl 2 rfl) ?_
  refine r_getI C hP (iw hw (fi_7 hk2)) hk2 fl_X1_57 (Or.inl rfl) dX1_work_43 ?_
  refine r_putI C hP hS (iw hw (fi_1 hk0)) hk0 fp_X1_28 rfl dX1_work_46 (fun H locs hP hS => ?_)
  obtain ⟨μ13, eμ13, h⟩ := vl_ex h
  have hP : fP w μ13 H := by rw [eμ13]; exact hP
  refine lv_iconst (v := (0)) hx hb dX1_work_49 (by decide) ?_
  refine lv_istore (lv' := [(4, .int (0 : Int32)), (0, .ref (w.2.2.1 v0)), (1, .ref (w.2.2.1 v1)), (2, .ref (w.2.2.1 v2)), (3, .ref (w.2.2.1 v3))]) hx hb dX1_work_50 hl (by decide) rfl (fun ls hl => ?_)
  obtain ⟨t19, q20, h27, h⟩ := bd_ok h
  refine lpn_ind (b := (fun (q : Int32 × fMem) => f_X1_work_L52 v0 v1 v2 v3 q.1 q.2)) (P := fun (q : Int32 × fMem) => WW p l e rm_X1_work s m args below meth c (MQ below (fQv w μr) args s 0 0 (fA w)) w q.2 5 52 [] [(0, .ref (w.2.2.1 v0)), (1, .ref (w.2.2.1 v1)), (2, .ref (w.2.2.1 v2)), (3, .ref (w.2.2.1 v3)), (4, .int q.1)]) (K := fun _ (q : Int32 × fMem) => WW p l e rm_X1_work s m args below meth c (MQ below (fQv w μr) args s 0 0 (fA w)) w q.2 5 76 [] [(0, .ref (w.2.2.1 v0))]) ?_ fuel ((0 : Int32), μ13) t19 q20 h27 ?_ _ _ _ hP hS (lv_sub hl [1, 2, 3, 4, 0] rfl)
  · intro q tz52 sz52 h hP0_52 hK0_52 H locs ls hP hS hl
    obtain ⟨v4, μ⟩ := q
    have hP : fP w μ H := hP
    have hl : lv_has ls 5 [(0, .ref (w.2.2.1 v0)), (1, .ref (w.2.2.1 v1)), (2, .ref (w.2.2.1 v2)), (3, .ref (w.2.2.1 v3)), (4, .int v4)] := hl
    have h : f_X1_work_L52 v0 v1 v2 v3 v4 μ = some (tz52, sz52) := h
    unfold f_X1_work_L52 at h
    refine lv_iload hx hb dX1_work_52 (lv_at hl 4 rfl) ?_
    refine lv_aload_n hx hb dX1_work_54 rfl (lv_at hl 0 rfl) ?_
    refine r_getI C hP (iw hw (fi_1 hk0)) hk0 fl_X1_25 (Or.inl rfl) dX1_work_55 ?_
    refine lv_icmp_ge (tgt := 76) hx hb dX1_work_58 (by decide) (fun c14 => ?_) (fun c14 => ?_)
    · replace h := if_t c14 h
      obtain ⟨rfl, rfl⟩ := leaf h
      exact (hK0_52 0 rfl) _ _ _ hP hS (lv_sub hl [0] rfl)
    · replace h := if_f c14 h
      refine lv_aload_n hx hb dX1_work_61 rfl (lv_at hl 0 rfl) ?_
      refine lv_iload hx hb dX1_work_62 (lv_at hl 4 rfl) ?_
      refine lv_aload_n hx hb dX1_work_64 rfl (lv_at hl 1 rfl) ?_
      refine lv_aload_n hx hb dX1_work_65 rfl (lv_at hl 2 rfl) ?_
      refine lv_aload_n hx hb dX1_work_66 rfl (lv_at hl 3 rfl) ?_
      obtain ⟨r16, μ15, h17, h⟩ := bd_ok h
      refine go_v (callV_run (As := [.int v4, .ref (w.2.2.1 v1), .ref (w.2.2.1 v2), .ref (w.2.2.1 v3)]) (rest := []) C hl hP (hS.wide hJ).2.1 (iw hw (fi_1 hk0)) hk0 (m_X1_weigh l w hJ hw v0 v4 v1 v2 v3 hk0 hk1 hk2 hk3 μ h17) mv_X1_60 ⟨rfl, rfl, by decide, by decide⟩ rfl rfl (Nat.le_of_ble_eq_true rfl) ⟨Nat.zero_le _, Nat.zero_le _⟩ dX1_work_67) hS (fun H locs hP hS => ?_)
      obtain ⟨x18, ex18⟩ : ∃ y : Int32, y = (v4 + (1 : Int32)) := ⟨_, rfl⟩
      replace h := vl_ok ex18 h
      refine lv_iinc (v := x18) (lv' := [(4, .int x18), (0, .ref (w.2.2.1 v0)), (1, .ref (w.2.2.1 v1)), (2, .ref (w.2.2.1 v2)), (3, .ref (w.2.2.1 v3))]) hx hb dX1_work_70 hl (k := 4) rfl (by rw [ex18]; rfl) (by decide) rfl (fun ls hl => ?_)
      refine lv_goto (tgt := 52) hx hb dX1_work_73 (by decide) ?_
      obtain ⟨rfl, rfl⟩ := leaf h
      exact hP0_52 rfl _ _ _ hP hS (lv_sub hl [1, 2, 3, 4, 0] rfl)
  · obtain ⟨x21, μ22⟩ := q20
    intro H locs ls hP hS hl
    have hP : fP w μ22 H := hP
    have hl : lv_has ls 5 [(0, .ref (w.2.2.1 v0))] := hl
    try dsimp only at h
    refine lv_aload_n hx hb dX1_work_76 rfl (lv_at hl 0 rfl) ?_
    refine lv_iconst (v := (-1)) hx hb dX1_work_77 (by decide) ?_
    refine r_putI C hP hS (iw hw (fi_1 hk0)) hk0 fp_X1_15 rfl dX1_work_78 (fun H locs hP hS => ?_)
    obtain ⟨μ23, eμ23, h⟩ := vl_ex h
    have hP : fP w μ23 H := by rw [eμ23]; exact hP
    refine lv_aload_n hx hb dX1_work_81 rfl (lv_at hl 0 rfl) ?_
    refine lv_iconst (v := (0)) hx hb dX1_work_82 (by decide) ?_
    obtain ⟨r25, μ24, h26, h⟩ := bd_ok h
    refine go_v (callV_run (As := [.int (0 : Int32)]) (rest := []) C hl hP (hS.wide hJ).2.1 (iw hw (fi_1 hk0)) hk0 (m_X1_hangFrom l w hJ hw v0 (0 : Int32) hk0 μ23 h26) mv_X1_64 ⟨rfl, rfl, by decide, by decide⟩ rfl rfl (Nat.le_of_ble_eq_true rfl) ⟨Nat.zero_le _, Nat.zero_le _⟩ dX1_work_83) hS (fun H locs hP hS => ?_)
    exact r_vret C hr hP hS h dX1_work_86

def f_X3_clear (v0 : Nat) (μ : fMem) : Option (Unit × fMem) :=
  vl (sI μ v0 0 (0 : Int32)) fun μ1 => vl (sI μ1 v0 1 (0 : Int32)) fun μ2 => vl (sI μ2 v0 2 (0 : Int32)) fun μ3 => some ((), μ3)
def rm_X3_clear : Room := { frames := 0, cells := 0, slots := 0, locals := 0 }
set_option maxHeartbeats 4000000 in
set_option maxRecDepth 100000 in
theorem m_X3_clear (l : Launch) (w : fW) (hJ : fJ w) (hw : w.2.2.2 = sd 0) (v0 : Nat) (hk0 : kd v0 = (4, 3)) (μ : fMem) {r : Unit} {μr : fMem} (h : f_X3_clear v0 μ = some (r, μr)) : Met l yX3_clear (.code yX3_clear cX3_clear 1 none :: gw) rm_X3_clear (fPc w [.ref (w.2.2.1 v0)] μ) (fQv w μr) 0 0 (fA w) := by
  refine met_of hJ (by decide) ?_ (Nat.le_of_ble_eq_true rfl)
  generalize ([.ref (w.2.2.1 v0)] : List Value).toArray = args
  intro p e s m below meth c ls C hr hP hl hS
  obtain ⟨hx, hb, hml, hown, hts, hK, -, hlk, hT⟩ := id C
  have hl : lv_has ls 1 [(0, .ref (w.2.2.1 v0))] := hl
  unfold f_X3_clear at h
  refine lv_aload_n hx hb dX3_clear_0 rfl (lv_at hl 0 rfl) ?_
  refine lv_iconst (v := (0)) hx hb dX3_clear_1 (by decide) ?_
  refine r_putZ C hP hS (iw hw (fi_3 hk0)) hk0 fp_X3_9 rfl (Or.inl rfl) dX3_clear_2 (fun H locs hP hS => ?_)
  obtain ⟨μ1, eμ1, h⟩ := vl_ex h
  have hP : fP w μ1 H := by rw [eμ1]; exact hP
  refine lv_aload_n hx hb dX3_clear_5 rfl (lv_at hl 0 rfl) ?_
  refine lv_iconst (v := (0)) hx hb dX3_clear_6 (by decide) ?_
  refine r_putI C hP hS (iw hw (fi_3 hk0)) hk0 fp_X3_15 rfl dX3_clear_7 (fun H locs hP hS => ?_)
  obtain ⟨μ2, eμ2, h⟩ := vl_ex h
  have hP : fP w μ2 H := by rw [eμ2]; exact hP
  refine lv_aload_n hx hb dX3_clear_10 rfl (lv_at hl 0 rfl) ?_
  refine lv_iconst (v := (0)) hx hb dX3_clear_11 (by decide) ?_
  refine r_putI C hP hS (iw hw (fi_3 hk0)) hk0 fp_X3_19 rfl dX3_clear_12 (fun H locs hP hS => ?_)
  obtain ⟨μ3, eμ3, h⟩ := vl_ex h
  have hP : fP w μ3 H := by rw [eμ3]; exact hP
  exact r_vret C hr hP hS h dX3_clear_15

def f_X2_clear (v0 : Nat) (μ : fMem) : Option (Unit × fMem) :=
  bd (f_J7_fill_53178 (v0 + 1) (0 : Int32) μ) fun r2 μ1 => bd (f_J7_fill_53178 (v0 + 7) (0 : Int32) μ1) fun r5 μ4 => vl (sI μ4 v0 1 (0 : Int32)) fun μ7 => vl (sI μ7 v0 2 (0 : Int32)) fun μ8 => bd (f_X3_clear (v0 + 16) μ8) fun r10 μ9 => bd (f_X3_clear (v0 + 20) μ9) fun r13 μ12 => bd (f_X3_clear (v0 + 24) μ12) fun r16 μ15 => some ((), μ15)
def rm_X2_clear : Room := { frames := 1, cells := 0, slots := 0, locals := 23 }
set_option maxHeartbeats 4000000 in
set_option maxRecDepth 100000 in
theorem m_X2_clear (l : Launch) (w : fW) (hJ : fJ w) (hw : w.2.2.2 = sd 0) (v0 : Nat) (hk0 : kd v0 = (4, 2)) (μ : fMem) {r : Unit} {μr : fMem} (h : f_X2_clear v0 μ = some (r, μr)) : Met l yX2_clear (.code yX2_clear cX2_clear 1 none :: gw) rm_X2_clear (fPc w [.ref (w.2.2.1 v0)] μ) (fQv w μr) 0 0 (fA w) := by
  refine met_of hJ (by decide) ?_ (Nat.le_of_ble_eq_true rfl)
  generalize ([.ref (w.2.2.1 v0)] : List Value).toArray = args
  intro p e s m below meth c ls C hr hP hl hS
  obtain ⟨hx, hb, hml, hown, hts, hK, -, hlk, hT⟩ := id C
  have hl : lv_has ls 1 [(0, .ref (w.2.2.1 v0))] := hl
  unfold f_X2_clear at h
  refine lv_aload_n hx hb dX2_clear_0 rfl (lv_at hl 0 rfl) ?_
  refine r_getF (off := 1) C hP (iw hw (fi_2 hk0)) hk0 fl_X2_9 rfl rfl (zw hw) dX2_clear_1 ?_
  refine lv_iconst (v := (0)) hx hb dX2_clear_4 (by decide) ?_
  obtain ⟨r2, μ1, h3, h⟩ := bd_ok h
  refine go_v (callS_run (As := [.ref (w.2.2.1 (v0 + 1)), .int (0 : Int32)]) (rest := []) C hl hP (hS.wide hJ).2.1 (m_J7_fill_53178 l w hJ (v0 + 1) (0 : Int32) (karr (ff_2_0 hk0).1) (iw hw (ff_2_0 hk0).2) μ h3) ms_X2_67 ⟨rfl, rfl, by decide, by decide⟩ rfl rfl (Nat.le_of_ble_eq_true rfl) ⟨Nat.zero_le _, Nat.zero_le _⟩ dX2_clear_5) hS (fun H locs hP hS => ?_)
  refine lv_aload_n hx hb dX2_clear_8 rfl (lv_at hl 0 rfl) ?_
  refine r_getF (off := 7) C hP (iw hw (fi_2 hk0)) hk0 fl_X2_27 rfl rfl (zw hw) dX2_clear_9 ?_
  refine lv_iconst (v := (0)) hx hb dX2_clear_12 (by decide) ?_
  obtain ⟨r5, μ4, h6, h⟩ := bd_ok h
  refine go_v (callS_run (As := [.ref (w.2.2.1 (v0 + 7)), .int (0 : Int32)]) (rest := []) C hl hP (hS.wide hJ).2.1 (m_J7_fill_53178 l w hJ (v0 + 7) (0 : Int32) (karr (ff_2_4 hk0).1) (iw hw (ff_2_4 hk0).2) μ1 h6) ms_X2_67 ⟨rfl, rfl, by decide, by decide⟩ rfl rfl (Nat.le_of_ble_eq_true rfl) ⟨Nat.zero_le _, Nat.zero_le _⟩ dX2_clear_13) hS (fun H locs hP hS => ?_)
  refine lv_aload_n hx hb dX2_clear_16 rfl (lv_at hl 0 rfl) ?_
  refine lv_iconst (v := (0)) hx hb dX2_clear_17 (by decide) ?_
  refine r_putI C hP hS (iw hw (fi_2 hk0)) hk0 fp_X2_15 rfl dX2_clear_18 (fun H locs hP hS => ?_)
  obtain ⟨μ7, eμ7, h⟩ := vl_ex h
  have hP : fP w μ7 H := by rw [eμ7]; exact hP
  refine lv_aload_n hx hb dX2_clear_21 rfl (lv_at hl 0 rfl) ?_
  refine lv_iconst (v := (0)) hx hb dX2_clear_22 (by decide) ?_
  refine r_putI C hP hS (iw hw (fi_2 hk0)) hk0 fp_X2_19 rfl dX2_clear_23 (fun H locs hP hS => ?_)
  obtain ⟨μ8, eμ8, h⟩ := vl_ex h
  have hP : fP w μ8 H := by rw [eμ8]; exact hP
  refine lv_aload_n hx hb dX2_clear_26 rfl (lv_at hl 0 rfl) ?_
  refine r_getF (off := 16) C hP (iw hw (fi_2 hk0)) hk0 fl_X2_57 rfl rfl (zw hw) dX2_clear_27 ?_
  obtain ⟨r10, μ9, h11, h⟩ := bd_ok h
  refine go_v (callV_run (As := []) (rest := []) C hl hP (hS.wide hJ).2.1 (iw hw (ff_2_13 hk0).2) (ff_2_13 hk0).1 (m_X3_clear l w hJ hw (v0 + 16) (ff_2_13 hk0).1 μ8 h11) mv_X2_73 ⟨rfl, rfl, by decide, by decide⟩ rfl rfl (Nat.le_of_ble_eq_true rfl) ⟨Nat.zero_le _, Nat.zero_le _⟩ dX2_clear_30) hS (fun H locs hP hS => ?_)
  refine lv_aload_n hx hb dX2_clear_33 rfl (lv_at hl 0 rfl) ?_
  refine r_getF (off := 20) C hP (iw hw (fi_2 hk0)) hk0 fl_X2_61 rfl rfl (zw hw) dX2_clear_34 ?_
  obtain ⟨r13, μ12, h14, h⟩ := bd_ok h
  refine go_v (callV_run (As := []) (rest := []) C hl hP (hS.wide hJ).2.1 (iw hw (ff_2_14 hk0).2) (ff_2_14 hk0).1 (m_X3_clear l w hJ hw (v0 + 20) (ff_2_14 hk0).1 μ9 h14) mv_X2_73 ⟨rfl, rfl, by decide, by decide⟩ rfl rfl (Nat.le_of_ble_eq_true rfl) ⟨Nat.zero_le _, Nat.zero_le _⟩ dX2_clear_37) hS (fun H locs hP hS => ?_)
  refine lv_aload_n hx hb dX2_clear_40 rfl (lv_at hl 0 rfl) ?_
  refine r_getF (off := 24) C hP (iw hw (fi_2 hk0)) hk0 fl_X2_64 rfl rfl (zw hw) dX2_clear_41 ?_
  obtain ⟨r16, μ15, h17, h⟩ := bd_ok h
  refine go_v (callV_run (As := []) (rest := []) C hl hP (hS.wide hJ).2.1 (iw hw (ff_2_15 hk0).2) (ff_2_15 hk0).1 (m_X3_clear l w hJ hw (v0 + 24) (ff_2_15 hk0).1 μ12 h17) mv_X2_73 ⟨rfl, rfl, by decide, by decide⟩ rfl rfl (Nat.le_of_ble_eq_true rfl) ⟨Nat.zero_le _, Nat.zero_le _⟩ dX2_clear_44) hS (fun H locs hP hS => ?_)
  exact r_vret C hr hP hS h dX2_clear_47

def f_X2_find_L17 (v0 : Nat) (v1 : Int32) (v2 : Int32) (v3 : Int32) (μ : fMem) : Option (Nat × (Int32 × fMem)) :=
  bd (f_X2_told v0 v1 μ) fun r4 μ3 => if r4 ≤ v3 then some (1, (v3, μ3)) else gd (ixo v1 4) (if (8 : Int32) ≤ v3 then some (1, (v3, μ3)) else gd (ixo v1 4) (gd (ixo v3 8) (if (μ3.1 ((v0 + 2) + 1 + (Int32.toNatClampNeg v1)) (Int32.toNatClampNeg v3)) = v2 then some (2, (v3, μ3)) else vl (v3 + (1 : Int32)) fun x12 => some (0, (x12, μ3)))))
def f_X2_find (v0 : Nat) (v1 : Int32) (v2 : Int32) (μ : fMem) : Option (Int32 × fMem) :=
  if v1 < 0 then some ((-1 : Int32), μ) else if v1 < (4 : Int32) then bd (lpn (fun (q : Int32 × fMem) => f_X2_find_L17 v0 v1 v2 q.1 q.2) fuel ((0 : Int32), μ)) fun t13 q14 => (fun (x15 : Int32) (μ16 : fMem) => if t13 = 0 then some ((-1 : Int32), μ16) else some (x15, μ16)) q14.1 q14.2 else some ((-1 : Int32), μ)
def rm_X2_find : Room := { frames := 1, cells := 0, slots := 0, locals := 21 }
set_option maxHeartbeats 4000000 in
set_option maxRecDepth 100000 in
theorem m_X2_find (l : Launch) (w : fW) (hJ : fJ w) (hw : w.2.2.2 = sd 0) (v0 : Nat) (v1 : Int32) (v2 : Int32) (hk0 : kd v0 = (4, 2)) (μ : fMem) {r : Int32} {μr : fMem} (h : f_X2_find v0 v1 v2 μ = some (r, μr)) : Met l yX2_find (.code yX2_find cX2_find 4 (some .int) :: gw) rm_X2_find (fPc w [.ref (w.2.2.1 v0), .int v1, .int v2] μ) (fQi w r μr) 0 0 (fA w) := by
  refine met_of hJ (by decide) ?_ (Nat.le_of_ble_eq_true rfl)
  generalize ([.ref (w.2.2.1 v0), .int v1, .int v2] : List Value).toArray = args
  intro p e s m below meth c ls C hr hP hl hS
  obtain ⟨hx, hb, hml, hown, hts, hK, -, hlk, hT⟩ := id C
  have hl : lv_has ls 4 [(0, .ref (w.2.2.1 v0)), (1, .int v1), (2, .int v2)] := hl
  unfold f_X2_find at h
  refine lv_iload_n hx hb dX2_find_0 rfl (lv_at hl 1 rfl) ?_
  refine lv_if_lt (tgt := 13) hx hb dX2_find_1 (by decide) (fun c1 => ?_) (fun c1 => ?_)
  · replace h := if_t c1 h
    refine lv_iconst (v := (-1)) hx hb dX2_find_13 (by decide) ?_
    exact r_iret C hr hP hS h dX2_find_14
  · replace h := if_f c1 h
    refine lv_iload_n hx hb dX2_find_4 rfl (lv_at hl 1 rfl) ?_
    refine lv_aload_n hx hb dX2_find_5 rfl (lv_at hl 0 rfl) ?_
    refine r_getF (off := 2) C hP (iw hw (fi_2 hk0)) hk0 fl_X2_24 rfl rfl (zw hw) dX2_find_6 ?_
    refine r_alen (v := 4) C hP (iw hw (ff_2_3 hk0).2) (Or.inr (Or.inr (Or.inr (ff_2_3 hk0).1))) (by decide) dX2_find_9 ?_
    refine lv_icmp_lt (tgt := 15) hx hb dX2_find_10 (by decide) (fun c2 => ?_) (fun c2 => ?_)
    · replace h := if_t c2 h
      refine lv_iconst (v := (0)) hx hb dX2_find_15 (by decide) ?_
      refine lv_istore_n (lv' := [(3, .int (0 : Int32)), (0, .ref (w.2.2.1 v0)), (1, .int v1), (2, .int v2)]) hx hb dX2_find_16 rfl hl (by decide) rfl (fun ls hl => ?_)
      obtain ⟨t13, q14, h17, h⟩ := bd_ok h
      refine lpn_ind (b := (fun (q : Int32 × fMem) => f_X2_find_L17 v0 v1 v2 q.1 q.2)) (P := fun (q : Int32 × fMem) => WW p l e rm_X2_find s m args below meth c (MQ below (fQi w r μr) args s 0 0 (fA w)) w q.2 4 17 [] [(0, .ref (w.2.2.1 v0)), (1, .int v1), (2, .int v2), (3, .int q.1)]) (K := fun t (q : Int32 × fMem) => (t = 0 → WW p l e rm_X2_find s m args below meth c (MQ below (fQi w r μr) args s 0 0 (fA w)) w q.2 4 57 [] []) ∧ (t = 1 → WW p l e rm_X2_find s m args below meth c (MQ below (fQi w r μr) args s 0 0 (fA w)) w q.2 4 49 [] [(3, .int q.1)])) ?_ fuel ((0 : Int32), μ) t13 q14 h17 ?_ _ _ _ hP hS (lv_sub hl [1, 2, 3, 0] rfl)
      · intro q tz17 sz17 h hP0_17 hK0_17 H locs ls hP hS hl
        obtain ⟨v3, μ⟩ := q
        have hP : fP w μ H := hP
        have hl : lv_has ls 4 [(0, .ref (w.2.2.1 v0)), (1, .int v1), (2, .int v2), (3, .int v3)] := hl
        have h : f_X2_find_L17 v0 v1 v2 v3 μ = some (tz17, sz17) := h
        unfold f_X2_find_L17 at h
        refine lv_iload_n hx hb dX2_find_17 rfl (lv_at hl 3 rfl) ?_
        refine lv_aload_n hx hb dX2_find_18 rfl (lv_at hl 0 rfl) ?_
        refine lv_iload_n hx hb dX2_find_19 rfl (lv_at hl 1 rfl) ?_
        obtain ⟨r4, μ3, h5, h⟩ := bd_ok h
        refine go_i (callV_run (As := [.int v1]) (rest := [.int v3]) C hl hP (hS.wide hJ).2.1 (iw hw (fi_2 hk0)) hk0 (m_X2_told l w hJ hw v0 v1 hk0 μ h5) mv_X2_76 ⟨rfl, rfl, by decide, by decide⟩ rfl rfl (Nat.le_of_ble_eq_true rfl) ⟨Nat.zero_le _, Nat.zero_le _⟩ dX2_find_20) hS (fun H locs hP hS => ?_)
        refine lv_icmp_ge (tgt := 57) hx hb dX2_find_23 (by decide) (fun c6 => ?_) (fun c6 => ?_)
        · replace h := if_t c6 h
          obtain ⟨rfl, rfl⟩ := leaf h
          exact ((hK0_17 0 rfl).1 rfl) _ _ _ hP hS (lv_sub hl [] rfl)
        · replace h := if_f c6 h
          refine lv_iload_n hx hb dX2_find_26 rfl (lv_at hl 3 rfl) ?_
          refine lv_aload_n hx hb dX2_find_27 rfl (lv_at hl 0 rfl) ?_
          refine r_getF (off := 2) C hP (iw hw (fi_2 hk0)) hk0 fl_X2_24 rfl rfl (zw hw) dX2_find_28 ?_
          refine lv_iload_n hx hb dX2_find_31 rfl (lv_at hl 1 rfl) ?_
          obtain ⟨g7, h⟩ := gd_ok h
          refine r_aald C hP (iw hw (ff_2_3 hk0).2) (ff_2_3 hk0).1 g7 dX2_find_32 ?_
          refine r_alen (v := 8) C hP (iw hw (fr_row (ff_2_3 hk0).1 (ixlt g7)).2) (Or.inl (rowkd (fr_row (ff_2_3 hk0).1 (ixlt g7)).1 (f2_2_3 hk0))) (by decide) dX2_find_33 ?_
          refine lv_icmp_ge (tgt := 57) hx hb dX2_find_34 (by decide) (fun c8 => ?_) (fun c8 => ?_)
          · replace h := if_t c8 h
            obtain ⟨rfl, rfl⟩ := leaf h
            exact ((hK0_17 0 rfl).1 rfl) _ _ _ hP hS (lv_sub hl [] rfl)
          · replace h := if_f c8 h
            refine lv_aload_n hx hb dX2_find_37 rfl (lv_at hl 0 rfl) ?_
            refine r_getF (off := 2) C hP (iw hw (fi_2 hk0)) hk0 fl_X2_24 rfl rfl (zw hw) dX2_find_38 ?_
            refine lv_iload_n hx hb dX2_find_41 rfl (lv_at hl 1 rfl) ?_
            obtain ⟨g9, h⟩ := gd_ok h
            refine r_aald C hP (iw hw (ff_2_3 hk0).2) (ff_2_3 hk0).1 g9 dX2_find_42 ?_
            refine lv_iload_n hx hb dX2_find_43 rfl (lv_at hl 3 rfl) ?_
            obtain ⟨g10, h⟩ := gd_ok h
            refine r_iald C hP (iw hw (fr_row (ff_2_3 hk0).1 (ixlt g9)).2) (rowkd (fr_row (ff_2_3 hk0).1 (ixlt g9)).1 (f2_2_3 hk0)) g10 dX2_find_44 ?_
            refine lv_iload_n hx hb dX2_find_45 rfl (lv_at hl 2 rfl) ?_
            refine lv_icmp_ne (tgt := 51) hx hb dX2_find_46 (by decide) (fun c11 => ?_) (fun c11 => ?_)
            · replace h := if_f c11 h
              obtain ⟨x12, ex12⟩ : ∃ y : Int32, y = (v3 + (1 : Int32)) := ⟨_, rfl⟩
              replace h := vl_ok ex12 h
              refine lv_iinc (v := x12) (lv' := [(3, .int x12), (0, .ref (w.2.2.1 v0)), (1, .int v1), (2, .int v2)]) hx hb dX2_find_51 hl (k := 3) rfl (by rw [ex12]; rfl) (by decide) rfl (fun ls hl => ?_)
              refine lv_goto (tgt := 17) hx hb dX2_find_54 (by decide) ?_
              obtain ⟨rfl, rfl⟩ := leaf h
              exact hP0_17 rfl _ _ _ hP hS (lv_sub hl [1, 2, 3, 0] rfl)
            · replace h := if_t c11 h
              obtain ⟨rfl, rfl⟩ := leaf h
              exact ((hK0_17 1 rfl).2 rfl) _ _ _ hP hS (lv_sub hl [3] rfl)
      · obtain ⟨x15, μ16⟩ := q14
        try dsimp only at h
        refine ⟨fun ht => ?_, fun ht => ?_⟩
        · intro H locs ls hP hS hl
          have hP : fP w μ16 H := hP
          have hl : lv_has ls 4 [] := hl
          replace h := if_t ht h
          refine lv_iconst (v := (-1)) hx hb dX2_find_57 (by decide) ?_
          exact r_iret C hr hP hS h dX2_find_58
        · intro H locs ls hP hS hl
          have hP : fP w μ16 H := hP
          have hl : lv_has ls 4 [(3, .int x15)] := hl
          replace h := if_f (by rw [ht]; decide) h
          refine lv_iload_n hx hb dX2_find_49 rfl (lv_at hl 0 rfl) ?_
          exact r_iret C hr hP hS h dX2_find_50
    · replace h := if_f c2 h
      refine lv_iconst (v := (-1)) hx hb dX2_find_13 (by decide) ?_
      exact r_iret C hr hP hS h dX2_find_14

def f_X2_nextTo_L4 (v0 : Nat) (v1 : Int32) (v2 : Int32) (v3 : Int32) (μ : fMem) : Option (Nat × (Int32 × Int32 × fMem)) :=
  if (6 : Int32) ≤ v3 then some (1, (v2, v3, μ)) else if (v1 &&& (shl (1 : Int32) v3)) = 0 then vl (v3 + (1 : Int32)) fun x3 => some (0, (v2, x3, μ)) else gd (ixo v3 6) (vl (v2 ||| (μ.1 (v0 + 7) (Int32.toNatClampNeg v3))) fun x5 => vl (v3 + (1 : Int32)) fun x6 => some (0, (x5, x6, μ)))
def f_X2_nextTo (v0 : Nat) (v1 : Int32) (μ : fMem) : Option (Int32 × fMem) :=
  bd (lpn (fun (q : Int32 × Int32 × fMem) => f_X2_nextTo_L4 v0 v1 q.1 q.2.1 q.2.2) fuel ((0 : Int32), (0 : Int32), μ)) fun t7 q8 => (fun (x9 : Int32) (x10 : Int32) (μ11 : fMem) => some (x9, μ11)) q8.1 q8.2.1 q8.2.2
def rm_X2_nextTo : Room := { frames := 0, cells := 0, slots := 0, locals := 0 }
set_option maxHeartbeats 4000000 in
set_option maxRecDepth 100000 in
theorem m_X2_nextTo (l : Launch) (w : fW) (hJ : fJ w) (hw : w.2.2.2 = sd 0) (v0 : Nat) (v1 : Int32) (hk0 : kd v0 = (4, 2)) (μ : fMem) {r : Int32} {μr : fMem} (h : f_X2_nextTo v0 v1 μ = some (r, μr)) : Met l yX2_nextTo (.code yX2_nextTo cX2_nextTo 4 (some .int) :: gw) rm_X2_nextTo (fPc w [.ref (w.2.2.1 v0), .int v1] μ) (fQi w r μr) 0 0 (fA w) := by
  refine met_of hJ (by decide) ?_ (Nat.le_of_ble_eq_true rfl)
  generalize ([.ref (w.2.2.1 v0), .int v1] : List Value).toArray = args
  intro p e s m below meth c ls C hr hP hl hS
  obtain ⟨hx, hb, hml, hown, hts, hK, -, hlk, hT⟩ := id C
  have hl : lv_has ls 4 [(0, .ref (w.2.2.1 v0)), (1, .int v1)] := hl
  unfold f_X2_nextTo at h
  refine lv_iconst (v := (0)) hx hb dX2_nextTo_0 (by decide) ?_
  refine lv_istore_n (lv' := [(2, .int (0 : Int32)), (0, .ref (w.2.2.1 v0)), (1, .int v1)]) hx hb dX2_nextTo_1 rfl hl (by decide) rfl (fun ls hl => ?_)
  refine lv_iconst (v := (0)) hx hb dX2_nextTo_2 (by decide) ?_
  refine lv_istore_n (lv' := [(3, .int (0 : Int32)), (2, .int (0 : Int32)), (0, .ref (w.2.2.1 v0)), (1, .int v1)]) hx hb dX2_nextTo_3 rfl hl (by decide) rfl (fun ls hl => ?_)
  obtain ⟨t7, q8, h12, h⟩ := bd_ok h
  refine lpn_ind (b := (fun (q : Int32 × Int32 × fMem) => f_X2_nextTo_L4 v0 v1 q.1 q.2.1 q.2.2)) (P := fun (q : Int32 × Int32 × fMem) => WW p l e rm_X2_nextTo s m args below meth c (MQ below (fQi w r μr) args s 0 0 (fA w)) w q.2.2 4 4 [] [(0, .ref (w.2.2.1 v0)), (1, .int v1), (2, .int q.1), (3, .int q.2.1)]) (K := fun _ (q : Int32 × Int32 × fMem) => WW p l e rm_X2_nextTo s m args below meth c (MQ below (fQi w r μr) args s 0 0 (fA w)) w q.2.2 4 36 [] [(2, .int q.1)]) ?_ fuel ((0 : Int32), (0 : Int32), μ) t7 q8 h12 ?_ _ _ _ hP hS (lv_sub hl [2, 3, 1, 0] rfl)
  · intro q tz4 sz4 h hP0_4 hK0_4 H locs ls hP hS hl
    obtain ⟨v2, v3, μ⟩ := q
    have hP : fP w μ H := hP
    have hl : lv_has ls 4 [(0, .ref (w.2.2.1 v0)), (1, .int v1), (2, .int v2), (3, .int v3)] := hl
    have h : f_X2_nextTo_L4 v0 v1 v2 v3 μ = some (tz4, sz4) := h
    unfold f_X2_nextTo_L4 at h
    refine lv_iload_n hx hb dX2_nextTo_4 rfl (lv_at hl 3 rfl) ?_
    refine lv_aload_n hx hb dX2_nextTo_5 rfl (lv_at hl 0 rfl) ?_
    refine r_getF (off := 7) C hP (iw hw (fi_2 hk0)) hk0 fl_X2_27 rfl rfl (zw hw) dX2_nextTo_6 ?_
    refine r_alen (v := 6) C hP (iw hw (ff_2_4 hk0).2) (Or.inl (ff_2_4 hk0).1) (by decide) dX2_nextTo_9 ?_
    refine lv_icmp_ge (tgt := 36) hx hb dX2_nextTo_10 (by decide) (fun c1 => ?_) (fun c1 => ?_)
    · replace h := if_t c1 h
      obtain ⟨rfl, rfl⟩ := leaf h
      exact (hK0_4 0 rfl) _ _ _ hP hS (lv_sub hl [2] rfl)
    · replace h := if_f c1 h
      refine lv_iload_n hx hb dX2_nextTo_13 rfl (lv_at hl 1 rfl) ?_
      refine lv_iconst (v := (1)) hx hb dX2_nextTo_14 (by decide) ?_
      refine lv_iload_n hx hb dX2_nextTo_15 rfl (lv_at hl 3 rfl) ?_
      refine r_ishl hx hb dX2_nextTo_16 ?_
      refine lv_iand hx hb dX2_nextTo_17 ?_
      refine lv_if_eq (tgt := 30) hx hb dX2_nextTo_18 (by decide) (fun c2 => ?_) (fun c2 => ?_)
      · replace h := if_t c2 h
        obtain ⟨x3, ex3⟩ : ∃ y : Int32, y = (v3 + (1 : Int32)) := ⟨_, rfl⟩
        replace h := vl_ok ex3 h
        refine lv_iinc (v := x3) (lv' := [(3, .int x3), (0, .ref (w.2.2.1 v0)), (1, .int v1), (2, .int v2)]) hx hb dX2_nextTo_30 hl (k := 3) rfl (by rw [ex3]; rfl) (by decide) rfl (fun ls hl => ?_)
        refine lv_goto (tgt := 4) hx hb dX2_nextTo_33 (by decide) ?_
        obtain ⟨rfl, rfl⟩ := leaf h
        exact hP0_4 rfl _ _ _ hP hS (lv_sub hl [1, 2, 3, 0] rfl)
      · replace h := if_f c2 h
        refine lv_iload_n hx hb dX2_nextTo_21 rfl (lv_at hl 2 rfl) ?_
        refine lv_aload_n hx hb dX2_nextTo_22 rfl (lv_at hl 0 rfl) ?_
        refine r_getF (off := 7) C hP (iw hw (fi_2 hk0)) hk0 fl_X2_27 rfl rfl (zw hw) dX2_nextTo_23 ?_
        refine lv_iload_n hx hb dX2_nextTo_26 rfl (lv_at hl 3 rfl) ?_
        obtain ⟨g4, h⟩ := gd_ok h
        refine r_iald C hP (iw hw (ff_2_4 hk0).2) (ff_2_4 hk0).1 g4 dX2_nextTo_27 ?_
        refine lv_ior hx hb dX2_nextTo_28 ?_
        refine lv_topi (fun x5 ex5 => ?_)
        replace h := vl_ok ex5 h
        refine lv_istore_n (lv' := [(2, .int x5), (0, .ref (w.2.2.1 v0)), (1, .int v1), (3, .int v3)]) hx hb dX2_nextTo_29 rfl hl (by decide) rfl (fun ls hl => ?_)
        obtain ⟨x6, ex6⟩ : ∃ y : Int32, y = (v3 + (1 : Int32)) := ⟨_, rfl⟩
        replace h := vl_ok ex6 h
        refine lv_iinc (v := x6) (lv' := [(3, .int x6), (2, .int x5), (0, .ref (w.2.2.1 v0)), (1, .int v1)]) hx hb dX2_nextTo_30 hl (k := 3) rfl (by rw [ex6]; rfl) (by decide) rfl (fun ls hl => ?_)
        refine lv_goto (tgt := 4) hx hb dX2_nextTo_33 (by decide) ?_
        obtain ⟨rfl, rfl⟩ := leaf h
        exact hP0_4 rfl _ _ _ hP hS (lv_sub hl [2, 3, 1, 0] rfl)
  · obtain ⟨x9, x10, μ11⟩ := q8
    intro H locs ls hP hS hl
    have hP : fP w μ11 H := hP
    have hl : lv_has ls 4 [(2, .int x9)] := hl
    try dsimp only at h
    refine lv_iload_n hx hb dX2_nextTo_36 rfl (lv_at hl 0 rfl) ?_
    exact r_iret C hr hP hS h dX2_nextTo_37

def f_X3_add (v0 : Nat) (v1 : Int32) (v2 : Int32) (μ : fMem) : Option (Unit × fMem) :=
  if (64 : Int32) ≤ (μ.1 v0 1) then some ((), μ) else if (μ.1 v0 1) < (64 : Int32) then gd (ixo (μ.1 v0 1) 64) (vl (sI μ (v0 + 1) (Int32.toNatClampNeg (μ.1 v0 1)) v1) fun μ3 => gd (ixo (μ3.1 v0 1) 64) (vl (sI μ3 (v0 + 2) (Int32.toNatClampNeg (μ3.1 v0 1)) v2) fun μ5 => vl (sI μ5 v0 1 ((μ5.1 v0 1) + (1 : Int32))) fun μ7 => if v1 < (13 : Int32) then some ((), μ7) else if (19 : Int32) < v1 then some ((), μ7) else vl (sI μ7 v0 2 ((μ7.1 v0 2) ||| (shl (1 : Int32) (v1 - (13 : Int32))))) fun μ10 => some ((), μ10))) else some ((), μ)
def rm_X3_add : Room := { frames := 0, cells := 0, slots := 0, locals := 0 }
set_option maxHeartbeats 4000000 in
set_option maxRecDepth 100000 in
theorem m_X3_add (l : Launch) (w : fW) (hJ : fJ w) (hw : w.2.2.2 = sd 0) (v0 : Nat) (v1 : Int32) (v2 : Int32) (hk0 : kd v0 = (4, 3)) (μ : fMem) {r : Unit} {μr : fMem} (h : f_X3_add v0 v1 v2 μ = some (r, μr)) : Met l yX3_add (.code yX3_add cX3_add 3 none :: gw) rm_X3_add (fPc w [.ref (w.2.2.1 v0), .int v1, .int v2] μ) (fQv w μr) 0 0 (fA w) := by
  refine met_of hJ (by decide) ?_ (Nat.le_of_ble_eq_true rfl)
  generalize ([.ref (w.2.2.1 v0), .int v1, .int v2] : List Value).toArray = args
  intro p e s m below meth c ls C hr hP hl hS
  obtain ⟨hx, hb, hml, hown, hts, hK, -, hlk, hT⟩ := id C
  have hl : lv_has ls 3 [(0, .ref (w.2.2.1 v0)), (1, .int v1), (2, .int v2)] := hl
  unfold f_X3_add at h
  refine lv_aload_n hx hb dX3_add_0 rfl (lv_at hl 0 rfl) ?_
  refine r_getI C hP (iw hw (fi_3 hk0)) hk0 fl_X3_15 (Or.inl rfl) dX3_add_1 ?_
  refine lv_aload_n hx hb dX3_add_4 rfl (lv_at hl 0 rfl) ?_
  refine r_getF (off := 1) C hP (iw hw (fi_3 hk0)) hk0 fl_X3_22 rfl rfl (zw hw) dX3_add_5 ?_
  refine r_alen (v := 64) C hP (iw hw (ff_3_3 hk0).2) (Or.inl (ff_3_3 hk0).1) (by decide) dX3_add_8 ?_
  refine lv_icmp_ge (tgt := 24) hx hb dX3_add_9 (by decide) (fun c1 => ?_) (fun c1 => ?_)
  · replace h := if_t c1 h
    exact r_vret C hr hP hS h dX3_add_24
  · replace h := if_f c1 h
    refine lv_aload_n hx hb dX3_add_12 rfl (lv_at hl 0 rfl) ?_
    refine r_getI C hP (iw hw (fi_3 hk0)) hk0 fl_X3_15 (Or.inl rfl) dX3_add_13 ?_
    refine lv_aload_n hx hb dX3_add_16 rfl (lv_at hl 0 rfl) ?_
    refine r_getF (off := 2) C hP (iw hw (fi_3 hk0)) hk0 fl_X3_26 rfl rfl (zw hw) dX3_add_17 ?_
    refine r_alen (v := 64) C hP (iw hw (ff_3_4 hk0).2) (Or.inl (ff_3_4 hk0).1) (by decide) dX3_add_20 ?_
    refine lv_icmp_lt (tgt := 25) hx hb dX3_add_21 (by decide) (fun c2 => ?_) (fun c2 => ?_)
    · replace h := if_t c2 h
      refine lv_aload_n hx hb dX3_add_25 rfl (lv_at hl 0 rfl) ?_
      refine r_getF (off := 1) C hP (iw hw (fi_3 hk0)) hk0 fl_X3_22 rfl rfl (zw hw) dX3_add_26 ?_
      refine lv_aload_n hx hb dX3_add_29 rfl (lv_at hl 0 rfl) ?_
      refine r_getI C hP (iw hw (fi_3 hk0)) hk0 fl_X3_15 (Or.inl rfl) dX3_add_30 ?_
      refine lv_iload_n hx hb dX3_add_33 rfl (lv_at hl 1 rfl) ?_
      obtain ⟨g4, h⟩ := gd_ok h
      refine r_iast C hP hS (iw hw (ff_3_3 hk0).2) (ff_3_3 hk0).1 g4 dX3_add_34 (fun H locs hP hS => ?_)
      obtain ⟨μ3, eμ3, h⟩ := vl_ex h
      have hP : fP w μ3 H := by rw [eμ3]; exact hP
      refine lv_aload_n hx hb dX3_add_35 rfl (lv_at hl 0 rfl) ?_
      refine r_getF (off := 2) C hP (iw hw (fi_3 hk0)) hk0 fl_X3_26 rfl rfl (zw hw) dX3_add_36 ?_
      refine lv_aload_n hx hb dX3_add_39 rfl (lv_at hl 0 rfl) ?_
      refine r_getI C hP (iw hw (fi_3 hk0)) hk0 fl_X3_15 (Or.inl rfl) dX3_add_40 ?_
      refine lv_iload_n hx hb dX3_add_43 rfl (lv_at hl 2 rfl) ?_
      obtain ⟨g6, h⟩ := gd_ok h
      refine r_iast C hP hS (iw hw (ff_3_4 hk0).2) (ff_3_4 hk0).1 g6 dX3_add_44 (fun H locs hP hS => ?_)
      obtain ⟨μ5, eμ5, h⟩ := vl_ex h
      have hP : fP w μ5 H := by rw [eμ5]; exact hP
      refine lv_aload_n hx hb dX3_add_45 rfl (lv_at hl 0 rfl) ?_
      refine lv_dup hx hb dX3_add_46 rfl ?_
      refine r_getI C hP (iw hw (fi_3 hk0)) hk0 fl_X3_15 (Or.inl rfl) dX3_add_47 ?_
      refine lv_iconst (v := (1)) hx hb dX3_add_50 (by decide) ?_
      refine lv_iadd hx hb dX3_add_51 ?_
      refine r_putI C hP hS (iw hw (fi_3 hk0)) hk0 fp_X3_15 rfl dX3_add_52 (fun H locs hP hS => ?_)
      obtain ⟨μ7, eμ7, h⟩ := vl_ex h
      have hP : fP w μ7 H := by rw [eμ7]; exact hP
      refine lv_iload_n hx hb dX3_add_55 rfl (lv_at hl 1 rfl) ?_
      refine lv_bipush (v := (13)) hx hb dX3_add_56 (by decide) ?_
      refine lv_icmp_lt (tgt := 82) hx hb dX3_add_58 (by decide) (fun c8 => ?_) (fun c8 => ?_)
      · replace h := if_t c8 h
        exact r_vret C hr hP hS h dX3_add_82
      · replace h := if_f c8 h
        refine lv_iload_n hx hb dX3_add_61 rfl (lv_at hl 1 rfl) ?_
        refine lv_bipush (v := (19)) hx hb dX3_add_62 (by decide) ?_
        refine lv_icmp_gt (tgt := 82) hx hb dX3_add_64 (by decide) (fun c9 => ?_) (fun c9 => ?_)
        · replace h := if_t c9 h
          exact r_vret C hr hP hS h dX3_add_82
        · replace h := if_f c9 h
          refine lv_aload_n hx hb dX3_add_67 rfl (lv_at hl 0 rfl) ?_
          refine lv_dup hx hb dX3_add_68 rfl ?_
          refine r_getI C hP (iw hw (fi_3 hk0)) hk0 fl_X3_19 (Or.inl rfl) dX3_add_69 ?_
          refine lv_iconst (v := (1)) hx hb dX3_add_72 (by decide) ?_
          refine lv_iload_n hx hb dX3_add_73 rfl (lv_at hl 1 rfl) ?_
          refine lv_bipush (v := (13)) hx hb dX3_add_74 (by decide) ?_
          refine lv_isub hx hb dX3_add_76 ?_
          refine r_ishl hx hb dX3_add_77 ?_
          refine lv_ior hx hb dX3_add_78 ?_
          refine r_putI C hP hS (iw hw (fi_3 hk0)) hk0 fp_X3_19 rfl dX3_add_79 (fun H locs hP hS => ?_)
          obtain ⟨μ10, eμ10, h⟩ := vl_ex h
          have hP : fP w μ10 H := by rw [eμ10]; exact hP
          exact r_vret C hr hP hS h dX3_add_82
    · replace h := if_f c2 h
      exact r_vret C hr hP hS h dX3_add_24

def f_X4_clear (v0 : Nat) (μ : fMem) : Option (Unit × fMem) :=
  vl (sI μ v0 0 (0 : Int32)) fun μ1 => vl (sI μ1 v0 1 (-1 : Int32)) fun μ2 => some ((), μ2)
def rm_X4_clear : Room := { frames := 0, cells := 0, slots := 0, locals := 0 }
set_option maxHeartbeats 4000000 in
set_option maxRecDepth 100000 in
theorem m_X4_clear (l : Launch) (w : fW) (hJ : fJ w) (hw : w.2.2.2 = sd 0) (v0 : Nat) (hk0 : kd v0 = (4, 4)) (μ : fMem) {r : Unit} {μr : fMem} (h : f_X4_clear v0 μ = some (r, μr)) : Met l yX4_clear (.code yX4_clear cX4_clear 1 none :: gw) rm_X4_clear (fPc w [.ref (w.2.2.1 v0)] μ) (fQv w μr) 0 0 (fA w) := by
  refine met_of hJ (by decide) ?_ (Nat.le_of_ble_eq_true rfl)
  generalize ([.ref (w.2.2.1 v0)] : List Value).toArray = args
  intro p e s m below meth c ls C hr hP hl hS
  obtain ⟨hx, hb, hml, hown, hts, hK, -, hlk, hT⟩ := id C
  have hl : lv_has ls 1 [(0, .ref (w.2.2.1 v0))] := hl
  unfold f_X4_clear at h
  refine lv_aload_n hx hb dX4_clear_0 rfl (lv_at hl 0 rfl) ?_
  refine lv_iconst (v := (0)) hx hb dX4_clear_1 (by decide) ?_
  refine r_putI C hP hS (iw hw (fi_4 hk0)) hk0 fp_X4_9 rfl dX4_clear_2 (fun H locs hP hS => ?_)
  obtain ⟨μ1, eμ1, h⟩ := vl_ex h
  have hP : fP w μ1 H := by rw [eμ1]; exact hP
  refine lv_aload_n hx hb dX4_clear_5 rfl (lv_at hl 0 rfl) ?_
  refine lv_iconst (v := (-1)) hx hb dX4_clear_6 (by decide) ?_
  refine r_putI C hP hS (iw hw (fi_4 hk0)) hk0 fp_X4_15 rfl dX4_clear_7 (fun H locs hP hS => ?_)
  obtain ⟨μ2, eμ2, h⟩ := vl_ex h
  have hP : fP w μ2 H := by rw [eμ2]; exact hP
  exact r_vret C hr hP hS h dX4_clear_10

def f_X4_knownBy (v0 : Nat) (μ : fMem) : Option (Int32 × fMem) :=
  if (μ.1 v0 1) = (-1 : Int32) then some ((μ.1 v0 0), μ) else some ((imn (μ.1 v0 1) (μ.1 v0 0)), μ)
def rm_X4_knownBy : Room := { frames := 1, cells := 0, slots := 0, locals := 80 }
set_option maxHeartbeats 4000000 in
set_option maxRecDepth 100000 in
theorem m_X4_knownBy (l : Launch) (w : fW) (hJ : fJ w) (hw : w.2.2.2 = sd 0) (v0 : Nat) (hk0 : kd v0 = (4, 4)) (μ : fMem) {r : Int32} {μr : fMem} (h : f_X4_knownBy v0 μ = some (r, μr)) : Met l yX4_knownBy (.code yX4_knownBy cX4_knownBy 1 (some .int) :: gw) rm_X4_knownBy (fPc w [.ref (w.2.2.1 v0)] μ) (fQi w r μr) 0 0 (fA w) := by
  refine met_of hJ (by decide) ?_ (Nat.le_of_ble_eq_true rfl)
  generalize ([.ref (w.2.2.1 v0)] : List Value).toArray = args
  intro p e s m below meth c ls C hr hP hl hS
  obtain ⟨hx, hb, hml, hown, hts, hK, -, hlk, hT⟩ := id C
  have hl : lv_has ls 1 [(0, .ref (w.2.2.1 v0))] := hl
  unfold f_X4_knownBy at h
  refine lv_aload_n hx hb dX4_knownBy_0 rfl (lv_at hl 0 rfl) ?_
  refine r_getI C hP (iw hw (fi_4 hk0)) hk0 fl_X4_15 (Or.inl rfl) dX4_knownBy_1 ?_
  refine lv_iconst (v := (-1)) hx hb dX4_knownBy_4 (by decide) ?_
  refine lv_icmp_ne (tgt := 15) hx hb dX4_knownBy_5 (by decide) (fun c1 => ?_) (fun c1 => ?_)
  · replace h := if_f c1 h
    refine lv_aload_n hx hb dX4_knownBy_15 rfl (lv_at hl 0 rfl) ?_
    refine r_getI C hP (iw hw (fi_4 hk0)) hk0 fl_X4_15 (Or.inl rfl) dX4_knownBy_16 ?_
    refine lv_aload_n hx hb dX4_knownBy_19 rfl (lv_at hl 0 rfl) ?_
    refine r_getI C hP (iw hw (fi_4 hk0)) hk0 fl_X4_9 (Or.inl rfl) dX4_knownBy_20 ?_
    refine b_mmin (rest := []) C hl mm_X4_38 (by decide) (Nat.le_of_ble_eq_true rfl) dX4_knownBy_23 ?_
    exact r_iret C hr hP hS h dX4_knownBy_26
  · replace h := if_t c1 h
    refine lv_aload_n hx hb dX4_knownBy_8 rfl (lv_at hl 0 rfl) ?_
    refine r_getI C hP (iw hw (fi_4 hk0)) hk0 fl_X4_9 (Or.inl rfl) dX4_knownBy_9 ?_
    refine lv_goto (tgt := 26) hx hb dX4_knownBy_12 (by decide) ?_
    exact r_iret C hr hP hS h dX4_knownBy_26

def f_X4_add (v0 : Nat) (v1 : Int32) (v2 : Int32) (v3 : Int32) (v4 : Int32) (μ : fMem) : Option (Int32 × fMem) :=
  if (μ.1 v0 0) < (24 : Int32) then gd (ixo (μ.1 v0 0) 24) (vl (sI μ (v0 + 1) (Int32.toNatClampNeg (μ.1 v0 0)) v1) fun μ2 => gd (ixo (μ2.1 v0 0) 24) (vl (sI μ2 (v0 + 2) (Int32.toNatClampNeg (μ2.1 v0 0)) v2) fun μ4 => gd (ixo (μ4.1 v0 0) 24) (vl (sI μ4 (v0 + 3) (Int32.toNatClampNeg (μ4.1 v0 0)) v3) fun μ6 => gd (ixo (μ6.1 v0 0) 24) (gd (bl v4) (vl (sI μ6 (v0 + 4) (Int32.toNatClampNeg (μ6.1 v0 0)) v4) fun μ8 => gd (ixo (μ8.1 v0 0) 24) (vl (sI μ8 (v0 + 5) (Int32.toNatClampNeg (μ8.1 v0 0)) (-1 : Int32)) fun μ11 => vl (sI μ11 v0 0 ((μ11.1 v0 0) + (1 : Int32))) fun μ13 => some (((μ13.1 v0 0) - (1 : Int32)), μ13))))))) else some ((-1 : Int32), μ)
def rm_X4_add : Room := { frames := 0, cells := 0, slots := 0, locals := 0 }
set_option maxHeartbeats 4000000 in
set_option maxRecDepth 100000 in
theorem m_X4_add (l : Launch) (w : fW) (hJ : fJ w) (hw : w.2.2.2 = sd 0) (v0 : Nat) (v1 : Int32) (v2 : Int32) (v3 : Int32) (v4 : Int32) (hk0 : kd v0 = (4, 4)) (μ : fMem) {r : Int32} {μr : fMem} (h : f_X4_add v0 v1 v2 v3 v4 μ = some (r, μr)) : Met l yX4_add (.code yX4_add cX4_add 5 (some .int) :: gw) rm_X4_add (fPc w [.ref (w.2.2.1 v0), .int v1, .int v2, .int v3, .int v4] μ) (fQi w r μr) 0 0 (fA w) := by
  refine met_of hJ (by decide) ?_ (Nat.le_of_ble_eq_true rfl)
  generalize ([.ref (w.2.2.1 v0), .int v1, .int v2, .int v3, .int v4] : List Value).toArray = args
  intro p e s m below meth c ls C hr hP hl hS
  obtain ⟨hx, hb, hml, hown, hts, hK, -, hlk, hT⟩ := id C
  have hl : lv_has ls 5 [(0, .ref (w.2.2.1 v0)), (1, .int v1), (2, .int v2), (3, .int v3), (4, .int v4)] := hl
  unfold f_X4_add at h
  refine lv_aload_n hx hb dX4_add_0 rfl (lv_at hl 0 rfl) ?_
  refine r_getI C hP (iw hw (fi_4 hk0)) hk0 fl_X4_9 (Or.inl rfl) dX4_add_1 ?_
  refine lv_bipush (v := (24)) hx hb dX4_add_4 (by decide) ?_
  refine lv_icmp_lt (tgt := 11) hx hb dX4_add_6 (by decide) (fun c1 => ?_) (fun c1 => ?_)
  · replace h := if_t c1 h
    refine lv_aload_n hx hb dX4_add_11 rfl (lv_at hl 0 rfl) ?_
    refine r_getF (off := 1) C hP (iw hw (fi_4 hk0)) hk0 fl_X4_18 rfl rfl (zw hw) dX4_add_12 ?_
    refine lv_aload_n hx hb dX4_add_15 rfl (lv_at hl 0 rfl) ?_
    refine r_getI C hP (iw hw (fi_4 hk0)) hk0 fl_X4_9 (Or.inl rfl) dX4_add_16 ?_
    refine lv_iload_n hx hb dX4_add_19 rfl (lv_at hl 1 rfl) ?_
    obtain ⟨g3, h⟩ := gd_ok h
    refine r_iast C hP hS (iw hw (ff_4_2 hk0).2) (ff_4_2 hk0).1 g3 dX4_add_20 (fun H locs hP hS => ?_)
    obtain ⟨μ2, eμ2, h⟩ := vl_ex h
    have hP : fP w μ2 H := by rw [eμ2]; exact hP
    refine lv_aload_n hx hb dX4_add_21 rfl (lv_at hl 0 rfl) ?_
    refine r_getF (off := 2) C hP (iw hw (fi_4 hk0)) hk0 fl_X4_22 rfl rfl (zw hw) dX4_add_22 ?_
    refine lv_aload_n hx hb dX4_add_25 rfl (lv_at hl 0 rfl) ?_
    refine r_getI C hP (iw hw (fi_4 hk0)) hk0 fl_X4_9 (Or.inl rfl) dX4_add_26 ?_
    refine lv_iload_n hx hb dX4_add_29 rfl (lv_at hl 2 rfl) ?_
    obtain ⟨g5, h⟩ := gd_ok h
    refine r_iast C hP hS (iw hw (ff_4_3 hk0).2) (ff_4_3 hk0).1 g5 dX4_add_30 (fun H locs hP hS => ?_)
    obtain ⟨μ4, eμ4, h⟩ := vl_ex h
    have hP : fP w μ4 H := by rw [eμ4]; exact hP
    refine lv_aload_n hx hb dX4_add_31 rfl (lv_at hl 0 rfl) ?_
    refine r_getF (off := 3) C hP (iw hw (fi_4 hk0)) hk0 fl_X4_25 rfl rfl (zw hw) dX4_add_32 ?_
    refine lv_aload_n hx hb dX4_add_35 rfl (lv_at hl 0 rfl) ?_
    refine r_getI C hP (iw hw (fi_4 hk0)) hk0 fl_X4_9 (Or.inl rfl) dX4_add_36 ?_
    refine lv_iload_n hx hb dX4_add_39 rfl (lv_at hl 3 rfl) ?_
    obtain ⟨g7, h⟩ := gd_ok h
    refine r_iast C hP hS (iw hw (ff_4_4 hk0).2) (ff_4_4 hk0).1 g7 dX4_add_40 (fun H locs hP hS => ?_)
    obtain ⟨μ6, eμ6, h⟩ := vl_ex h
    have hP : fP w μ6 H := by rw [eμ6]; exact hP
    refine lv_aload_n hx hb dX4_add_41 rfl (lv_at hl 0 rfl) ?_
    refine r_getF (off := 4) C hP (iw hw (fi_4 hk0)) hk0 fl_X4_28 rfl rfl (zw hw) dX4_add_42 ?_
    refine lv_aload_n hx hb dX4_add_45 rfl (lv_at hl 0 rfl) ?_
    refine r_getI C hP (iw hw (fi_4 hk0)) hk0 fl_X4_9 (Or.inl rfl) dX4_add_46 ?_
    refine lv_iload hx hb dX4_add_49 (lv_at hl 4 rfl) ?_
    obtain ⟨g9, h⟩ := gd_ok h
    obtain ⟨g10, h⟩ := gd_ok h
    refine r_zast C hP hS (iw hw (ff_4_5 hk0).2) (ff_4_5 hk0).1 g9 g10 dX4_add_51 (fun H locs hP hS => ?_)
    obtain ⟨μ8, eμ8, h⟩ := vl_ex h
    have hP : fP w μ8 H := by rw [eμ8]; exact hP
    refine lv_aload_n hx hb dX4_add_52 rfl (lv_at hl 0 rfl) ?_
    refine r_getF (off := 5) C hP (iw hw (fi_4 hk0)) hk0 fl_X4_32 rfl rfl (zw hw) dX4_add_53 ?_
    refine lv_aload_n hx hb dX4_add_56 rfl (lv_at hl 0 rfl) ?_
    refine r_getI C hP (iw hw (fi_4 hk0)) hk0 fl_X4_9 (Or.inl rfl) dX4_add_57 ?_
    refine lv_iconst (v := (-1)) hx hb dX4_add_60 (by decide) ?_
    obtain ⟨g12, h⟩ := gd_ok h
    refine r_iast C hP hS (iw hw (ff_4_6 hk0).2) (ff_4_6 hk0).1 g12 dX4_add_61 (fun H locs hP hS => ?_)
    obtain ⟨μ11, eμ11, h⟩ := vl_ex h
    have hP : fP w μ11 H := by rw [eμ11]; exact hP
    refine lv_aload_n hx hb dX4_add_62 rfl (lv_at hl 0 rfl) ?_
    refine lv_dup hx hb dX4_add_63 rfl ?_
    refine r_getI C hP (iw hw (fi_4 hk0)) hk0 fl_X4_9 (Or.inl rfl) dX4_add_64 ?_
    refine lv_iconst (v := (1)) hx hb dX4_add_67 (by decide) ?_
    refine lv_iadd hx hb dX4_add_68 ?_
    refine r_putI C hP hS (iw hw (fi_4 hk0)) hk0 fp_X4_9 rfl dX4_add_69 (fun H locs hP hS => ?_)
    obtain ⟨μ13, eμ13, h⟩ := vl_ex h
    have hP : fP w μ13 H := by rw [eμ13]; exact hP
    refine lv_aload_n hx hb dX4_add_72 rfl (lv_at hl 0 rfl) ?_
    refine r_getI C hP (iw hw (fi_4 hk0)) hk0 fl_X4_9 (Or.inl rfl) dX4_add_73 ?_
    refine lv_iconst (v := (1)) hx hb dX4_add_76 (by decide) ?_
    refine lv_isub hx hb dX4_add_77 ?_
    exact r_iret C hr hP hS h dX4_add_78
  · replace h := if_f c1 h
    refine lv_iconst (v := (-1)) hx hb dX4_add_9 (by decide) ?_
    exact r_iret C hr hP hS h dX4_add_10

def f_X4_addStrike (v0 : Nat) (v1 : Int32) (μ : fMem) : Option (Int32 × fMem) :=
  bd (f_X4_add v0 (0 : Int32) (0 : Int32) (0 : Int32) (0 : Int32) μ) fun r2 μ1 => if r2 = (-1 : Int32) then some (r2, μ1) else gd (ixo r2 24) (vl (sI μ1 (v0 + 5) (Int32.toNatClampNeg r2) v1) fun μ5 => some (r2, μ5))
def rm_X4_addStrike : Room := { frames := 1, cells := 0, slots := 0, locals := 24 }
set_option maxHeartbeats 4000000 in
set_option maxRecDepth 100000 in
theorem m_X4_addStrike (l : Launch) (w : fW) (hJ : fJ w) (hw : w.2.2.2 = sd 0) (v0 : Nat) (v1 : Int32) (hk0 : kd v0 = (4, 4)) (μ : fMem) {r : Int32} {μr : fMem} (h : f_X4_addStrike v0 v1 μ = some (r, μr)) : Met l yX4_addStrike (.code yX4_addStrike cX4_addStrike 3 (some .int) :: gw) rm_X4_addStrike (fPc w [.ref (w.2.2.1 v0), .int v1] μ) (fQi w r μr) 0 0 (fA w) := by
  refine met_of hJ (by decide) ?_ (Nat.le_of_ble_eq_true rfl)
  generalize ([.ref (w.2.2.1 v0), .int v1] : List Value).toArray = args
  intro p e s m below meth c ls C hr hP hl hS
  obtain ⟨hx, hb, hml, hown, hts, hK, -, hlk, hT⟩ := id C
  have hl : lv_has ls 3 [(0, .ref (w.2.2.1 v0)), (1, .int v1)] := hl
  unfold f_X4_addStrike at h
  refine lv_aload_n hx hb dX4_addStrike_0 rfl (lv_at hl 0 rfl) ?_
  refine lv_iconst (v := (0)) hx hb dX4_addStrike_1 (by decide) ?_
  refine lv_iconst (v := (0)) hx hb dX4_addStrike_2 (by decide) ?_
  refine lv_iconst (v := (0)) hx hb dX4_addStrike_3 (by decide) ?_
  refine lv_iconst (v := (0)) hx hb dX4_addStrike_4 (by decide) ?_
  obtain ⟨r2, μ1, h3, h⟩ := bd_ok h
  refine go_i (callV_run (As := [.int (0 : Int32), .int (0 : Int32), .int (0 : Int32), .int (0 : Int32)]) (rest := []) C hl hP (hS.wide hJ).2.1 (iw hw (fi_4 hk0)) hk0 (m_X4_add l w hJ hw v0 (0 : Int32) (0 : Int32) (0 : Int32) (0 : Int32) hk0 μ h3) mv_X4_44 ⟨rfl, rfl, by decide, by decide⟩ rfl rfl (Nat.le_of_ble_eq_true rfl) ⟨Nat.zero_le _, Nat.zero_le _⟩ dX4_addStrike_5) hS (fun H locs hP hS => ?_)
  refine lv_istore_n (lv' := [(2, .int r2), (0, .ref (w.2.2.1 v0)), (1, .int v1)]) hx hb dX4_addStrike_8 rfl hl (by decide) rfl (fun ls hl => ?_)
  refine lv_iload_n hx hb dX4_addStrike_9 rfl (lv_at hl 0 rfl) ?_
  refine lv_iconst (v := (-1)) hx hb dX4_addStrike_10 (by decide) ?_
  refine lv_icmp_eq (tgt := 21) hx hb dX4_addStrike_11 (by decide) (fun c4 => ?_) (fun c4 => ?_)
  · replace h := if_t c4 h
    refine lv_iload_n hx hb dX4_addStrike_21 rfl (lv_at hl 0 rfl) ?_
    exact r_iret C hr hP hS h dX4_addStrike_22
  · replace h := if_f c4 h
    refine lv_aload_n hx hb dX4_addStrike_14 rfl (lv_at hl 1 rfl) ?_
    refine r_getF (off := 5) C hP (iw hw (fi_4 hk0)) hk0 fl_X4_32 rfl rfl (zw hw) dX4_addStrike_15 ?_
    refine lv_iload_n hx hb dX4_addStrike_18 rfl (lv_at hl 0 rfl) ?_
    refine lv_iload_n hx hb dX4_addStrike_19 rfl (lv_at hl 2 rfl) ?_
    obtain ⟨g6, h⟩ := gd_ok h
    refine r_iast C hP hS (iw hw (ff_4_6 hk0).2) (ff_4_6 hk0).1 g6 dX4_addStrike_20 (fun H locs hP hS => ?_)
    obtain ⟨μ5, eμ5, h⟩ := vl_ex h
    have hP : fP w μ5 H := by rw [eμ5]; exact hP
    refine lv_iload_n hx hb dX4_addStrike_21 rfl (lv_at hl 0 rfl) ?_
    exact r_iret C hr hP hS h dX4_addStrike_22

def f_X4_strike_L2 (v0 : Nat) (v1 : Int32) (μ : fMem) : Option (Nat × (Int32 × fMem)) :=
  if (24 : Int32) ≤ v1 then some (1, (v1, μ)) else gd (ixo v1 24) (vl (sI μ (v0 + 6) (Int32.toNatClampNeg v1) (0 : Int32)) fun μ2 => vl (v1 + (1 : Int32)) fun x4 => some (0, (x4, μ2)))
def f_X4_strike_L28 (v0 : Nat) (v1 : Int32) (μ : fMem) : Option (Nat × (Int32 × fMem)) :=
  if v1 < 0 then some (1, (v1, μ)) else gd (ixo v1 24) (vl (μ.1 (v0 + 5) (Int32.toNatClampNeg v1)) fun x15 => gd (ixo v1 24) (if (μ.1 (v0 + 6) (Int32.toNatClampNeg v1)) = 0 then if x15 < 0 then vl (v1 + (-1 : Int32)) fun x20 => some (0, (x20, μ)) else if (24 : Int32) ≤ x15 then vl (v1 + (-1 : Int32)) fun x22 => some (0, (x22, μ)) else gd (ixo x15 24) (vl (sI μ (v0 + 6) (Int32.toNatClampNeg x15) (1 : Int32)) fun μ23 => vl (v1 + (-1 : Int32)) fun x25 => some (0, (x25, μ23))) else vl (v1 + (-1 : Int32)) fun x18 => some (0, (x18, μ))))
def f_X4_strike (v0 : Nat) (μ : fMem) : Option (Unit × fMem) :=
  bd (lpn (fun (q : Int32 × fMem) => f_X4_strike_L2 v0 q.1 q.2) fuel ((0 : Int32), μ)) fun t5 q6 => (fun (x7 : Int32) (μ8 : fMem) => bd (f_X4_knownBy v0 μ8) fun r10 μ9 => vl (r10 - (1 : Int32)) fun x12 => bd (lpn (fun (q : Int32 × fMem) => f_X4_strike_L28 v0 q.1 q.2) fuel (x12, μ9)) fun t26 q27 => (fun (x28 : Int32) (μ29 : fMem) => some ((), μ29)) q27.1 q27.2) q6.1 q6.2
def rm_X4_strike : Room := { frames := 2, cells := 0, slots := 0, locals := 100 }
set_option maxHeartbeats 4000000 in
set_option maxRecDepth 100000 in
theorem m_X4_strike (l : Launch) (w : fW) (hJ : fJ w) (hw : w.2.2.2 = sd 0) (v0 : Nat) (hk0 : kd v0 = (4, 4)) (μ : fMem) {r : Unit} {μr : fMem} (h : f_X4_strike v0 μ = some (r, μr)) : Met l yX4_strike (.code yX4_strike cX4_strike 3 none :: gw) rm_X4_strike (fPc w [.ref (w.2.2.1 v0)] μ) (fQv w μr) 0 0 (fA w) := by
  refine met_of hJ (by decide) ?_ (Nat.le_of_ble_eq_true rfl)
  generalize ([.ref (w.2.2.1 v0)] : List Value).toArray = args
  intro p e s m below meth c ls C hr hP hl hS
  obtain ⟨hx, hb, hml, hown, hts, hK, -, hlk, hT⟩ := id C
  have hl : lv_has ls 3 [(0, .ref (w.2.2.1 v0))] := hl
  unfold f_X4_strike at h
  refine lv_iconst (v := (0)) hx hb dX4_strike_0 (by decide) ?_
  refine lv_istore_n (lv' := [(1, .int (0 : Int32)), (0, .ref (w.2.2.1 v0))]) hx hb dX4_strike_1 rfl hl (by decide) rfl (fun ls hl => ?_)
  obtain ⟨t5, q6, h31, h⟩ := bd_ok h
  refine lpn_ind (b := (fun (q : Int32 × fMem) => f_X4_strike_L2 v0 q.1 q.2)) (P := fun (q : Int32 × fMem) => WW p l e rm_X4_strike s m args below meth c (MQ below (fQv w μr) args s 0 0 (fA w)) w q.2 3 2 [] [(0, .ref (w.2.2.1 v0)), (1, .int q.1)]) (K := fun _ (q : Int32 × fMem) => WW p l e rm_X4_strike s m args below meth c (MQ below (fQv w μr) args s 0 0 (fA w)) w q.2 3 21 [] [(0, .ref (w.2.2.1 v0))]) ?_ fuel ((0 : Int32), μ) t5 q6 h31 ?_ _ _ _ hP hS (lv_sub hl [1, 0] rfl)
  · intro q tz2 sz2 h hP0_2 hK0_2 H locs ls hP hS hl
    obtain ⟨v1, μ⟩ := q
    have hP : fP w μ H := hP
    have hl : lv_has ls 3 [(0, .ref (w.2.2.1 v0)), (1, .int v1)] := hl
    have h : f_X4_strike_L2 v0 v1 μ = some (tz2, sz2) := h
    unfold f_X4_strike_L2 at h
    refine lv_iload_n hx hb dX4_strike_2 rfl (lv_at hl 1 rfl) ?_
    refine lv_bipush (v := (24)) hx hb dX4_strike_3 (by decide) ?_
    refine lv_icmp_ge (tgt := 21) hx hb dX4_strike_5 (by decide) (fun c1 => ?_) (fun c1 => ?_)
    · replace h := if_t c1 h
      obtain ⟨rfl, rfl⟩ := leaf h
      exact (hK0_2 0 rfl) _ _ _ hP hS (lv_sub hl [0] rfl)
    · replace h := if_f c1 h
      refine lv_aload_n hx hb dX4_strike_8 rfl (lv_at hl 0 rfl) ?_
      refine r_getF (off := 6) C hP (iw hw (fi_4 hk0)) hk0 fl_X4_35 rfl rfl (zw hw) dX4_strike_9 ?_
      refine lv_iload_n hx hb dX4_strike_12 rfl (lv_at hl 1 rfl) ?_
      refine lv_iconst (v := (0)) hx hb dX4_strike_13 (by decide) ?_
      obtain ⟨g3, h⟩ := gd_ok h
      refine r_zast C hP hS (iw hw (ff_4_7 hk0).2) (ff_4_7 hk0).1 g3 (Or.inl rfl) dX4_strike_14 (fun H locs hP hS => ?_)
      obtain ⟨μ2, eμ2, h⟩ := vl_ex h
      have hP : fP w μ2 H := by rw [eμ2]; exact hP
      obtain ⟨x4, ex4⟩ : ∃ y : Int32, y = (v1 + (1 : Int32)) := ⟨_, rfl⟩
      replace h := vl_ok ex4 h
      refine lv_iinc (v := x4) (lv' := [(1, .int x4), (0, .ref (w.2.2.1 v0))]) hx hb dX4_strike_15 hl (k := 1) rfl (by rw [ex4]; rfl) (by decide) rfl (fun ls hl => ?_)
      refine lv_goto (tgt := 2) hx hb dX4_strike_18 (by decide) ?_
      obtain ⟨rfl, rfl⟩ := leaf h
      exact hP0_2 rfl _ _ _ hP hS (lv_sub hl [1, 0] rfl)
  · obtain ⟨x7, μ8⟩ := q6
    intro H locs ls hP hS hl
    have hP : fP w μ8 H := hP
    have hl : lv_has ls 3 [(0, .ref (w.2.2.1 v0))] := hl
    try dsimp only at h
    refine lv_aload_n hx hb dX4_strike_21 rfl (lv_at hl 0 rfl) ?_
    obtain ⟨r10, μ9, h11, h⟩ := bd_ok h
    refine go_i (callV_run (As := []) (rest := []) C hl hP (hS.wide hJ).2.1 (iw hw (fi_4 hk0)) hk0 (m_X4_knownBy l w hJ hw v0 hk0 μ8 h11) mv_X4_48 ⟨rfl, rfl, by decide, by decide⟩ rfl rfl (Nat.le_of_ble_eq_true rfl) ⟨Nat.zero_le _, Nat.zero_le _⟩ dX4_strike_22) hS (fun H locs hP hS => ?_)
    refine lv_iconst (v := (1)) hx hb dX4_strike_25 (by decide) ?_
    refine lv_isub hx hb dX4_strike_26 ?_
    refine lv_topi (fun x12 ex12 => ?_)
    replace h := vl_ok ex12 h
    refine lv_istore_n (lv' := [(1, .int x12), (0, .ref (w.2.2.1 v0))]) hx hb dX4_strike_27 rfl hl (by decide) rfl (fun ls hl => ?_)
    obtain ⟨t26, q27, h30, h⟩ := bd_ok h
    refine lpn_ind (b := (fun (q : Int32 × fMem) => f_X4_strike_L28 v0 q.1 q.2)) (P := fun (q : Int32 × fMem) => WW p l e rm_X4_strike s m args below meth c (MQ below (fQv w μr) args s 0 0 (fA w)) w q.2 3 28 [] [(0, .ref (w.2.2.1 v0)), (1, .int q.1)]) (K := fun _ (q : Int32 × fMem) => WW p l e rm_X4_strike s m args below meth c (MQ below (fQv w μr) args s 0 0 (fA w)) w q.2 3 71 [] []) ?_ fuel (x12, μ9) t26 q27 h30 ?_ _ _ _ hP hS (lv_sub hl [1, 0] rfl)
    · intro q tz28 sz28 h hP0_28 hK0_28 H locs ls hP hS hl
      obtain ⟨v1, μ⟩ := q
      have hP : fP w μ H := hP
      have hl : lv_has ls 3 [(0, .ref (w.2.2.1 v0)), (1, .int v1)] := hl
      have h : f_X4_strike_L28 v0 v1 μ = some (tz28, sz28) := h
      unfold f_X4_strike_L28 at h
      refine lv_iload_n hx hb dX4_strike_28 rfl (lv_at hl 1 rfl) ?_
      refine lv_if_lt (tgt := 71) hx hb dX4_strike_29 (by decide) (fun c13 => ?_) (fun c13 => ?_)
      · replace h := if_t c13 h
        obtain ⟨rfl, rfl⟩ := leaf h
        exact (hK0_28 0 rfl) _ _ _ hP hS (lv_sub hl [] rfl)
      · replace h := if_f c13 h
        refine lv_aload_n hx hb dX4_strike_32 rfl (lv_at hl 0 rfl) ?_
        refine r_getF (off := 5) C hP (iw hw (fi_4 hk0)) hk0 fl_X4_32 rfl rfl (zw hw) dX4_strike_33 ?_
        refine lv_iload_n hx hb dX4_strike_36 rfl (lv_at hl 1 rfl) ?_
        obtain ⟨g14, h⟩ := gd_ok h
        refine r_iald C hP (iw hw (ff_4_6 hk0).2) (ff_4_6 hk0).1 g14 dX4_strike_37 ?_
        refine lv_topi (fun x15 ex15 => ?_)
        replace h := vl_ok ex15 h
        refine lv_istore_n (lv' := [(2, .int x15), (0, .ref (w.2.2.1 v0)), (1, .int v1)]) hx hb dX4_strike_38 rfl hl (by decide) rfl (fun ls hl => ?_)
        refine lv_aload_n hx hb dX4_strike_39 rfl (lv_at hl 1 rfl) ?_
        refine r_getF (off := 6) C hP (iw hw (fi_4 hk0)) hk0 fl_X4_35 rfl rfl (zw hw) dX4_strike_40 ?_
        refine lv_iload_n hx hb dX4_strike_43 rfl (lv_at hl 2 rfl) ?_
        obtain ⟨g16, h⟩ := gd_ok h
        refine r_zald C hP (iw hw (ff_4_7 hk0).2) (ff_4_7 hk0).1 g16 dX4_strike_44 ?_
        refine lv_if_ne (tgt := 65) hx hb dX4_strike_45 (by decide) (fun c17 => ?_) (fun c17 => ?_)
        · replace h := if_f c17 h
          obtain ⟨x18, ex18⟩ : ∃ y : Int32, y = (v1 + (-1 : Int32)) := ⟨_, rfl⟩
          replace h := vl_ok ex18 h
          refine lv_iinc (v := x18) (lv' := [(1, .int x18), (2, .int x15), (0, .ref (w.2.2.1 v0))]) hx hb dX4_strike_65 hl (k := 2) rfl (by rw [ex18]; rfl) (by decide) rfl (fun ls hl => ?_)
          refine lv_goto (tgt := 28) hx hb dX4_strike_68 (by decide) ?_
          obtain ⟨rfl, rfl⟩ := leaf h
          exact hP0_28 rfl _ _ _ hP hS (lv_sub hl [2, 0] rfl)
        · replace h := if_t c17 h
          refine lv_iload_n hx hb dX4_strike_48 rfl (lv_at hl 0 rfl) ?_
          refine lv_if_lt (tgt := 65) hx hb dX4_strike_49 (by decide) (fun c19 => ?_) (fun c19 => ?_)
          · replace h := if_t c19 h
            obtain ⟨x20, ex20⟩ : ∃ y : Int32, y = (v1 + (-1 : Int32)) := ⟨_, rfl⟩
            replace h := vl_ok ex20 h
            refine lv_iinc (v := x20) (lv' := [(1, .int x20), (2, .int x15), (0, .ref (w.2.2.1 v0))]) hx hb dX4_strike_65 hl (k := 2) rfl (by rw [ex20]; rfl) (by decide) rfl (fun ls hl => ?_)
            refine lv_goto (tgt := 28) hx hb dX4_strike_68 (by decide) ?_
            obtain ⟨rfl, rfl⟩ := leaf h
            exact hP0_28 rfl _ _ _ hP hS (lv_sub hl [2, 0] rfl)
          · replace h := if_f c19 h
            refine lv_iload_n hx hb dX4_strike_52 rfl (lv_at hl 0 rfl) ?_
            refine lv_bipush (v := (24)) hx hb dX4_strike_53 (by decide) ?_
            refine lv_icmp_ge (tgt := 65) hx hb dX4_strike_55 (by decide) (fun c21 => ?_) (fun c21 => ?_)
            · replace h := if_t c21 h
              obtain ⟨x22, ex22⟩ : ∃ y : Int32, y = (v1 + (-1 : Int32)) := ⟨_, rfl⟩
              replace h := vl_ok ex22 h
              refine lv_iinc (v := x22) (lv' := [(1, .int x22), (2, .int x15), (0, .ref (w.2.2.1 v0))]) hx hb dX4_strike_65 hl (k := 2) rfl (by rw [ex22]; rfl) (by decide) rfl (fun ls hl => ?_)
              refine lv_goto (tgt := 28) hx hb dX4_strike_68 (by decide) ?_
              obtain ⟨rfl, rfl⟩ := leaf h
              exact hP0_28 rfl _ _ _ hP hS (lv_sub hl [2, 0] rfl)
            · replace h := if_f c21 h
              refine lv_aload_n hx hb dX4_strike_58 rfl (lv_at hl 1 rfl) ?_
              refine r_getF (off := 6) C hP (iw hw (fi_4 hk0)) hk0 fl_X4_35 rfl rfl (zw hw) dX4_strike_59 ?_
              refine lv_iload_n hx hb dX4_strike_62 rfl (lv_at hl 0 rfl) ?_
              refine lv_iconst (v := (1)) hx hb dX4_strike_63 (by decide) ?_
              obtain ⟨g24, h⟩ := gd_ok h
              refine r_zast C hP hS (iw hw (ff_4_7 hk0).2) (ff_4_7 hk0).1 g24 (Or.inr rfl) dX4_strike_64 (fun H locs hP hS => ?_)
              obtain ⟨μ23, eμ23, h⟩ := vl_ex h
              have hP : fP w μ23 H := by rw [eμ23]; exact hP
              obtain ⟨x25, ex25⟩ : ∃ y : Int32, y = (v1 + (-1 : Int32)) := ⟨_, rfl⟩
              replace h := vl_ok ex25 h
              refine lv_iinc (v := x25) (lv' := [(1, .int x25), (2, .int x15), (0, .ref (w.2.2.1 v0))]) hx hb dX4_strike_65 hl (k := 2) rfl (by rw [ex25]; rfl) (by decide) rfl (fun ls hl => ?_)
              refine lv_goto (tgt := 28) hx hb dX4_strike_68 (by decide) ?_
              obtain ⟨rfl, rfl⟩ := leaf h
              exact hP0_28 rfl _ _ _ hP hS (lv_sub hl [2, 0] rfl)
    · obtain ⟨x28, μ29⟩ := q27
      intro H locs ls hP hS hl
      have hP : fP w μ29 H := hP
      have hl : lv_has ls 3 [] := hl
      try dsimp only at h
      exact r_vret C hr hP hS h dX4_strike_71

def f_X4_areSo_j86 (v0 : Nat) (v1 : Int32) (v2 : Nat) (v3 : Int32) (t0 : Int32) (μ : fMem) : Option (Nat × (Int32 × fMem)) :=
  gd (ixo v3 24) (if t0 = (μ.1 (v0 + 4) (Int32.toNatClampNeg v3)) then vl (v3 + (1 : Int32)) fun x25 => some (0, (x25, μ)) else some (2, (v3, μ)))
def f_X4_areSo_L2 (v0 : Nat) (v1 : Int32) (v2 : Nat) (v3 : Int32) (μ : fMem) : Option (Nat × (Int32 × fMem)) :=
  bd (f_X4_knownBy v0 μ) fun r2 μ1 => if r2 ≤ v3 then some (1, (v3, μ1)) else gd (ixo v3 24) (if (μ1.1 (v0 + 6) (Int32.toNatClampNeg v3)) = 0 then gd (ixo v3 24) (if (μ1.1 (v0 + 5) (Int32.toNatClampNeg v3)) = (-1 : Int32) then gd (ixo v3 24) (if (μ1.1 (v0 + 1) (Int32.toNatClampNeg v3)) = v1 then gd (ixo v3 24) (vl (μ1.1 (v0 + 2) (Int32.toNatClampNeg v3)) fun x14 => if x14 < 0 then vl (v3 + (1 : Int32)) fun x16 => some (0, (x16, μ1)) else if x14 < (8 : Int32) then gd (ixo x14 8) (gd (ixo v3 24) (if (μ1.1 (v2 + 1) (Int32.toNatClampNeg x14)) = (μ1.1 (v0 + 3) (Int32.toNatClampNeg v3)) then f_X4_areSo_j86 v0 v1 v2 v3 (1 : Int32) μ1 else f_X4_areSo_j86 v0 v1 v2 v3 (0 : Int32) μ1)) else vl (v3 + (1 : Int32)) fun x21 => some (0, (x21, μ1))) else vl (v3 + (1 : Int32)) fun x22 => some (0, (x22, μ1))) else vl (v3 + (1 : Int32)) fun x10 => some (0, (x10, μ1))) else vl (v3 + (1 : Int32)) fun x7 => some (0, (x7, μ1)))
def f_X4_areSo (v0 : Nat) (v1 : Int32) (v2 : Nat) (μ : fMem) : Option (Int32 × fMem) :=
  bd (lpn (fun (q : Int32 × fMem) => f_X4_areSo_L2 v0 v1 v2 q.1 q.2) fuel ((0 : Int32), μ)) fun t26 q27 => (fun (x28 : Int32) (μ29 : fMem) => if t26 = 0 then gd (bl (1 : Int32)) (some ((1 : Int32), μ29)) else gd (bl (0 : Int32)) (some ((0 : Int32), μ29))) q27.1 q27.2
def rm_X4_areSo : Room := { frames := 2, cells := 0, slots := 0, locals := 100 }
set_option maxHeartbeats 4000000 in
set_option maxRecDepth 100000 in
theorem m_X4_areSo (l : Launch) (w : fW) (hJ : fJ w) (hw : w.2.2.2 = sd 0) (v0 : Nat) (v1 : Int32) (v2 : Nat) (hk0 : kd v0 = (4, 4)) (hk2 : kd v2 = (4, 7)) (μ : fMem) {r : Int32} {μr : fMem} (h : f_X4_areSo v0 v1 v2 μ = some (r, μr)) : Met l yX4_areSo (.code yX4_areSo cX4_areSo 5 (some .boolean) :: gw) rm_X4_areSo (fPc w [.ref (w.2.2.1 v0), .int v1, .ref (w.2.2.1 v2)] μ) (fQi w r μr) 0 0 (fA w) := by
  refine met_of hJ (by decide) ?_ (Nat.le_of_ble_eq_true rfl)
  generalize ([.ref (w.2.2.1 v0), .int v1, .ref (w.2.2.1 v2)] : List Value).toArray = args
  intro p e s m below meth c ls C hr hP hl hS
  obtain ⟨hx, hb, hml, hown, hts, hK, -, hlk, hT⟩ := id C
  have hl : lv_has ls 5 [(0, .ref (w.2.2.1 v0)), (1, .int v1), (2, .ref (w.2.2.1 v2))] := hl
  unfold f_X4_areSo at h
  refine lv_iconst (v := (0)) hx hb dX4_areSo_0 (by decide) ?_
  refine lv_istore_n (lv' := [(3, .int (0 : Int32)), (0, .ref (w.2.2.1 v0)), (1, .int v1), (2, .ref (w.2.2.1 v2))]) hx hb dX4_areSo_1 rfl hl (by decide) rfl (fun ls hl => ?_)
  obtain ⟨t26, q27, h30, h⟩ := bd_ok h
  refine lpn_ind (b := (fun (q : Int32 × fMem) => f_X4_areSo_L2 v0 v1 v2 q.1 q.2)) (P := fun (q : Int32 × fMem) => WW p l e rm_X4_areSo s m args below meth c (MQ below (fQi w r μr) args s 0 0 (fA w)) w q.2 5 2 [] [(0, .ref (w.2.2.1 v0)), (1, .int v1), (2, .ref (w.2.2.1 v2)), (3, .int q.1)]) (K := fun t (q : Int32 × fMem) => (t = 0 → WW p l e rm_X4_areSo s m args below meth c (MQ below (fQi w r μr) args s 0 0 (fA w)) w q.2 5 103 [] []) ∧ (t = 1 → WW p l e rm_X4_areSo s m args below meth c (MQ below (fQi w r μr) args s 0 0 (fA w)) w q.2 5 95 [] [])) ?_ fuel ((0 : Int32), μ) t26 q27 h30 ?_ _ _ _ hP hS (lv_sub hl [1, 2, 3, 0] rfl)
  · intro q tz2 sz2 h hP0_2 hK0_2 H locs ls hP hS hl
    obtain ⟨v3, μ⟩ := q
    have hP : fP w μ H := hP
    have hl : lv_has ls 5 [(0, .ref (w.2.2.1 v0)), (1, .int v1), (2, .ref (w.2.2.1 v2)), (3, .int v3)] := hl
    have h : f_X4_areSo_L2 v0 v1 v2 v3 μ = some (tz2, sz2) := h
    unfold f_X4_areSo_L2 at h
    have J86 : ∀ (v3 : Int32) (t0 : Int32) (μ : fMem), f_X4_areSo_j86 v0 v1 v2 v3 t0 μ = some (tz2, sz2) → WW p l e rm_X4_areSo s m args below meth c (MQ below (fQi w r μr) args s 0 0 (fA w)) w μ 5 86 [.int t0] [(0, .ref (w.2.2.1 v0)), (1, .int v1), (2, .ref (w.2.2.1 v2)), (3, .int v3)] := by
      intro v3 t0 μ  h H locs ls hP hS hl
      unfold f_X4_areSo_j86 at h
      refine lv_aload_n hx hb dX4_areSo_86 rfl (lv_at hl 0 rfl) ?_
      refine r_getF (off := 4) C hP (iw hw (fi_4 hk0)) hk0 fl_X4_28 rfl rfl (zw hw) dX4_areSo_87 ?_
      refine lv_iload_n hx hb dX4_areSo_90 rfl (lv_at hl 3 rfl) ?_
      obtain ⟨g23, h⟩ := gd_ok h
      refine r_zald C hP (iw hw (ff_4_5 hk0).2) (ff_4_5 hk0).1 g23 dX4_areSo_91 ?_
      refine lv_icmp_eq (tgt := 97) hx hb dX4_areSo_92 (by decide) (fun c24 => ?_) (fun c24 => ?_)
      · replace h := if_t c24 h
        obtain ⟨x25, ex25⟩ : ∃ y : Int32, y = (v3 + (1 : Int32)) := ⟨_, rfl⟩
        replace h := vl_ok ex25 h
        refine lv_iinc (v := x25) (lv' := [(3, .int x25), (0, .ref (w.2.2.1 v0)), (1, .int v1), (2, .ref (w.2.2.1 v2))]) hx hb dX4_areSo_97 hl (k := 3) rfl (by rw [ex25]; rfl) (by decide) rfl (fun ls hl => ?_)
        refine lv_goto (tgt := 2) hx hb dX4_areSo_100 (by decide) ?_
        obtain ⟨rfl, rfl⟩ := leaf h
        exact hP0_2 rfl _ _ _ hP hS (lv_sub hl [1, 2, 3, 0] rfl)
      · replace h := if_f c24 h
        obtain ⟨rfl, rfl⟩ := leaf h
        exact ((hK0_2 1 rfl).2 rfl) _ _ _ hP hS (lv_sub hl [] rfl)
    refine lv_iload_n hx hb dX4_areSo_2 rfl (lv_at hl 3 rfl) ?_
    refine lv_aload_n hx hb dX4_areSo_3 rfl (lv_at hl 0 rfl) ?_
    obtain ⟨r2, μ1, h3, h⟩ := bd_ok h
    refine go_i (callV_run (As := []) (rest := [.int v3]) C hl hP (hS.wide hJ).2.1 (iw hw (fi_4 hk0)) hk0 (m_X4_knownBy l w hJ hw v0 hk0 μ h3) mv_X4_48 ⟨rfl, rfl, by decide, by decide⟩ rfl rfl (Nat.le_of_ble_eq_true rfl) ⟨Nat.zero_le _, Nat.zero_le _⟩ dX4_areSo_4) hS (fun H locs hP hS => ?_)
    refine lv_icmp_ge (tgt := 103) hx hb dX4_areSo_7 (by decide) (fun c4 => ?_) (fun c4 => ?_)
    · replace h := if_t c4 h
      obtain ⟨rfl, rfl⟩ := leaf h
      exact ((hK0_2 0 rfl).1 rfl) _ _ _ hP hS (lv_sub hl [] rfl)
    · replace h := if_f c4 h
      refine lv_aload_n hx hb dX4_areSo_10 rfl (lv_at hl 0 rfl) ?_
      refine r_getF (off := 6) C hP (iw hw (fi_4 hk0)) hk0 fl_X4_35 rfl rfl (zw hw) dX4_areSo_11 ?_
      refine lv_iload_n hx hb dX4_areSo_14 rfl (lv_at hl 3 rfl) ?_
      obtain ⟨g5, h⟩ := gd_ok h
      refine r_zald C hP (iw hw (ff_4_7 hk0).2) (ff_4_7 hk0).1 g5 dX4_areSo_15 ?_
      refine lv_if_ne (tgt := 97) hx hb dX4_areSo_16 (by decide) (fun c6 => ?_) (fun c6 => ?_)
      · replace h := if_f c6 h
        obtain ⟨x7, ex7⟩ : ∃ y : Int32, y = (v3 + (1 : Int32)) := ⟨_, rfl⟩
        replace h := vl_ok ex7 h
        refine lv_iinc (v := x7) (lv' := [(3, .int x7), (0, .ref (w.2.2.1 v0)), (1, .int v1), (2, .ref (w.2.2.1 v2))]) hx hb dX4_areSo_97 hl (k := 3) rfl (by rw [ex7]; rfl) (by decide) rfl (fun ls hl => ?_)
        refine lv_goto (tgt := 2) hx hb dX4_areSo_100 (by decide) ?_
        obtain ⟨rfl, rfl⟩ := leaf h
        exact hP0_2 rfl _ _ _ hP hS (lv_sub hl [1, 2, 3, 0] rfl)
      · replace h := if_t c6 h
        refine lv_aload_n hx hb dX4_areSo_19 rfl (lv_at hl 0 rfl) ?_
        refine r_getF (off := 5) C hP (iw hw (fi_4 hk0)) hk0 fl_X4_32 rfl rfl (zw hw) dX4_areSo_20 ?_
        refine lv_iload_n hx hb dX4_areSo_23 rfl (lv_at hl 3 rfl) ?_
        obtain ⟨g8, h⟩ := gd_ok h
        refine r_iald C hP (iw hw (ff_4_6 hk0).2) (ff_4_6 hk0).1 g8 dX4_areSo_24 ?_
        refine lv_iconst (v := (-1)) hx hb dX4_areSo_25 (by decide) ?_
        refine lv_icmp_ne (tgt := 97) hx hb dX4_areSo_26 (by decide) (fun c9 => ?_) (fun c9 => ?_)
        · replace h := if_f c9 h
          obtain ⟨x10, ex10⟩ : ∃ y : Int32, y = (v3 + (1 : Int32)) := ⟨_, rfl⟩
          replace h := vl_ok ex10 h
          refine lv_iinc (v := x10) (lv' := [(3, .int x10), (0, .ref (w.2.2.1 v0)), (1, .int v1), (2, .ref (w.2.2.1 v2))]) hx hb dX4_areSo_97 hl (k := 3) rfl (by rw [ex10]; rfl) (by decide) rfl (fun ls hl => ?_)
          refine lv_goto (tgt := 2) hx hb dX4_areSo_100 (by decide) ?_
          obtain ⟨rfl, rfl⟩ := leaf h
          exact hP0_2 rfl _ _ _ hP hS (lv_sub hl [1, 2, 3, 0] rfl)
        · replace h := if_t c9 h
          refine lv_aload_n hx hb dX4_areSo_29 rfl (lv_at hl 0 rfl) ?_
          refine r_getF (off := 1) C hP (iw hw (fi_4 hk0)) hk0 fl_X4_18 rfl rfl (zw hw) dX4_areSo_30 ?_
          refine lv_iload_n hx hb dX4_areSo_33 rfl (lv_at hl 3 rfl) ?_
          obtain ⟨g11, h⟩ := gd_ok h
          refine r_iald C hP (iw hw (ff_4_2 hk0).2) (ff_4_2 hk0).1 g11 dX4_areSo_34 ?_
          refine lv_iload_n hx hb dX4_areSo_35 rfl (lv_at hl 1 rfl) ?_
          refine lv_icmp_eq (tgt := 42) hx hb dX4_areSo_36 (by decide) (fun c12 => ?_) (fun c12 => ?_)
          · replace h := if_t c12 h
            refine lv_aload_n hx hb dX4_areSo_42 rfl (lv_at hl 0 rfl) ?_
            refine r_getF (off := 2) C hP (iw hw (fi_4 hk0)) hk0 fl_X4_22 rfl rfl (zw hw) dX4_areSo_43 ?_
            refine lv_iload_n hx hb dX4_areSo_46 rfl (lv_at hl 3 rfl) ?_
            obtain ⟨g13, h⟩ := gd_ok h
            refine r_iald C hP (iw hw (ff_4_3 hk0).2) (ff_4_3 hk0).1 g13 dX4_areSo_47 ?_
            refine lv_topi (fun x14 ex14 => ?_)
            replace h := vl_ok ex14 h
            refine lv_istore (lv' := [(4, .int x14), (0, .ref (w.2.2.1 v0)), (1, .int v1), (2, .ref (w.2.2.1 v2)), (3, .int v3)]) hx hb dX4_areSo_48 hl (by decide) rfl (fun ls hl => ?_)
            refine lv_iload hx hb dX4_areSo_50 (lv_at hl 0 rfl) ?_
            refine lv_if_lt (tgt := 97) hx hb dX4_areSo_52 (by decide) (fun c15 => ?_) (fun c15 => ?_)
            · replace h := if_t c15 h
              obtain ⟨x16, ex16⟩ : ∃ y : Int32, y = (v3 + (1 : Int32)) := ⟨_, rfl⟩
              replace h := vl_ok ex16 h
              refine lv_iinc (v := x16) (lv' := [(3, .int x16), (4, .int x14), (0, .ref (w.2.2.1 v0)), (1, .int v1), (2, .ref (w.2.2.1 v2))]) hx hb dX4_areSo_97 hl (k := 4) rfl (by rw [ex16]; rfl) (by decide) rfl (fun ls hl => ?_)
              refine lv_goto (tgt := 2) hx hb dX4_areSo_100 (by decide) ?_
              obtain ⟨rfl, rfl⟩ := leaf h
              exact hP0_2 rfl _ _ _ hP hS (lv_sub hl [2, 3, 4, 0] rfl)
            · replace h := if_f c15 h
              refine lv_iload hx hb dX4_areSo_55 (lv_at hl 0 rfl) ?_
              refine lv_bipush (v := (8)) hx hb dX4_areSo_57 (by decide) ?_
              refine lv_icmp_lt (tgt := 65) hx hb dX4_areSo_59 (by decide) (fun c17 => ?_) (fun c17 => ?_)
              · replace h := if_t c17 h
                refine lv_aload_n hx hb dX4_areSo_65 rfl (lv_at hl 3 rfl) ?_
                refine r_getF (off := 1) C hP (iw hw (fi_7 hk2)) hk2 fl_X4_65 rfl rfl (zw hw) dX4_areSo_66 ?_
                refine lv_iload hx hb dX4_areSo_69 (lv_at hl 0 rfl) ?_
                obtain ⟨g18, h⟩ := gd_ok h
                refine r_iald C hP (iw hw (ff_7_0 hk2).2) (ff_7_0 hk2).1 g18 dX4_areSo_71 ?_
                refine lv_aload_n hx hb dX4_areSo_72 rfl (lv_at hl 1 rfl) ?_
                refine r_getF (off := 3) C hP (iw hw (fi_4 hk0)) hk0 fl_X4_25 rfl rfl (zw hw) dX4_areSo_73 ?_
                refine lv_iload_n hx hb dX4_areSo_76 rfl (lv_at hl 4 rfl) ?_
                obtain ⟨g19, h⟩ := gd_ok h
                refine r_iald C hP (iw hw (ff_4_4 hk0).2) (ff_4_4 hk0).1 g19 dX4_areSo_77 ?_
                refine lv_icmp_ne (tgt := 85) hx hb dX4_areSo_78 (by decide) (fun c20 => ?_) (fun c20 => ?_)
                · replace h := if_f c20 h
                  refine lv_iconst (v := (0)) hx hb dX4_areSo_85 (by decide) ?_
                  exact J86 v3 (0 : Int32) μ1  h _ _ _ hP hS (lv_sub hl [1, 2, 3, 4] rfl)
                · replace h := if_t c20 h
                  refine lv_iconst (v := (1)) hx hb dX4_areSo_81 (by decide) ?_
                  refine lv_goto (tgt := 86) hx hb dX4_areSo_82 (by decide) ?_
                  exact J86 v3 (1 : Int32) μ1  h _ _ _ hP hS (lv_sub hl [1, 2, 3, 4] rfl)
              · replace h := if_f c17 h
                refine lv_goto (tgt := 97) hx hb dX4_areSo_62 (by decide) ?_
                obtain ⟨x21, ex21⟩ : ∃ y : Int32, y = (v3 + (1 : Int32)) := ⟨_, rfl⟩
                replace h := vl_ok ex21 h
                refine lv_iinc (v := x21) (lv' := [(3, .int x21), (4, .int x14), (0, .ref (w.2.2.1 v0)), (1, .int v1), (2, .ref (w.2.2.1 v2))]) hx hb dX4_areSo_97 hl (k := 4) rfl (by rw [ex21]; rfl) (by decide) rfl (fun ls hl => ?_)
                refine lv_goto (tgt := 2) hx hb dX4_areSo_100 (by decide) ?_
                obtain ⟨rfl, rfl⟩ := leaf h
                exact hP0_2 rfl _ _ _ hP hS (lv_sub hl [2, 3, 4, 0] rfl)
          · replace h := if_f c12 h
            refine lv_goto (tgt := 97) hx hb dX4_areSo_39 (by decide) ?_
            obtain ⟨x22, ex22⟩ : ∃ y : Int32, y = (v3 + (1 : Int32)) := ⟨_, rfl⟩
            replace h := vl_ok ex22 h
            refine lv_iinc (v := x22) (lv' := [(3, .int x22), (0, .ref (w.2.2.1 v0)), (1, .int v1), (2, .ref (w.2.2.1 v2))]) hx hb dX4_areSo_97 hl (k := 3) rfl (by rw [ex22]; rfl) (by decide) rfl (fun ls hl => ?_)
            refine lv_goto (tgt := 2) hx hb dX4_areSo_100 (by decide) ?_
            obtain ⟨rfl, rfl⟩ := leaf h
            exact hP0_2 rfl _ _ _ hP hS (lv_sub hl [1, 2, 3, 0] rfl)
  · obtain ⟨x28, μ29⟩ := q27
    try dsimp only at h
    refine ⟨fun ht => ?_, fun ht => ?_⟩
    · intro H locs ls hP hS hl
      have hP : fP w μ29 H := hP
      have hl : lv_has ls 5 [] := hl
      replace h := if_t ht h
      refine lv_iconst (v := (1)) hx hb dX4_areSo_103 (by decide) ?_
      exact r_zret C hr hP hS h dX4_areSo_104
    · intro H locs ls hP hS hl
      have hP : fP w μ29 H := hP
      have hl : lv_has ls 5 [] := hl
      replace h := if_f (by rw [ht]; decide) h
      refine lv_iconst (v := (0)) hx hb dX4_areSo_95 (by decide) ?_
      exact r_zret C hr hP hS h dX4_areSo_96

def f_X4_holdOn_L5 (v0 : Nat) (v1 : Nat) (v2 : Nat) (v3 : Int32) (v4 : Int32) (μ : fMem) : Option (Nat × (Int32 × Int32 × fMem)) :=
  bd (f_X4_knownBy v0 μ) fun r2 μ1 => if r2 ≤ v4 then some (1, (v3, v4, μ1)) else gd (ixo v4 24) (if (μ1.1 (v0 + 6) (Int32.toNatClampNeg v4)) = 0 then gd (ixo v4 24) (if (μ1.1 (v0 + 5) (Int32.toNatClampNeg v4)) = (-1 : Int32) then gd (ixo v4 24) (vl (imx v3 (μ1.1 (v0 + 1) (Int32.toNatClampNeg v4))) fun x12 => vl (v4 + (1 : Int32)) fun x13 => some (0, (x12, x13, μ1))) else vl (v4 + (1 : Int32)) fun x10 => some (0, (v3, x10, μ1))) else vl (v4 + (1 : Int32)) fun x7 => some (0, (v3, x7, μ1)))
def f_X4_holdOn_L56 (v0 : Nat) (v1 : Nat) (v2 : Nat) (x16 : Int32) (v4 : Int32) (μ : fMem) : Option (Nat × (Int32 × fMem)) :=
  if x16 < v4 then some (1, (v4, μ)) else if (30 : Int32) < v4 then some (1, (v4, μ)) else bd (f_X0_pass v1 (1 : Int32) μ) fun r22 μ21 => bd (f_X4_areSo v0 v4 v2 μ21) fun r25 μ24 => if r25 = 0 then some (2, (v4, μ24)) else vl (v4 + (1 : Int32)) fun x28 => some (0, (x28, μ24))
def f_X4_holdOn (v0 : Nat) (v1 : Nat) (v2 : Nat) (μ : fMem) : Option (Int32 × fMem) :=
  bd (lpn (fun (q : Int32 × Int32 × fMem) => f_X4_holdOn_L5 v0 v1 v2 q.1 q.2.1 q.2.2) fuel ((0 : Int32), (0 : Int32), μ)) fun t14 q15 => (fun (x16 : Int32) (x17 : Int32) (μ18 : fMem) => bd (lpn (fun (q : Int32 × fMem) => f_X4_holdOn_L56 v0 v1 v2 x16 q.1 q.2) fuel ((1 : Int32), μ18)) fun t29 q30 => (fun (x31 : Int32) (μ32 : fMem) => if t29 = 0 then gd (bl (1 : Int32)) (some ((1 : Int32), μ32)) else gd (bl (0 : Int32)) (some ((0 : Int32), μ32))) q30.1 q30.2) q15.1 q15.2.1 q15.2.2
def rm_X4_holdOn : Room := { frames := 6, cells := 0, slots := 0, locals := 206 }
set_option maxHeartbeats 4000000 in
set_option maxRecDepth 100000 in
theorem m_X4_holdOn (l : Launch) (w : fW) (hJ : fJ w) (hw : w.2.2.2 = sd 0) (v0 : Nat) (v1 : Nat) (v2 : Nat) (hk0 : kd v0 = (4, 4)) (hk1 : kd v1 = (4, 0)) (hk2 : kd v2 = (4, 7)) (μ : fMem) {r : Int32} {μr : fMem} (h : f_X4_holdOn v0 v1 v2 μ = some (r, μr)) : Met l yX4_holdOn (.code yX4_holdOn cX4_holdOn 5 (some .boolean) :: gw) rm_X4_holdOn (fPc w [.ref (w.2.2.1 v0), .ref (w.2.2.1 v1), .ref (w.2.2.1 v2)] μ) (fQi w r μr) 0 0 (fA w) := by
  refine met_of hJ (by decide) ?_ (Nat.le_of_ble_eq_true rfl)
  generalize ([.ref (w.2.2.1 v0), .ref (w.2.2.1 v1), .ref (w.2.2.1 v2)] : List Value).toArray = args
  intro p e s m below meth c ls C hr hP hl hS
  obtain ⟨hx, hb, hml, hown, hts, hK, -, hlk, hT⟩ := id C
  have hl : lv_has ls 5 [(0, .ref (w.2.2.1 v0)), (1, .ref (w.2.2.1 v1)), (2, .ref (w.2.2.1 v2))] := hl
  unfold f_X4_holdOn at h
  refine lv_iconst (v := (0)) hx hb dX4_holdOn_0 (by decide) ?_
  refine lv_istore_n (lv' := [(3, .int (0 : Int32)), (0, .ref (w.2.2.1 v0)), (1, .ref (w.2.2.1 v1)), (2, .ref (w.2.2.1 v2))]) hx hb dX4_holdOn_1 rfl hl (by decide) rfl (fun ls hl => ?_)
  refine lv_iconst (v := (0)) hx hb dX4_holdOn_2 (by decide) ?_
  refine lv_istore (lv' := [(4, .int (0 : Int32)), (3, .int (0 : Int32)), (0, .ref (w.2.2.1 v0)), (1, .ref (w.2.2.1 v1)), (2, .ref (w.2.2.1 v2))]) hx hb dX4_holdOn_3 hl (by decide) rfl (fun ls hl => ?_)
  obtain ⟨t14, q15, h34, h⟩ := bd_ok h
  refine lpn_ind (b := (fun (q : Int32 × Int32 × fMem) => f_X4_holdOn_L5 v0 v1 v2 q.1 q.2.1 q.2.2)) (P := fun (q : Int32 × Int32 × fMem) => WW p l e rm_X4_holdOn s m args below meth c (MQ below (fQi w r μr) args s 0 0 (fA w)) w q.2.2 5 5 [] [(0, .ref (w.2.2.1 v0)), (1, .ref (w.2.2.1 v1)), (2, .ref (w.2.2.1 v2)), (3, .int q.1), (4, .int q.2.1)]) (K := fun _ (q : Int32 × Int32 × fMem) => WW p l e rm_X4_holdOn s m args below meth c (MQ below (fQi w r μr) args s 0 0 (fA w)) w q.2.2 5 53 [] [(0, .ref (w.2.2.1 v0)), (1, .ref (w.2.2.1 v1)), (2, .ref (w.2.2.1 v2)), (3, .int q.1)]) ?_ fuel ((0 : Int32), (0 : Int32), μ) t14 q15 h34 ?_ _ _ _ hP hS (lv_sub hl [2, 3, 4, 1, 0] rfl)
  · intro q tz5 sz5 h hP0_5 hK0_5 H locs ls hP hS hl
    obtain ⟨v3, v4, μ⟩ := q
    have hP : fP w μ H := hP
    have hl : lv_has ls 5 [(0, .ref (w.2.2.1 v0)), (1, .ref (w.2.2.1 v1)), (2, .ref (w.2.2.1 v2)), (3, .int v3), (4, .int v4)] := hl
    have h : f_X4_holdOn_L5 v0 v1 v2 v3 v4 μ = some (tz5, sz5) := h
    unfold f_X4_holdOn_L5 at h
    refine lv_iload hx hb dX4_holdOn_5 (lv_at hl 4 rfl) ?_
    refine lv_aload_n hx hb dX4_holdOn_7 rfl (lv_at hl 0 rfl) ?_
    obtain ⟨r2, μ1, h3, h⟩ := bd_ok h
    refine go_i (callV_run (As := []) (rest := [.int v4]) C hl hP (hS.wide hJ).2.1 (iw hw (fi_4 hk0)) hk0 (m_X4_knownBy l w hJ hw v0 hk0 μ h3) mv_X4_48 ⟨rfl, rfl, by decide, by decide⟩ rfl rfl (Nat.le_of_ble_eq_true rfl) ⟨Nat.zero_le _, Nat.zero_le _⟩ dX4_holdOn_8) hS (fun H locs hP hS => ?_)
    refine lv_icmp_ge (tgt := 53) hx hb dX4_holdOn_11 (by decide) (fun c4 => ?_) (fun c4 => ?_)
    · replace h := if_t c4 h
      obtain ⟨rfl, rfl⟩ := leaf h
      exact (hK0_5 0 rfl) _ _ _ hP hS (lv_sub hl [0, 1, 2, 3] rfl)
    · replace h := if_f c4 h
      refine lv_aload_n hx hb dX4_holdOn_14 rfl (lv_at hl 0 rfl) ?_
      refine r_getF (off := 6) C hP (iw hw (fi_4 hk0)) hk0 fl_X4_35 rfl rfl (zw hw) dX4_holdOn_15 ?_
      refine lv_iload hx hb dX4_holdOn_18 (lv_at hl 4 rfl) ?_
      obtain ⟨g5, h⟩ := gd_ok h
      refine r_zald C hP (iw hw (ff_4_7 hk0).2) (ff_4_7 hk0).1 g5 dX4_holdOn_20 ?_
      refine lv_if_ne (tgt := 47) hx hb dX4_holdOn_21 (by decide) (fun c6 => ?_) (fun c6 => ?_)
      · replace h := if_f c6 h
        obtain ⟨x7, ex7⟩ : ∃ y : Int32, y = (v4 + (1 : Int32)) := ⟨_, rfl⟩
        replace h := vl_ok ex7 h
        refine lv_iinc (v := x7) (lv' := [(4, .int x7), (0, .ref (w.2.2.1 v0)), (1, .ref (w.2.2.1 v1)), (2, .ref (w.2.2.1 v2)), (3, .int v3)]) hx hb dX4_holdOn_47 hl (k := 4) rfl (by rw [ex7]; rfl) (by decide) rfl (fun ls hl => ?_)
        refine lv_goto (tgt := 5) hx hb dX4_holdOn_50 (by decide) ?_
        obtain ⟨rfl, rfl⟩ := leaf h
        exact hP0_5 rfl _ _ _ hP hS (lv_sub hl [1, 2, 3, 4, 0] rfl)
      · replace h := if_t c6 h
        refine lv_aload_n hx hb dX4_holdOn_24 rfl (lv_at hl 0 rfl) ?_
        refine r_getF (off := 5) C hP (iw hw (fi_4 hk0)) hk0 fl_X4_32 rfl rfl (zw hw) dX4_holdOn_25 ?_
        refine lv_iload hx hb dX4_holdOn_28 (lv_at hl 4 rfl) ?_
        obtain ⟨g8, h⟩ := gd_ok h
        refine r_iald C hP (iw hw (ff_4_6 hk0).2) (ff_4_6 hk0).1 g8 dX4_holdOn_30 ?_
        refine lv_iconst (v := (-1)) hx hb dX4_holdOn_31 (by decide) ?_
        refine lv_icmp_ne (tgt := 47) hx hb dX4_holdOn_32 (by decide) (fun c9 => ?_) (fun c9 => ?_)
        · replace h := if_f c9 h
          obtain ⟨x10, ex10⟩ : ∃ y : Int32, y = (v4 + (1 : Int32)) := ⟨_, rfl⟩
          replace h := vl_ok ex10 h
          refine lv_iinc (v := x10) (lv' := [(4, .int x10), (0, .ref (w.2.2.1 v0)), (1, .ref (w.2.2.1 v1)), (2, .ref (w.2.2.1 v2)), (3, .int v3)]) hx hb dX4_holdOn_47 hl (k := 4) rfl (by rw [ex10]; rfl) (by decide) rfl (fun ls hl => ?_)
          refine lv_goto (tgt := 5) hx hb dX4_holdOn_50 (by decide) ?_
          obtain ⟨rfl, rfl⟩ := leaf h
          exact hP0_5 rfl _ _ _ hP hS (lv_sub hl [1, 2, 3, 4, 0] rfl)
        · replace h := if_t c9 h
          refine lv_iload_n hx hb dX4_holdOn_35 rfl (lv_at hl 3 rfl) ?_
          refine lv_aload_n hx hb dX4_holdOn_36 rfl (lv_at hl 0 rfl) ?_
          refine r_getF (off := 1) C hP (iw hw (fi_4 hk0)) hk0 fl_X4_18 rfl rfl (zw hw) dX4_holdOn_37 ?_
          refine lv_iload hx hb dX4_holdOn_40 (lv_at hl 4 rfl) ?_
          obtain ⟨g11, h⟩ := gd_ok h
          refine r_iald C hP (iw hw (ff_4_2 hk0).2) (ff_4_2 hk0).1 g11 dX4_holdOn_42 ?_
          refine b_mmax (rest := []) C hl mm_X4_52 (by decide) (Nat.le_of_ble_eq_true rfl) dX4_holdOn_43 ?_
          refine lv_topi (fun x12 ex12 => ?_)
          replace h := vl_ok ex12 h
          refine lv_istore_n (lv' := [(3, .int x12), (0, .ref (w.2.2.1 v0)), (1, .ref (w.2.2.1 v1)), (2, .ref (w.2.2.1 v2)), (4, .int v4)]) hx hb dX4_holdOn_46 rfl hl (by decide) rfl (fun ls hl => ?_)
          obtain ⟨x13, ex13⟩ : ∃ y : Int32, y = (v4 + (1 : Int32)) := ⟨_, rfl⟩
          replace h := vl_ok ex13 h
          refine lv_iinc (v := x13) (lv' := [(4, .int x13), (3, .int x12), (0, .ref (w.2.2.1 v0)), (1, .ref (w.2.2.1 v1)), (2, .ref (w.2.2.1 v2))]) hx hb dX4_holdOn_47 hl (k := 4) rfl (by rw [ex13]; rfl) (by decide) rfl (fun ls hl => ?_)
          refine lv_goto (tgt := 5) hx hb dX4_holdOn_50 (by decide) ?_
          obtain ⟨rfl, rfl⟩ := leaf h
          exact hP0_5 rfl _ _ _ hP hS (lv_sub hl [2, 3, 4, 1, 0] rfl)
  · obtain ⟨x16, x17, μ18⟩ := q15
    intro H locs ls hP hS hl
    have hP : fP w μ18 H := hP
    have hl : lv_has ls 5 [(0, .ref (w.2.2.1 v0)), (1, .ref (w.2.2.1 v1)), (2, .ref (w.2.2.1 v2)), (3, .int x16)] := hl
    try dsimp only at h
    refine lv_iconst (v := (1)) hx hb dX4_holdOn_53 (by decide) ?_
    refine lv_istore (lv' := [(4, .int (1 : Int32)), (0, .ref (w.2.2.1 v0)), (1, .ref (w.2.2.1 v1)), (2, .ref (w.2.2.1 v2)), (3, .int x16)]) hx hb dX4_holdOn_54 hl (by decide) rfl (fun ls hl => ?_)
    obtain ⟨t29, q30, h33, h⟩ := bd_ok h
    refine lpn_ind (b := (fun (q : Int32 × fMem) => f_X4_holdOn_L56 v0 v1 v2 x16 q.1 q.2)) (P := fun (q : Int32 × fMem) => WW p l e rm_X4_holdOn s m args below meth c (MQ below (fQi w r μr) args s 0 0 (fA w)) w q.2 5 56 [] [(0, .ref (w.2.2.1 v0)), (1, .ref (w.2.2.1 v1)), (2, .ref (w.2.2.1 v2)), (3, .int x16), (4, .int q.1)]) (K := fun t (q : Int32 × fMem) => (t = 0 → WW p l e rm_X4_holdOn s m args below meth c (MQ below (fQi w r μr) args s 0 0 (fA w)) w q.2 5 92 [] []) ∧ (t = 1 → WW p l e rm_X4_holdOn s m args below meth c (MQ below (fQi w r μr) args s 0 0 (fA w)) w q.2 5 84 [] [])) ?_ fuel ((1 : Int32), μ18) t29 q30 h33 ?_ _ _ _ hP hS (lv_sub hl [1, 2, 3, 4, 0] rfl)
    · intro q tz56 sz56 h hP0_56 hK0_56 H locs ls hP hS hl
      obtain ⟨v4, μ⟩ := q
      have hP : fP w μ H := hP
      have hl : lv_has ls 5 [(0, .ref (w.2.2.1 v0)), (1, .ref (w.2.2.1 v1)), (2, .ref (w.2.2.1 v2)), (3, .int x16), (4, .int v4)] := hl
      have h : f_X4_holdOn_L56 v0 v1 v2 x16 v4 μ = some (tz56, sz56) := h
      unfold f_X4_holdOn_L56 at h
      refine lv_iload hx hb dX4_holdOn_56 (lv_at hl 4 rfl) ?_
      refine lv_iload_n hx hb dX4_holdOn_58 rfl (lv_at hl 3 rfl) ?_
      refine lv_icmp_gt (tgt := 92) hx hb dX4_holdOn_59 (by decide) (fun c19 => ?_) (fun c19 => ?_)
      · replace h := if_t c19 h
        obtain ⟨rfl, rfl⟩ := leaf h
        exact ((hK0_56 0 rfl).1 rfl) _ _ _ hP hS (lv_sub hl [] rfl)
      · replace h := if_f c19 h
        refine lv_iload hx hb dX4_holdOn_62 (lv_at hl 4 rfl) ?_
        refine lv_bipush (v := (30)) hx hb dX4_holdOn_64 (by decide) ?_
        refine lv_icmp_gt (tgt := 92) hx hb dX4_holdOn_66 (by decide) (fun c20 => ?_) (fun c20 => ?_)
        · replace h := if_t c20 h
          obtain ⟨rfl, rfl⟩ := leaf h
          exact ((hK0_56 0 rfl).1 rfl) _ _ _ hP hS (lv_sub hl [] rfl)
        · replace h := if_f c20 h
          refine lv_aload_n hx hb dX4_holdOn_69 rfl (lv_at hl 1 rfl) ?_
          refine lv_iconst (v := (1)) hx hb dX4_holdOn_70 (by decide) ?_
          obtain ⟨r22, μ21, h23, h⟩ := bd_ok h
          refine go_v (callV_run (As := [.int (1 : Int32)]) (rest := []) C hl hP (hS.wide hJ).2.1 (iw hw (fi_0 hk1)) hk1 (m_X0_pass l w hJ hw v1 (1 : Int32) hk1 μ h23) mv_X4_55 ⟨rfl, rfl, by decide, by decide⟩ rfl rfl (Nat.le_of_ble_eq_true rfl) ⟨Nat.zero_le _, Nat.zero_le _⟩ dX4_holdOn_71) hS (fun H locs hP hS => ?_)
          refine lv_aload_n hx hb dX4_holdOn_74 rfl (lv_at hl 0 rfl) ?_
          refine lv_iload hx hb dX4_holdOn_75 (lv_at hl 4 rfl) ?_
          refine lv_aload_n hx hb dX4_holdOn_77 rfl (lv_at hl 2 rfl) ?_
          obtain ⟨r25, μ24, h26, h⟩ := bd_ok h
          refine go_i (callV_run (As := [.int v4, .ref (w.2.2.1 v2)]) (rest := []) C hl hP (hS.wide hJ).2.1 (iw hw (fi_4 hk0)) hk0 (m_X4_areSo l w hJ hw v0 v4 v2 hk0 hk2 μ21 h26) mv_X4_61 ⟨rfl, rfl, by decide, by decide⟩ rfl rfl (Nat.le_of_ble_eq_true rfl) ⟨Nat.zero_le _, Nat.zero_le _⟩ dX4_holdOn_78) hS (fun H locs hP hS => ?_)
          refine lv_if_ne (tgt := 86) hx hb dX4_holdOn_81 (by decide) (fun c27 => ?_) (fun c27 => ?_)
          · replace h := if_f c27 h
            obtain ⟨x28, ex28⟩ : ∃ y : Int32, y = (v4 + (1 : Int32)) := ⟨_, rfl⟩
            replace h := vl_ok ex28 h
            refine lv_iinc (v := x28) (lv' := [(4, .int x28), (0, .ref (w.2.2.1 v0)), (1, .ref (w.2.2.1 v1)), (2, .ref (w.2.2.1 v2)), (3, .int x16)]) hx hb dX4_holdOn_86 hl (k := 4) rfl (by rw [ex28]; rfl) (by decide) rfl (fun ls hl => ?_)
            refine lv_goto (tgt := 56) hx hb dX4_holdOn_89 (by decide) ?_
            obtain ⟨rfl, rfl⟩ := leaf h
            exact hP0_56 rfl _ _ _ hP hS (lv_sub hl [1, 2, 3, 4, 0] rfl)
          · replace h := if_t c27 h
            obtain ⟨rfl, rfl⟩ := leaf h
            exact ((hK0_56 1 rfl).2 rfl) _ _ _ hP hS (lv_sub hl [] rfl)
    · obtain ⟨x31, μ32⟩ := q30
      try dsimp only at h
      refine ⟨fun ht => ?_, fun ht => ?_⟩
      · intro H locs ls hP hS hl
        have hP : fP w μ32 H := hP
        have hl : lv_has ls 5 [] := hl
        replace h := if_t ht h
        refine lv_iconst (v := (1)) hx hb dX4_holdOn_92 (by decide) ?_
        exact r_zret C hr hP hS h dX4_holdOn_93
      · intro H locs ls hP hS hl
        have hP : fP w μ32 H := hP
        have hl : lv_has ls 5 [] := hl
        replace h := if_f (by rw [ht]; decide) h
        refine lv_iconst (v := (0)) hx hb dX4_holdOn_84 (by decide) ?_
        exact r_zret C hr hP hS h dX4_holdOn_85

def f_X9_signAt (v0 : Nat) (v1 : Int32) (μ : fMem) : Option (Int32 × fMem) :=
  if v1 < 0 then some ((0 : Int32), μ) else if (μ.1 v0 9) ≤ v1 then some ((0 : Int32), μ) else if (700 : Int32) ≤ v1 then some ((0 : Int32), μ) else gd (ixo v1 700) (some ((μ.1 (v0 + 5) (Int32.toNatClampNeg v1)), μ))
def rm_X9_signAt : Room := { frames := 0, cells := 0, slots := 0, locals := 0 }
set_option maxHeartbeats 4000000 in
set_option maxRecDepth 100000 in
theorem m_X9_signAt (l : Launch) (w : fW) (hJ : fJ w) (hw : w.2.2.2 = sd 0) (v0 : Nat) (v1 : Int32) (hk0 : kd v0 = (4, 9)) (μ : fMem) {r : Int32} {μr : fMem} (h : f_X9_signAt v0 v1 μ = some (r, μr)) : Met l yX9_signAt (.code yX9_signAt cX9_signAt 2 (some .int) :: gw) rm_X9_signAt (fPc w [.ref (w.2.2.1 v0), .int v1] μ) (fQi w r μr) 0 0 (fA w) := by
  refine met_of hJ (by decide) ?_ (Nat.le_of_ble_eq_true rfl)
  generalize ([.ref (w.2.2.1 v0), .int v1] : List Value).toArray = args
  intro p e s m below meth c ls C hr hP hl hS
  obtain ⟨hx, hb, hml, hown, hts, hK, -, hlk, hT⟩ := id C
  have hl : lv_has ls 2 [(0, .ref (w.2.2.1 v0)), (1, .int v1)] := hl
  unfold f_X9_signAt at h
  refine lv_iload_n hx hb dX9_signAt_0 rfl (lv_at hl 1 rfl) ?_
  refine lv_if_lt (tgt := 30) hx hb dX9_signAt_1 (by decide) (fun c1 => ?_) (fun c1 => ?_)
  · replace h := if_t c1 h
    refine lv_iconst (v := (0)) hx hb dX9_signAt_30 (by decide) ?_
    exact r_iret C hr hP hS h dX9_signAt_31
  · replace h := if_f c1 h
    refine lv_iload_n hx hb dX9_signAt_4 rfl (lv_at hl 1 rfl) ?_
    refine lv_aload_n hx hb dX9_signAt_5 rfl (lv_at hl 0 rfl) ?_
    refine r_getI C hP (iw hw (fi_9 hk0)) hk0 fl_X9_40 (Or.inl rfl) dX9_signAt_6 ?_
    refine lv_icmp_ge (tgt := 30) hx hb dX9_signAt_9 (by decide) (fun c2 => ?_) (fun c2 => ?_)
    · replace h := if_t c2 h
      refine lv_iconst (v := (0)) hx hb dX9_signAt_30 (by decide) ?_
      exact r_iret C hr hP hS h dX9_signAt_31
    · replace h := if_f c2 h
      refine lv_iload_n hx hb dX9_signAt_12 rfl (lv_at hl 1 rfl) ?_
      refine lv_aload_n hx hb dX9_signAt_13 rfl (lv_at hl 0 rfl) ?_
      refine r_getF (off := 5) C hP (iw hw (fi_9 hk0)) hk0 fl_X9_37 rfl rfl (zw hw) dX9_signAt_14 ?_
      refine r_alen (v := 700) C hP (iw hw (ff_9_8 hk0).2) (Or.inl (ff_9_8 hk0).1) (by decide) dX9_signAt_17 ?_
      refine lv_icmp_ge (tgt := 30) hx hb dX9_signAt_18 (by decide) (fun c3 => ?_) (fun c3 => ?_)
      · replace h := if_t c3 h
        refine lv_iconst (v := (0)) hx hb dX9_signAt_30 (by decide) ?_
        exact r_iret C hr hP hS h dX9_signAt_31
      · replace h := if_f c3 h
        refine lv_aload_n hx hb dX9_signAt_21 rfl (lv_at hl 0 rfl) ?_
        refine r_getF (off := 5) C hP (iw hw (fi_9 hk0)) hk0 fl_X9_37 rfl rfl (zw hw) dX9_signAt_22 ?_
        refine lv_iload_n hx hb dX9_signAt_25 rfl (lv_at hl 1 rfl) ?_
        obtain ⟨g4, h⟩ := gd_ok h
        refine r_iald C hP (iw hw (ff_9_8 hk0).2) (ff_9_8 hk0).1 g4 dX9_signAt_26 ?_
        refine lv_goto (tgt := 31) hx hb dX9_signAt_27 (by decide) ?_
        exact r_iret C hr hP hS h dX9_signAt_31

def f_X9_isLetter (v0 : Int32) (μ : fMem) : Option (Int32 × fMem) :=
  if v0 < (97 : Int32) then gd (bl (0 : Int32)) (some ((0 : Int32), μ)) else if (122 : Int32) < v0 then gd (bl (0 : Int32)) (some ((0 : Int32), μ)) else gd (bl (1 : Int32)) (some ((1 : Int32), μ))
def rm_X9_isLetter : Room := { frames := 0, cells := 0, slots := 0, locals := 0 }
set_option maxHeartbeats 4000000 in
set_option maxRecDepth 100000 in
theorem m_X9_isLetter (l : Launch) (w : fW) (hJ : fJ w) (hw : w.2.2.2 = sd 0) (v0 : Int32) (μ : fMem) {r : Int32} {μr : fMem} (h : f_X9_isLetter v0 μ = some (r, μr)) : Met l yX9_isLetter (.code yX9_isLetter cX9_isLetter 1 (some .boolean) :: gw) rm_X9_isLetter (fPc w [.int v0] μ) (fQi w r μr) 0 0 (fA w) := by
  refine met_of hJ (by decide) ?_ (Nat.le_of_ble_eq_true rfl)
  generalize ([.int v0] : List Value).toArray = args
  intro p e s m below meth c ls C hr hP hl hS
  obtain ⟨hx, hb, hml, hown, hts, hK, -, hlk, hT⟩ := id C
  have hl : lv_has ls 1 [(0, .int v0)] := hl
  unfold f_X9_isLetter at h
  refine lv_iload_n hx hb dX9_isLetter_0 rfl (lv_at hl 0 rfl) ?_
  refine lv_bipush (v := (97)) hx hb dX9_isLetter_1 (by decide) ?_
  refine lv_icmp_lt (tgt := 16) hx hb dX9_isLetter_3 (by decide) (fun c1 => ?_) (fun c1 => ?_)
  · replace h := if_t c1 h
    refine lv_iconst (v := (0)) hx hb dX9_isLetter_16 (by decide) ?_
    exact r_zret C hr hP hS h dX9_isLetter_17
  · replace h := if_f c1 h
    refine lv_iload_n hx hb dX9_isLetter_6 rfl (lv_at hl 0 rfl) ?_
    refine lv_bipush (v := (122)) hx hb dX9_isLetter_7 (by decide) ?_
    refine lv_icmp_gt (tgt := 16) hx hb dX9_isLetter_9 (by decide) (fun c2 => ?_) (fun c2 => ?_)
    · replace h := if_t c2 h
      refine lv_iconst (v := (0)) hx hb dX9_isLetter_16 (by decide) ?_
      exact r_zret C hr hP hS h dX9_isLetter_17
    · replace h := if_f c2 h
      refine lv_iconst (v := (1)) hx hb dX9_isLetter_12 (by decide) ?_
      refine lv_goto (tgt := 17) hx hb dX9_isLetter_13 (by decide) ?_
      exact r_zret C hr hP hS h dX9_isLetter_17

def f_X9_cutWord_j62 (v0 : Nat) (μ : fMem) : Option (Nat × (fMem)) :=
  vl (sI μ v0 10 ((μ.1 v0 10) + (1 : Int32))) fun μ14 => some (0, (μ14))
def f_X9_cutWord_L0 (v0 : Nat)  (μ : fMem) : Option (Nat × (fMem)) :=
  if (μ.1 v0 9) ≤ (μ.1 v0 10) then some (1, (μ)) else bd (f_X9_signAt v0 (μ.1 v0 10) μ) fun r3 μ2 => bd (f_X9_isLetter r3 μ2) fun r6 μ5 => if r6 = 0 then some (1, (μ5)) else if (6 : Int32) ≤ ((μ5.1 v0 10) - (μ5.1 v0 1)) then f_X9_cutWord_j62 v0 μ5 else bd (f_X9_signAt v0 (μ5.1 v0 10) μ5) fun r11 μ10 => vl (sI μ10 v0 2 (((μ5.1 v0 2) * (32 : Int32)) + (r11 &&& (31 : Int32)))) fun μ13 => f_X9_cutWord_j62 v0 μ13
def f_X9_cutWord_L87 (v0 : Nat) (x18 : Int32) (v2 : Int32) (μ : fMem) : Option (Nat × (Int32 × fMem)) :=
  if (6 : Int32) ≤ v2 then some (1, (v2, μ)) else vl (sI μ v0 2 ((μ.1 v0 2) * (32 : Int32))) fun μ20 => vl (v2 + (1 : Int32)) fun x21 => some (0, (x21, μ20))
def f_X9_cutWord_L129 (v0 : Nat) (v2 : Int32) (μ : fMem) : Option (Nat × (Int32 × fMem)) :=
  if (20 : Int32) ≤ v2 then some (1, (v2, μ)) else if (μ.1 v0 0) = (20 : Int32) then gd (ixo v2 20) (if (μ.1 (v0 + 1) (Int32.toNatClampNeg v2)) = (μ.1 v0 2) then vl (sI μ v0 0 v2) fun μ36 => vl (v2 + (1 : Int32)) fun x37 => some (0, (x37, μ36)) else vl (v2 + (1 : Int32)) fun x35 => some (0, (x35, μ))) else vl (v2 + (1 : Int32)) fun x32 => some (0, (x32, μ))
def f_X9_cutWord_j124 (v0 : Nat) (t0 : Nat) (t1 : Int32) (μ : fMem) : Option (Unit × fMem) :=
  vl (sI μ t0 0 t1) fun μ29 => bd (lpn (fun (q : Int32 × fMem) => f_X9_cutWord_L129 v0 q.1 q.2) fuel ((0 : Int32), μ29)) fun t38 q39 => (fun (x40 : Int32) (μ41 : fMem) => some ((), μ41)) q39.1 q39.2
def f_X9_cutWord (v0 : Nat) (μ : fMem) : Option (Unit × fMem) :=
  bd (lpn (fun (q : fMem) => f_X9_cutWord_L0 v0 q) fuel (μ)) fun t15 q16 => (fun  (q16 : fMem) => vl ((q16.1 v0 10) - (q16.1 v0 1)) fun x18 => bd (lpn (fun (q : Int32 × fMem) => f_X9_cutWord_L87 v0 x18 q.1 q.2) fuel (x18, q16)) fun t22 q23 => (fun (x24 : Int32) (μ25 : fMem) => if x18 ≤ (6 : Int32) then f_X9_cutWord_j124 v0 v0 (20 : Int32) μ25 else f_X9_cutWord_j124 v0 v0 (23 : Int32) μ25) q23.1 q23.2) q16
def rm_X9_cutWord : Room := { frames := 1, cells := 0, slots := 0, locals := 21 }
set_option maxHeartbeats 4000000 in
set_option maxRecDepth 100000 in
theorem m_X9_cutWord (l : Launch) (w : fW) (hJ : fJ w) (hw : w.2.2.2 = sd 0) (v0 : Nat) (hk0 : kd v0 = (4, 9)) (μ : fMem) {r : Unit} {μr : fMem} (h : f_X9_cutWord v0 μ = some (r, μr)) : Met l yX9_cutWord (.code yX9_cutWord cX9_cutWord 3 none :: gw) rm_X9_cutWord (fPc w [.ref (w.2.2.1 v0)] μ) (fQv w μr) 0 0 (fA w) := by
  refine met_of hJ (by decide) ?_ (Nat.le_of_ble_eq_true rfl)
  generalize ([.ref (w.2.2.1 v0)] : List Value).toArray = args
  intro p e s m below meth c ls C hr hP hl hS
  obtain ⟨hx, hb, hml, hown, hts, hK, -, hlk, hT⟩ := id C
  have hl : lv_has ls 3 [(0, .ref (w.2.2.1 v0))] := hl
  unfold f_X9_cutWord at h
  have J124 : ∀ (t0 : Nat) (t1 : Int32) (μ : fMem) (_ : kd t0 = (4, 9)) (_ : inW w.2.2.2 t0), f_X9_cutWord_j124 v0 t0 t1 μ = some (r, μr) → WW p l e rm_X9_cutWord s m args below meth c (MQ below (fQv w μr) args s 0 0 (fA w)) w μ 3 124 [.int t1, .ref (w.2.2.1 t0)] [(0, .ref (w.2.2.1 v0))] := by
    intro t0 t1 μ kt0 it0 h H locs ls hP hS hl
    unfold f_X9_cutWord_j124 at h
    refine r_putI C hP hS it0 kt0 fp_X9_9 rfl dX9_cutWord_124 (fun H locs hP hS => ?_)
    obtain ⟨μ29, eμ29, h⟩ := vl_ex h
    have hP : fP w μ29 H := by rw [eμ29]; exact hP
    refine lv_iconst (v := (0)) hx hb dX9_cutWord_127 (by decide) ?_
    refine lv_istore_n (lv' := [(2, .int (0 : Int32)), (0, .ref (w.2.2.1 v0))]) hx hb dX9_cutWord_128 rfl hl (by decide) rfl (fun ls hl => ?_)
    obtain ⟨t38, q39, h42, h⟩ := bd_ok h
    refine lpn_ind (b := (fun (q : Int32 × fMem) => f_X9_cutWord_L129 v0 q.1 q.2)) (P := fun (q : Int32 × fMem) => WW p l e rm_X9_cutWord s m args below meth c (MQ below (fQv w μr) args s 0 0 (fA w)) w q.2 3 129 [] [(0, .ref (w.2.2.1 v0)), (2, .int q.1)]) (K := fun _ (q : Int32 × fMem) => WW p l e rm_X9_cutWord s m args below meth c (MQ below (fQv w μr) args s 0 0 (fA w)) w q.2 3 171 [] []) ?_ fuel ((0 : Int32), μ29) t38 q39 h42 ?_ _ _ _ hP hS (lv_sub hl [1, 0] rfl)
    · intro q tz129 sz129 h hP0_129 hK0_129 H locs ls hP hS hl
      obtain ⟨v2, μ⟩ := q
      have hP : fP w μ H := hP
      have hl : lv_has ls 3 [(0, .ref (w.2.2.1 v0)), (2, .int v2)] := hl
      have h : f_X9_cutWord_L129 v0 v2 μ = some (tz129, sz129) := h
      unfold f_X9_cutWord_L129 at h
      refine lv_iload_n hx hb dX9_cutWord_129 rfl (lv_at hl 1 rfl) ?_
      refine lv_aload_n hx hb dX9_cutWord_130 rfl (lv_at hl 0 rfl) ?_
      refine r_getF (off := 1) C hP (iw hw (fi_9 hk0)) hk0 fl_X9_21 rfl rfl (zw hw) dX9_cutWord_131 ?_
      refine r_alen (v := 20) C hP (iw hw (ff_9_3 hk0).2) (Or.inl (ff_9_3 hk0).1) (by decide) dX9_cutWord_134 ?_
      refine lv_icmp_ge (tgt := 171) hx hb dX9_cutWord_135 (by decide) (fun c30 => ?_) (fun c30 => ?_)
      · replace h := if_t c30 h
        obtain ⟨rfl, rfl⟩ := leaf h
        exact (hK0_129 0 rfl) _ _ _ hP hS (lv_sub hl [] rfl)
      · replace h := if_f c30 h
        refine lv_aload_n hx hb dX9_cutWord_138 rfl (lv_at hl 0 rfl) ?_
        refine r_getI C hP (iw hw (fi_9 hk0)) hk0 fl_X9_9 (Or.inl rfl) dX9_cutWord_139 ?_
        refine lv_bipush (v := (20)) hx hb dX9_cutWord_142 (by decide) ?_
        refine lv_icmp_ne (tgt := 165) hx hb dX9_cutWord_144 (by decide) (fun c31 => ?_) (fun c31 => ?_)
        · replace h := if_f c31 h
          obtain ⟨x32, ex32⟩ : ∃ y : Int32, y = (v2 + (1 : Int32)) := ⟨_, rfl⟩
          replace h := vl_ok ex32 h
          refine lv_iinc (v := x32) (lv' := [(2, .int x32), (0, .ref (w.2.2.1 v0))]) hx hb dX9_cutWord_165 hl (k := 1) rfl (by rw [ex32]; rfl) (by decide) rfl (fun ls hl => ?_)
          refine lv_goto (tgt := 129) hx hb dX9_cutWord_168 (by decide) ?_
          obtain ⟨rfl, rfl⟩ := leaf h
          exact hP0_129 rfl _ _ _ hP hS (lv_sub hl [1, 0] rfl)
        · replace h := if_t c31 h
          refine lv_aload_n hx hb dX9_cutWord_147 rfl (lv_at hl 0 rfl) ?_
          refine r_getF (off := 1) C hP (iw hw (fi_9 hk0)) hk0 fl_X9_21 rfl rfl (zw hw) dX9_cutWord_148 ?_
          refine lv_iload_n hx hb dX9_cutWord_151 rfl (lv_at hl 1 rfl) ?_
          obtain ⟨g33, h⟩ := gd_ok h
          refine r_iald C hP (iw hw (ff_9_3 hk0).2) (ff_9_3 hk0).1 g33 dX9_cutWord_152 ?_
          refine lv_aload_n hx hb dX9_cutWord_153 rfl (lv_at hl 0 rfl) ?_
          refine r_getI C hP (iw hw (fi_9 hk0)) hk0 fl_X9_18 (Or.inl rfl) dX9_cutWord_154 ?_
          refine lv_icmp_ne (tgt := 165) hx hb dX9_cutWord_157 (by decide) (fun c34 => ?_) (fun c34 => ?_)
          · replace h := if_f c34 h
            obtain ⟨x35, ex35⟩ : ∃ y : Int32, y = (v2 + (1 : Int32)) := ⟨_, rfl⟩
            replace h := vl_ok ex35 h
            refine lv_iinc (v := x35) (lv' := [(2, .int x35), (0, .ref (w.2.2.1 v0))]) hx hb dX9_cutWord_165 hl (k := 1) rfl (by rw [ex35]; rfl) (by decide) rfl (fun ls hl => ?_)
            refine lv_goto (tgt := 129) hx hb dX9_cutWord_168 (by decide) ?_
            obtain ⟨rfl, rfl⟩ := leaf h
            exact hP0_129 rfl _ _ _ hP hS (lv_sub hl [1, 0] rfl)
          · replace h := if_t c34 h
            refine lv_aload_n hx hb dX9_cutWord_160 rfl (lv_at hl 0 rfl) ?_
            refine lv_iload_n hx hb dX9_cutWord_161 rfl (lv_at hl 1 rfl) ?_
            refine r_putI C hP hS (iw hw (fi_9 hk0)) hk0 fp_X9_9 rfl dX9_cutWord_162 (fun H locs hP hS => ?_)
            obtain ⟨μ36, eμ36, h⟩ := vl_ex h
            have hP : fP w μ36 H := by rw [eμ36]; exact hP
            obtain ⟨x37, ex37⟩ : ∃ y : Int32, y = (v2 + (1 : Int32)) := ⟨_, rfl⟩
            replace h := vl_ok ex37 h
            refine lv_iinc (v := x37) (lv' := [(2, .int x37), (0, .ref (w.2.2.1 v0))]) hx hb dX9_cutWord_165 hl (k := 1) rfl (by rw [ex37]; rfl) (by decide) rfl (fun ls hl => ?_)
            refine lv_goto (tgt := 129) hx hb dX9_cutWord_168 (by decide) ?_
            obtain ⟨rfl, rfl⟩ := leaf h
            exact hP0_129 rfl _ _ _ hP hS (lv_sub hl [1, 0] rfl)
    · obtain ⟨x40, μ41⟩ := q39
      intro H locs ls hP hS hl
      have hP : fP w μ41 H := hP
      have hl : lv_has ls 3 [] := hl
      try dsimp only at h
      exact r_vret C hr hP hS h dX9_cutWord_171
  obtain ⟨t15, q16, h28, h⟩ := bd_ok h
  refine lpn_ind (b := (fun (q : fMem) => f_X9_cutWord_L0 v0 q)) (P := fun (q : fMem) => WW p l e rm_X9_cutWord s m args below meth c (MQ below (fQv w μr) args s 0 0 (fA w)) w q 3 0 [] [(0, .ref (w.2.2.1 v0))]) (K := fun _ (q : fMem) => WW p l e rm_X9_cutWord s m args below meth c (MQ below (fQv w μr) args s 0 0 (fA w)) w q 3 75 [] [(0, .ref (w.2.2.1 v0))]) ?_ fuel (μ) t15 q16 h28 ?_ _ _ _ hP hS (lv_sub hl [0] rfl)
  · intro μ tz0 sz0 h hP0_0 hK0_0 H locs ls hP hS hl
    have hP : fP w μ H := hP
    have hl : lv_has ls 3 [(0, .ref (w.2.2.1 v0))] := hl
    have h : f_X9_cutWord_L0 v0  μ = some (tz0, sz0) := h
    unfold f_X9_cutWord_L0 at h
    have J62 : ∀  (μ : fMem), f_X9_cutWord_j62 v0 μ = some (tz0, sz0) → WW p l e rm_X9_cutWord s m args below meth c (MQ below (fQv w μr) args s 0 0 (fA w)) w μ 3 62 [] [(0, .ref (w.2.2.1 v0))] := by
      intro  μ  h H locs ls hP hS hl
      unfold f_X9_cutWord_j62 at h
      refine lv_aload_n hx hb dX9_cutWord_62 rfl (lv_at hl 0 rfl) ?_
      refine lv_dup hx hb dX9_cutWord_63 rfl ?_
      refine r_getI C hP (iw hw (fi_9 hk0)) hk0 fl_X9_43 (Or.inl rfl) dX9_cutWord_64 ?_
      refine lv_iconst (v := (1)) hx hb dX9_cutWord_67 (by decide) ?_
      refine lv_iadd hx hb dX9_cutWord_68 ?_
      refine r_putI C hP hS (iw hw (fi_9 hk0)) hk0 fp_X9_43 rfl dX9_cutWord_69 (fun H locs hP hS => ?_)
      obtain ⟨μ14, eμ14, h⟩ := vl_ex h
      have hP : fP w μ14 H := by rw [eμ14]; exact hP
      refine lv_goto (tgt := 0) hx hb dX9_cutWord_72 (by decide) ?_
      obtain ⟨rfl, rfl⟩ := leaf h
      exact hP0_0 rfl _ _ _ hP hS (lv_sub hl [0] rfl)
    refine lv_aload_n hx hb dX9_cutWord_0 rfl (lv_at hl 0 rfl) ?_
    refine r_getI C hP (iw hw (fi_9 hk0)) hk0 fl_X9_43 (Or.inl rfl) dX9_cutWord_1 ?_
    refine lv_aload_n hx hb dX9_cutWord_4 rfl (lv_at hl 0 rfl) ?_
    refine r_getI C hP (iw hw (fi_9 hk0)) hk0 fl_X9_40 (Or.inl rfl) dX9_cutWord_5 ?_
    refine lv_icmp_ge (tgt := 75) hx hb dX9_cutWord_8 (by decide) (fun c1 => ?_) (fun c1 => ?_)
    · replace h := if_t c1 h
      obtain ⟨rfl, rfl⟩ := leaf h
      exact (hK0_0 0 rfl) _ _ _ hP hS (lv_sub hl [0] rfl)
    · replace h := if_f c1 h
      refine lv_aload_n hx hb dX9_cutWord_11 rfl (lv_at hl 0 rfl) ?_
      refine lv_aload_n hx hb dX9_cutWord_12 rfl (lv_at hl 0 rfl) ?_
      refine r_getI C hP (iw hw (fi_9 hk0)) hk0 fl_X9_43 (Or.inl rfl) dX9_cutWord_13 ?_
      obtain ⟨r3, μ2, h4, h⟩ := bd_ok h
      refine go_i (callV_run (As := [.int (μ.1 v0 10)]) (rest := []) C hl hP (hS.wide hJ).2.1 (iw hw (fi_9 hk0)) hk0 (m_X9_signAt l w hJ hw v0 (μ.1 v0 10) hk0 μ h4) mv_X9_79 ⟨rfl, rfl, by decide, by decide⟩ rfl rfl (Nat.le_of_ble_eq_true rfl) ⟨Nat.zero_le _, Nat.zero_le _⟩ dX9_cutWord_16) hS (fun H locs hP hS => ?_)
      obtain ⟨r6, μ5, h7, h⟩ := bd_ok h
      refine go_i (callS_run (As := [.int r3]) (rest := []) C hl hP (hS.wide hJ).2.1 (m_X9_isLetter l w hJ hw r3  μ2 h7) ms_X9_83 ⟨rfl, rfl, by decide, by decide⟩ rfl rfl (Nat.le_of_ble_eq_true rfl) ⟨Nat.zero_le _, Nat.zero_le _⟩ dX9_cutWord_19) hS (fun H locs hP hS => ?_)
      refine lv_if_eq (tgt := 75) hx hb dX9_cutWord_22 (by decide) (fun c8 => ?_) (fun c8 => ?_)
      · replace h := if_t c8 h
        obtain ⟨rfl, rfl⟩ := leaf h
        exact (hK0_0 0 rfl) _ _ _ hP hS (lv_sub hl [0] rfl)
      · replace h := if_f c8 h
        refine lv_aload_n hx hb dX9_cutWord_25 rfl (lv_at hl 0 rfl) ?_
        refine r_getI C hP (iw hw (fi_9 hk0)) hk0 fl_X9_43 (Or.inl rfl) dX9_cutWord_26 ?_
        refine lv_aload_n hx hb dX9_cutWord_29 rfl (lv_at hl 0 rfl) ?_
        refine r_getI C hP (iw hw (fi_9 hk0)) hk0 fl_X9_15 (Or.inl rfl) dX9_cutWord_30 ?_
        refine lv_isub hx hb dX9_cutWord_33 ?_
        refine lv_bipush (v := (6)) hx hb dX9_cutWord_34 (by decide) ?_
        refine lv_icmp_ge (tgt := 62) hx hb dX9_cutWord_36 (by decide) (fun c9 => ?_) (fun c9 => ?_)
        · replace h := if_t c9 h
          exact J62  μ5  h _ _ _ hP hS (lv_sub hl [0] rfl)
        · replace h := if_f c9 h
          refine lv_aload_n hx hb dX9_cutWord_39 rfl (lv_at hl 0 rfl) ?_
          refine lv_aload_n hx hb dX9_cutWord_40 rfl (lv_at hl 0 rfl) ?_
          refine r_getI C hP (iw hw (fi_9 hk0)) hk0 fl_X9_18 (Or.inl rfl) dX9_cutWord_41 ?_
          refine lv_bipush (v := (32)) hx hb dX9_cutWord_44 (by decide) ?_
          refine lv_imul hx hb dX9_cutWord_46 ?_
          refine lv_aload_n hx hb dX9_cutWord_47 rfl (lv_at hl 0 rfl) ?_
          refine lv_aload_n hx hb dX9_cutWord_48 rfl (lv_at hl 0 rfl) ?_
          refine r_getI C hP (iw hw (fi_9 hk0)) hk0 fl_X9_43 (Or.inl rfl) dX9_cutWord_49 ?_
          obtain ⟨r11, μ10, h12, h⟩ := bd_ok h
          refine go_i (callV_run (As := [.int (μ5.1 v0 10)]) (rest := [.int ((μ5.1 v0 2) * (32 : Int32)), .ref (w.2.2.1 v0)]) C hl hP (hS.wide hJ).2.1 (iw hw (fi_9 hk0)) hk0 (m_X9_signAt l w hJ hw v0 (μ5.1 v0 10) hk0 μ5 h12) mv_X9_79 ⟨rfl, rfl, by decide, by decide⟩ rfl rfl (Nat.le_of_ble_eq_true rfl) ⟨Nat.zero_le _, Nat.zero_le _⟩ dX9_cutWord_52) hS (fun H locs hP hS => ?_)
          refine lv_bipush (v := (31)) hx hb dX9_cutWord_55 (by decide) ?_
          refine lv_iand hx hb dX9_cutWord_57 ?_
          refine lv_iadd hx hb dX9_cutWord_58 ?_
          refine r_putI C hP hS (iw hw (fi_9 hk0)) hk0 fp_X9_18 rfl dX9_cutWord_59 (fun H locs hP hS => ?_)
          obtain ⟨μ13, eμ13, h⟩ := vl_ex h
          have hP : fP w μ13 H := by rw [eμ13]; exact hP
          exact J62  μ13  h _ _ _ hP hS (lv_sub hl [0] rfl)
  · skip
    intro H locs ls hP hS hl
    have hP : fP w q16 H := hP
    have hl : lv_has ls 3 [(0, .ref (w.2.2.1 v0))] := hl
    try dsimp only at h
    refine lv_aload_n hx hb dX9_cutWord_75 rfl (lv_at hl 0 rfl) ?_
    refine r_getI C hP (iw hw (fi_9 hk0)) hk0 fl_X9_43 (Or.inl rfl) dX9_cutWord_76 ?_
    refine lv_aload_n hx hb dX9_cutWord_79 rfl (lv_at hl 0 rfl) ?_
    refine r_getI C hP (iw hw (fi_9 hk0)) hk0 fl_X9_15 (Or.inl rfl) dX9_cutWord_80 ?_
    refine lv_isub hx hb dX9_cutWord_83 ?_
    refine lv_topi (fun x18 ex18 => ?_)
    replace h := vl_ok ex18 h
    refine lv_istore_n (lv' := [(1, .int x18), (0, .ref (w.2.2.1 v0))]) hx hb dX9_cutWord_84 rfl hl (by decide) rfl (fun ls hl => ?_)
    refine lv_iload_n hx hb dX9_cutWord_85 rfl (lv_at hl 0 rfl) ?_
    refine lv_istore_n (lv' := [(2, .int x18), (1, .int x18), (0, .ref (w.2.2.1 v0))]) hx hb dX9_cutWord_86 rfl hl (by decide) rfl (fun ls hl => ?_)
    obtain ⟨t22, q23, h27, h⟩ := bd_ok h
    refine lpn_ind (b := (fun (q : Int32 × fMem) => f_X9_cutWord_L87 v0 x18 q.1 q.2)) (P := fun (q : Int32 × fMem) => WW p l e rm_X9_cutWord s m args below meth c (MQ below (fQv w μr) args s 0 0 (fA w)) w q.2 3 87 [] [(0, .ref (w.2.2.1 v0)), (1, .int x18), (2, .int q.1)]) (K := fun _ (q : Int32 × fMem) => WW p l e rm_X9_cutWord s m args below meth c (MQ below (fQv w μr) args s 0 0 (fA w)) w q.2 3 110 [] [(0, .ref (w.2.2.1 v0)), (1, .int x18)]) ?_ fuel (x18, q16) t22 q23 h27 ?_ _ _ _ hP hS (lv_sub hl [2, 1, 0] rfl)
    · intro q tz87 sz87 h hP0_87 hK0_87 H locs ls hP hS hl
      obtain ⟨v2, μ⟩ := q
      have hP : fP w μ H := hP
      have hl : lv_has ls 3 [(0, .ref (w.2.2.1 v0)), (1, .int x18), (2, .int v2)] := hl
      have h : f_X9_cutWord_L87 v0 x18 v2 μ = some (tz87, sz87) := h
      unfold f_X9_cutWord_L87 at h
      refine lv_iload_n hx hb dX9_cutWord_87 rfl (lv_at hl 2 rfl) ?_
      refine lv_bipush (v := (6)) hx hb dX9_cutWord_88 (by decide) ?_
      refine lv_icmp_ge (tgt := 110) hx hb dX9_cutWord_90 (by decide) (fun c19 => ?_) (fun c19 => ?_)
      · replace h := if_t c19 h
        obtain ⟨rfl, rfl⟩ := leaf h
        exact (hK0_87 0 rfl) _ _ _ hP hS (lv_sub hl [0, 1] rfl)
      · replace h := if_f c19 h
        refine lv_aload_n hx hb dX9_cutWord_93 rfl (lv_at hl 0 rfl) ?_
        refine lv_dup hx hb dX9_cutWord_94 rfl ?_
        refine r_getI C hP (iw hw (fi_9 hk0)) hk0 fl_X9_18 (Or.inl rfl) dX9_cutWord_95 ?_
        refine lv_bipush (v := (32)) hx hb dX9_cutWord_98 (by decide) ?_
        refine lv_imul hx hb dX9_cutWord_100 ?_
        refine r_putI C hP hS (iw hw (fi_9 hk0)) hk0 fp_X9_18 rfl dX9_cutWord_101 (fun H locs hP hS => ?_)
        obtain ⟨μ20, eμ20, h⟩ := vl_ex h
        have hP : fP w μ20 H := by rw [eμ20]; exact hP
        obtain ⟨x21, ex21⟩ : ∃ y : Int32, y = (v2 + (1 : Int32)) := ⟨_, rfl⟩
        replace h := vl_ok ex21 h
        refine lv_iinc (v := x21) (lv' := [(2, .int x21), (0, .ref (w.2.2.1 v0)), (1, .int x18)]) hx hb dX9_cutWord_104 hl (k := 2) rfl (by rw [ex21]; rfl) (by decide) rfl (fun ls hl => ?_)
        refine lv_goto (tgt := 87) hx hb dX9_cutWord_107 (by decide) ?_
        obtain ⟨rfl, rfl⟩ := leaf h
        exact hP0_87 rfl _ _ _ hP hS (lv_sub hl [1, 2, 0] rfl)
    · obtain ⟨x24, μ25⟩ := q23
      intro H locs ls hP hS hl
      have hP : fP w μ25 H := hP
      have hl : lv_has ls 3 [(0, .ref (w.2.2.1 v0)), (1, .int x18)] := hl
      try dsimp only at h
      refine lv_aload_n hx hb dX9_cutWord_110 rfl (lv_at hl 0 rfl) ?_
      refine lv_iload_n hx hb dX9_cutWord_111 rfl (lv_at hl 1 rfl) ?_
      refine lv_bipush (v := (6)) hx hb dX9_cutWord_112 (by decide) ?_
      refine lv_icmp_le (tgt := 122) hx hb dX9_cutWord_114 (by decide) (fun c26 => ?_) (fun c26 => ?_)
      · replace h := if_t c26 h
        refine lv_bipush (v := (20)) hx hb dX9_cutWord_122 (by decide) ?_
        exact J124 v0 (20 : Int32) μ25 hk0 (iw hw (fi_9 hk0)) h _ _ _ hP hS (lv_sub hl [0] rfl)
      · replace h := if_f c26 h
        refine lv_bipush (v := (23)) hx hb dX9_cutWord_117 (by decide) ?_
        refine lv_goto (tgt := 124) hx hb dX9_cutWord_119 (by decide) ?_
        exact J124 v0 (23 : Int32) μ25 hk0 (iw hw (fi_9 hk0)) h _ _ _ hP hS (lv_sub hl [0] rfl)

