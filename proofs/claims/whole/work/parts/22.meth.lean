def f_X11_passes_L2 (v0 : Nat) (v1 : Int32) (v2 : Int32) (μ : fMem) : Option (Nat × (Int32 × fMem)) :=
  if (μ.1 (v0 + 2) 3) ≤ v2 then some (1, (v2, μ)) else bd (f_X11_doesCome v0 v1 v2 μ) fun r3 μ2 => if r3 = 0 then vl (v2 + (1 : Int32)) fun x6 => some (0, (x6, μ2)) else bd (f_X11_visits v0 v1 v2 μ2) fun r8 μ7 => vl (v2 + (1 : Int32)) fun x10 => some (0, (x10, μ7))
def f_X11_passes (v0 : Nat) (v1 : Int32) (μ : fMem) : Option (Unit × fMem) :=
  bd (lpn (fun (q : Int32 × fMem) => f_X11_passes_L2 v0 v1 q.1 q.2) fuel ((0 : Int32), μ)) fun t11 q12 => (fun (x13 : Int32) (μ14 : fMem) => gd (ixo v1 23) (gd (ixo v1 23) (vl (sI μ14 (v0 + 22) (Int32.toNatClampNeg v1) ((μ14.1 (v0 + 22) (Int32.toNatClampNeg v1)) + (1 : Int32))) fun μ16 => some ((), μ16)))) q12.1 q12.2
def rm_X11_passes : Room := { frames := 8, cells := 0, slots := 0, locals := 254 }
set_option maxHeartbeats 4000000 in
set_option maxRecDepth 100000 in
theorem m_X11_passes (l : Launch) (w : fW) (hJ : fJ w) (hw : w.2.2.2 = sd 1) (v0 : Nat) (v1 : Int32) (hk0 : kd v0 = (4, 11)) (μ : fMem) {r : Unit} {μr : fMem} (h : f_X11_passes v0 v1 μ = some (r, μr)) : Met l yX11_passes (.code yX11_passes cX11_passes 3 none :: gw) rm_X11_passes (fPc w [.ref (w.2.2.1 v0), .int v1] μ) (fQv w μr) 0 0 (fA w) := by
  refine met_of hJ (by decide) ?_ (Nat.le_of_ble_eq_true rfl)
  generalize ([.ref (w.2.2.1 v0), .int v1] : List Value).toArray = args
  intro p e s m below meth c ls C hr hP hl hS
  obtain ⟨hx, hb, hml, hown, hts, hK, -, hlk, hT⟩ := id C
  have hl : lv_has ls 3 [(0, .ref (w.2.2.1 v0)), (1, .int v1)] := hl
  unfold f_X11_passes at h
  refine lv_iconst (v := (0)) hx hb dX11_passes_0 (by decide) ?_
  refine lv_istore_n (lv' := [(2, .int (0 : Int32)), (0, .ref (w.2.2.1 v0)), (1, .int v1)]) hx hb dX11_passes_1 rfl hl (by decide) rfl (fun ls hl => ?_)
  obtain ⟨t11, q12, h18, h⟩ := bd_ok h
  refine lpn_ind (b := (fun (q : Int32 × fMem) => f_X11_passes_L2 v0 v1 q.1 q.2)) (P := fun (q : Int32 × fMem) => WW p l e rm_X11_passes s m args below meth c (MQ below (fQv w μr) args s 0 0 (fA w)) w q.2 3 2 [] [(0, .ref (w.2.2.1 v0)), (1, .int v1), (2, .int q.1)]) (K := fun _ (q : Int32 × fMem) => WW p l e rm_X11_passes s m args below meth c (MQ below (fQv w μr) args s 0 0 (fA w)) w q.2 3 33 [] [(0, .ref (w.2.2.1 v0)), (1, .int v1)]) ?_ fuel ((0 : Int32), μ) t11 q12 h18 ?_ _ _ _ hP hS (lv_sub hl [1, 2, 0] rfl)
  · intro q tz2 sz2 h hP0_2 hK0_2 H locs ls hP hS hl
    obtain ⟨v2, μ⟩ := q
    have hP : fP w μ H := hP
    have hl : lv_has ls 3 [(0, .ref (w.2.2.1 v0)), (1, .int v1), (2, .int v2)] := hl
    have h : f_X11_passes_L2 v0 v1 v2 μ = some (tz2, sz2) := h
    unfold f_X11_passes_L2 at h
    refine lv_iload_n hx hb dX11_passes_2 rfl (lv_at hl 2 rfl) ?_
    refine lv_aload_n hx hb dX11_passes_3 rfl (lv_at hl 0 rfl) ?_
    refine r_getF (off := 2) C hP (iw hw (fi_11 hk0)) hk0 fl_X11_13 rfl rfl (zw hw) dX11_passes_4 ?_
    refine lv_iconst (v := (3)) hx hb dX11_passes_7 (by decide) ?_
    refine n_iald (j := 3) C hP (iw hw (ff_11_3 hk0).2) (ff_11_3 hk0).1 (by decide) (by decide) dX11_passes_8 ?_
    refine lv_icmp_ge (tgt := 33) hx hb dX11_passes_9 (by decide) (fun c1 => ?_) (fun c1 => ?_)
    · replace h := if_t c1 h
      obtain ⟨rfl, rfl⟩ := leaf h
      exact (hK0_2 0 rfl) _ _ _ hP hS (lv_sub hl [0, 1] rfl)
    · replace h := if_f c1 h
      refine lv_aload_n hx hb dX11_passes_12 rfl (lv_at hl 0 rfl) ?_
      refine lv_iload_n hx hb dX11_passes_13 rfl (lv_at hl 1 rfl) ?_
      refine lv_iload_n hx hb dX11_passes_14 rfl (lv_at hl 2 rfl) ?_
      obtain ⟨r3, μ2, h4, h⟩ := bd_ok h
      refine go_i (callV_run (As := [.int v1, .int v2]) (rest := []) C hl hP (hS.wide hJ).2.1 (iw hw (fi_11 hk0)) hk0 (m_X11_doesCome l w hJ hw v0 v1 v2 hk0 μ h4) mv_X11_397 ⟨rfl, rfl, by decide, by decide⟩ rfl rfl (Nat.le_of_ble_eq_true rfl) ⟨Nat.zero_le _, Nat.zero_le _⟩ dX11_passes_15) hS (fun H locs hP hS => ?_)
      refine lv_if_eq (tgt := 27) hx hb dX11_passes_18 (by decide) (fun c5 => ?_) (fun c5 => ?_)
      · replace h := if_t c5 h
        obtain ⟨x6, ex6⟩ : ∃ y : Int32, y = (v2 + (1 : Int32)) := ⟨_, rfl⟩
        replace h := vl_ok ex6 h
        refine lv_iinc (v := x6) (lv' := [(2, .int x6), (0, .ref (w.2.2.1 v0)), (1, .int v1)]) hx hb dX11_passes_27 hl (k := 2) rfl (by rw [ex6]; rfl) (by decide) rfl (fun ls hl => ?_)
        refine lv_goto (tgt := 2) hx hb dX11_passes_30 (by decide) ?_
        obtain ⟨rfl, rfl⟩ := leaf h
        exact hP0_2 rfl _ _ _ hP hS (lv_sub hl [1, 2, 0] rfl)
      · replace h := if_f c5 h
        refine lv_aload_n hx hb dX11_passes_21 rfl (lv_at hl 0 rfl) ?_
        refine lv_iload_n hx hb dX11_passes_22 rfl (lv_at hl 1 rfl) ?_
        refine lv_iload_n hx hb dX11_passes_23 rfl (lv_at hl 2 rfl) ?_
        obtain ⟨r8, μ7, h9, h⟩ := bd_ok h
        refine go_v (callV_run (As := [.int v1, .int v2]) (rest := []) C hl hP (hS.wide hJ).2.1 (iw hw (fi_11 hk0)) hk0 (m_X11_visits l w hJ hw v0 v1 v2 hk0 μ2 h9) mv_X11_400 ⟨rfl, rfl, by decide, by decide⟩ rfl rfl (Nat.le_of_ble_eq_true rfl) ⟨Nat.zero_le _, Nat.zero_le _⟩ dX11_passes_24) hS (fun H locs hP hS => ?_)
        obtain ⟨x10, ex10⟩ : ∃ y : Int32, y = (v2 + (1 : Int32)) := ⟨_, rfl⟩
        replace h := vl_ok ex10 h
        refine lv_iinc (v := x10) (lv' := [(2, .int x10), (0, .ref (w.2.2.1 v0)), (1, .int v1)]) hx hb dX11_passes_27 hl (k := 2) rfl (by rw [ex10]; rfl) (by decide) rfl (fun ls hl => ?_)
        refine lv_goto (tgt := 2) hx hb dX11_passes_30 (by decide) ?_
        obtain ⟨rfl, rfl⟩ := leaf h
        exact hP0_2 rfl _ _ _ hP hS (lv_sub hl [1, 2, 0] rfl)
  · obtain ⟨x13, μ14⟩ := q12
    intro H locs ls hP hS hl
    have hP : fP w μ14 H := hP
    have hl : lv_has ls 3 [(0, .ref (w.2.2.1 v0)), (1, .int v1)] := hl
    try dsimp only at h
    refine lv_aload_n hx hb dX11_passes_33 rfl (lv_at hl 0 rfl) ?_
    refine r_getF (off := 22) C hP (iw hw (fi_11 hk0)) hk0 fl_X11_78 rfl rfl (zw hw) dX11_passes_34 ?_
    refine lv_iload_n hx hb dX11_passes_37 rfl (lv_at hl 1 rfl) ?_
    refine lv_dup2_11 hx hb dX11_passes_38 rfl rfl ?_
    obtain ⟨g15, h⟩ := gd_ok h
    refine r_iald C hP (iw hw (ff_11_37 hk0).2) (ff_11_37 hk0).1 g15 dX11_passes_39 ?_
    refine lv_iconst (v := (1)) hx hb dX11_passes_40 (by decide) ?_
    refine lv_iadd hx hb dX11_passes_41 ?_
    obtain ⟨g17, h⟩ := gd_ok h
    refine r_iast C hP hS (iw hw (ff_11_37 hk0).2) (ff_11_37 hk0).1 g17 dX11_passes_42 (fun H locs hP hS => ?_)
    obtain ⟨μ16, eμ16, h⟩ := vl_ex h
    have hP : fP w μ16 H := by rw [eμ16]; exact hP
    exact r_vret C hr hP hS h dX11_passes_43

def f_X11_goesOn_L2 (v0 : Nat) (v1 : Int32) (v2 : Int32) (μ : fMem) : Option (Nat × (Int32 × fMem)) :=
  if v1 ≤ v2 then some (1, (v2, μ)) else bd (f_X11_passes v0 (1 : Int32) μ) fun r3 μ2 => vl (v2 + (1 : Int32)) fun x5 => some (0, (x5, μ2))
def f_X11_goesOn (v0 : Nat) (v1 : Int32) (μ : fMem) : Option (Unit × fMem) :=
  bd (lpn (fun (q : Int32 × fMem) => f_X11_goesOn_L2 v0 v1 q.1 q.2) fuel ((0 : Int32), μ)) fun t6 q7 => (fun (x8 : Int32) (μ9 : fMem) => some ((), μ9)) q7.1 q7.2
def rm_X11_goesOn : Room := { frames := 9, cells := 0, slots := 0, locals := 276 }
set_option maxHeartbeats 4000000 in
set_option maxRecDepth 100000 in
theorem m_X11_goesOn (l : Launch) (w : fW) (hJ : fJ w) (hw : w.2.2.2 = sd 1) (v0 : Nat) (v1 : Int32) (hk0 : kd v0 = (4, 11)) (μ : fMem) {r : Unit} {μr : fMem} (h : f_X11_goesOn v0 v1 μ = some (r, μr)) : Met l yX11_goesOn (.code yX11_goesOn cX11_goesOn 3 none :: gw) rm_X11_goesOn (fPc w [.ref (w.2.2.1 v0), .int v1] μ) (fQv w μr) 0 0 (fA w) := by
  refine met_of hJ (by decide) ?_ (Nat.le_of_ble_eq_true rfl)
  generalize ([.ref (w.2.2.1 v0), .int v1] : List Value).toArray = args
  intro p e s m below meth c ls C hr hP hl hS
  obtain ⟨hx, hb, hml, hown, hts, hK, -, hlk, hT⟩ := id C
  have hl : lv_has ls 3 [(0, .ref (w.2.2.1 v0)), (1, .int v1)] := hl
  unfold f_X11_goesOn at h
  refine lv_iconst (v := (0)) hx hb dX11_goesOn_0 (by decide) ?_
  refine lv_istore_n (lv' := [(2, .int (0 : Int32)), (0, .ref (w.2.2.1 v0)), (1, .int v1)]) hx hb dX11_goesOn_1 rfl hl (by decide) rfl (fun ls hl => ?_)
  obtain ⟨t6, q7, h10, h⟩ := bd_ok h
  refine lpn_ind (b := (fun (q : Int32 × fMem) => f_X11_goesOn_L2 v0 v1 q.1 q.2)) (P := fun (q : Int32 × fMem) => WW p l e rm_X11_goesOn s m args below meth c (MQ below (fQv w μr) args s 0 0 (fA w)) w q.2 3 2 [] [(0, .ref (w.2.2.1 v0)), (1, .int v1), (2, .int q.1)]) (K := fun _ (q : Int32 × fMem) => WW p l e rm_X11_goesOn s m args below meth c (MQ below (fQv w μr) args s 0 0 (fA w)) w q.2 3 18 [] []) ?_ fuel ((0 : Int32), μ) t6 q7 h10 ?_ _ _ _ hP hS (lv_sub hl [1, 2, 0] rfl)
  · intro q tz2 sz2 h hP0_2 hK0_2 H locs ls hP hS hl
    obtain ⟨v2, μ⟩ := q
    have hP : fP w μ H := hP
    have hl : lv_has ls 3 [(0, .ref (w.2.2.1 v0)), (1, .int v1), (2, .int v2)] := hl
    have h : f_X11_goesOn_L2 v0 v1 v2 μ = some (tz2, sz2) := h
    unfold f_X11_goesOn_L2 at h
    refine lv_iload_n hx hb dX11_goesOn_2 rfl (lv_at hl 2 rfl) ?_
    refine lv_iload_n hx hb dX11_goesOn_3 rfl (lv_at hl 1 rfl) ?_
    refine lv_icmp_ge (tgt := 18) hx hb dX11_goesOn_4 (by decide) (fun c1 => ?_) (fun c1 => ?_)
    · replace h := if_t c1 h
      obtain ⟨rfl, rfl⟩ := leaf h
      exact (hK0_2 0 rfl) _ _ _ hP hS (lv_sub hl [] rfl)
    · replace h := if_f c1 h
      refine lv_aload_n hx hb dX11_goesOn_7 rfl (lv_at hl 0 rfl) ?_
      refine lv_iconst (v := (1)) hx hb dX11_goesOn_8 (by decide) ?_
      obtain ⟨r3, μ2, h4, h⟩ := bd_ok h
      refine go_v (callV_run (As := [.int (1 : Int32)]) (rest := []) C hl hP (hS.wide hJ).2.1 (iw hw (fi_11 hk0)) hk0 (m_X11_passes l w hJ hw v0 (1 : Int32) hk0 μ h4) mv_X11_409 ⟨rfl, rfl, by decide, by decide⟩ rfl rfl (Nat.le_of_ble_eq_true rfl) ⟨Nat.zero_le _, Nat.zero_le _⟩ dX11_goesOn_9) hS (fun H locs hP hS => ?_)
      obtain ⟨x5, ex5⟩ : ∃ y : Int32, y = (v2 + (1 : Int32)) := ⟨_, rfl⟩
      replace h := vl_ok ex5 h
      refine lv_iinc (v := x5) (lv' := [(2, .int x5), (0, .ref (w.2.2.1 v0)), (1, .int v1)]) hx hb dX11_goesOn_12 hl (k := 2) rfl (by rw [ex5]; rfl) (by decide) rfl (fun ls hl => ?_)
      refine lv_goto (tgt := 2) hx hb dX11_goesOn_15 (by decide) ?_
      obtain ⟨rfl, rfl⟩ := leaf h
      exact hP0_2 rfl _ _ _ hP hS (lv_sub hl [1, 2, 0] rfl)
  · obtain ⟨x8, μ9⟩ := q7
    intro H locs ls hP hS hl
    have hP : fP w μ9 H := hP
    have hl : lv_has ls 3 [] := hl
    try dsimp only at h
    exact r_vret C hr hP hS h dX11_goesOn_18

def f_X11_runs (v0 : Nat) (v1 : Int32) (μ : fMem) : Option (Unit × fMem) :=
  bd (f_X11_copies v0 (1 : Int32) (0 : Int32) μ) fun r2 μ1 => bd (f_X11_goesOn v0 v1 μ1) fun r5 μ4 => some ((), μ4)
def rm_X11_runs : Room := { frames := 10, cells := 0, slots := 0, locals := 298 }
set_option maxHeartbeats 4000000 in
set_option maxRecDepth 100000 in
theorem m_X11_runs (l : Launch) (w : fW) (hJ : fJ w) (hw : w.2.2.2 = sd 1) (v0 : Nat) (v1 : Int32) (hk0 : kd v0 = (4, 11)) (μ : fMem) {r : Unit} {μr : fMem} (h : f_X11_runs v0 v1 μ = some (r, μr)) : Met l yX11_runs (.code yX11_runs cX11_runs 2 none :: gw) rm_X11_runs (fPc w [.ref (w.2.2.1 v0), .int v1] μ) (fQv w μr) 0 0 (fA w) := by
  refine met_of hJ (by decide) ?_ (Nat.le_of_ble_eq_true rfl)
  generalize ([.ref (w.2.2.1 v0), .int v1] : List Value).toArray = args
  intro p e s m below meth c ls C hr hP hl hS
  obtain ⟨hx, hb, hml, hown, hts, hK, -, hlk, hT⟩ := id C
  have hl : lv_has ls 2 [(0, .ref (w.2.2.1 v0)), (1, .int v1)] := hl
  unfold f_X11_runs at h
  refine lv_aload_n hx hb dX11_runs_0 rfl (lv_at hl 0 rfl) ?_
  refine lv_iconst (v := (1)) hx hb dX11_runs_1 (by decide) ?_
  refine lv_iconst (v := (0)) hx hb dX11_runs_2 (by decide) ?_
  obtain ⟨r2, μ1, h3, h⟩ := bd_ok h
  refine go_v (callV_run (As := [.int (1 : Int32), .int (0 : Int32)]) (rest := []) C hl hP (hS.wide hJ).2.1 (iw hw (fi_11 hk0)) hk0 (m_X11_copies l w hJ hw v0 (1 : Int32) (0 : Int32) hk0 μ h3) mv_X11_403 ⟨rfl, rfl, by decide, by decide⟩ rfl rfl (Nat.le_of_ble_eq_true rfl) ⟨Nat.zero_le _, Nat.zero_le _⟩ dX11_runs_3) hS (fun H locs hP hS => ?_)
  refine lv_aload_n hx hb dX11_runs_6 rfl (lv_at hl 0 rfl) ?_
  refine lv_iload_n hx hb dX11_runs_7 rfl (lv_at hl 1 rfl) ?_
  obtain ⟨r5, μ4, h6, h⟩ := bd_ok h
  refine go_v (callV_run (As := [.int v1]) (rest := []) C hl hP (hS.wide hJ).2.1 (iw hw (fi_11 hk0)) hk0 (m_X11_goesOn l w hJ hw v0 v1 hk0 μ1 h6) mv_X11_406 ⟨rfl, rfl, by decide, by decide⟩ rfl rfl (Nat.le_of_ble_eq_true rfl) ⟨Nat.zero_le _, Nat.zero_le _⟩ dX11_runs_8) hS (fun H locs hP hS => ?_)
  exact r_vret C hr hP hS h dX11_runs_11

def f_X11_sumOf_L5 (v0 : Nat) (v1 : Nat) (v2 : Int32) (v3 : Int32) (v4 : Int32) (μ : fMem) : Option (Nat × (Int32 × Int32 × fMem)) :=
  if (μ.1 (v0 + 2) 2) ≤ v4 then some (1, (v3, v4, μ)) else gd (ixo (((8 : Int32) * v2) + v4) (kd v1).2) (vl (v3 + (μ.1 v1 (Int32.toNatClampNeg (((8 : Int32) * v2) + v4)))) fun x3 => vl (v4 + (1 : Int32)) fun x4 => some (0, (x3, x4, μ)))
def f_X11_sumOf (v0 : Nat) (v1 : Nat) (v2 : Int32) (μ : fMem) : Option (Int32 × fMem) :=
  bd (lpn (fun (q : Int32 × Int32 × fMem) => f_X11_sumOf_L5 v0 v1 v2 q.1 q.2.1 q.2.2) fuel ((0 : Int32), (0 : Int32), μ)) fun t5 q6 => (fun (x7 : Int32) (x8 : Int32) (μ9 : fMem) => some (x7, μ9)) q6.1 q6.2.1 q6.2.2
def rm_X11_sumOf : Room := { frames := 0, cells := 0, slots := 0, locals := 0 }
set_option maxHeartbeats 4000000 in
set_option maxRecDepth 100000 in
theorem m_X11_sumOf (l : Launch) (w : fW) (hJ : fJ w) (hw : w.2.2.2 = sd 1) (v0 : Nat) (v1 : Nat) (v2 : Int32) (hk0 : kd v0 = (4, 11)) (hk1 : kd v1 = (0, (kd v1).2)) (hi1 : inW w.2.2.2 v1) (μ : fMem) {r : Int32} {μr : fMem} (h : f_X11_sumOf v0 v1 v2 μ = some (r, μr)) : Met l yX11_sumOf (.code yX11_sumOf cX11_sumOf 5 (some .int) :: gw) rm_X11_sumOf (fPc w [.ref (w.2.2.1 v0), .ref (w.2.2.1 v1), .int v2] μ) (fQi w r μr) 0 0 (fA w) := by
  refine met_of hJ (by decide) ?_ (Nat.le_of_ble_eq_true rfl)
  generalize ([.ref (w.2.2.1 v0), .ref (w.2.2.1 v1), .int v2] : List Value).toArray = args
  intro p e s m below meth c ls C hr hP hl hS
  obtain ⟨hx, hb, hml, hown, hts, hK, -, hlk, hT⟩ := id C
  have hl : lv_has ls 5 [(0, .ref (w.2.2.1 v0)), (1, .ref (w.2.2.1 v1)), (2, .int v2)] := hl
  unfold f_X11_sumOf at h
  refine lv_iconst (v := (0)) hx hb dX11_sumOf_0 (by decide) ?_
  refine lv_istore_n (lv' := [(3, .int (0 : Int32)), (0, .ref (w.2.2.1 v0)), (1, .ref (w.2.2.1 v1)), (2, .int v2)]) hx hb dX11_sumOf_1 rfl hl (by decide) rfl (fun ls hl => ?_)
  refine lv_iconst (v := (0)) hx hb dX11_sumOf_2 (by decide) ?_
  refine lv_istore (lv' := [(4, .int (0 : Int32)), (3, .int (0 : Int32)), (0, .ref (w.2.2.1 v0)), (1, .ref (w.2.2.1 v1)), (2, .int v2)]) hx hb dX11_sumOf_3 hl (by decide) rfl (fun ls hl => ?_)
  obtain ⟨t5, q6, h10, h⟩ := bd_ok h
  refine lpn_ind (b := (fun (q : Int32 × Int32 × fMem) => f_X11_sumOf_L5 v0 v1 v2 q.1 q.2.1 q.2.2)) (P := fun (q : Int32 × Int32 × fMem) => WW p l e rm_X11_sumOf s m args below meth c (MQ below (fQi w r μr) args s 0 0 (fA w)) w q.2.2 5 5 [] [(0, .ref (w.2.2.1 v0)), (1, .ref (w.2.2.1 v1)), (2, .int v2), (3, .int q.1), (4, .int q.2.1)]) (K := fun _ (q : Int32 × Int32 × fMem) => WW p l e rm_X11_sumOf s m args below meth c (MQ below (fQi w r μr) args s 0 0 (fA w)) w q.2.2 5 34 [] [(3, .int q.1)]) ?_ fuel ((0 : Int32), (0 : Int32), μ) t5 q6 h10 ?_ _ _ _ hP hS (lv_sub hl [2, 3, 4, 1, 0] rfl)
  · intro q tz5 sz5 h hP0_5 hK0_5 H locs ls hP hS hl
    obtain ⟨v3, v4, μ⟩ := q
    have hP : fP w μ H := hP
    have hl : lv_has ls 5 [(0, .ref (w.2.2.1 v0)), (1, .ref (w.2.2.1 v1)), (2, .int v2), (3, .int v3), (4, .int v4)] := hl
    have h : f_X11_sumOf_L5 v0 v1 v2 v3 v4 μ = some (tz5, sz5) := h
    unfold f_X11_sumOf_L5 at h
    refine lv_iload hx hb dX11_sumOf_5 (lv_at hl 4 rfl) ?_
    refine lv_aload_n hx hb dX11_sumOf_7 rfl (lv_at hl 0 rfl) ?_
    refine r_getF (off := 2) C hP (iw hw (fi_11 hk0)) hk0 fl_X11_13 rfl rfl (zw hw) dX11_sumOf_8 ?_
    refine lv_iconst (v := (2)) hx hb dX11_sumOf_11 (by decide) ?_
    refine n_iald (j := 2) C hP (iw hw (ff_11_3 hk0).2) (ff_11_3 hk0).1 (by decide) (by decide) dX11_sumOf_12 ?_
    refine lv_icmp_ge (tgt := 34) hx hb dX11_sumOf_13 (by decide) (fun c1 => ?_) (fun c1 => ?_)
    · replace h := if_t c1 h
      obtain ⟨rfl, rfl⟩ := leaf h
      exact (hK0_5 0 rfl) _ _ _ hP hS (lv_sub hl [3] rfl)
    · replace h := if_f c1 h
      refine lv_iload_n hx hb dX11_sumOf_16 rfl (lv_at hl 3 rfl) ?_
      refine lv_aload_n hx hb dX11_sumOf_17 rfl (lv_at hl 1 rfl) ?_
      refine lv_bipush (v := (8)) hx hb dX11_sumOf_18 (by decide) ?_
      refine lv_iload_n hx hb dX11_sumOf_20 rfl (lv_at hl 2 rfl) ?_
      refine lv_imul hx hb dX11_sumOf_21 ?_
      refine lv_iload hx hb dX11_sumOf_22 (lv_at hl 4 rfl) ?_
      refine lv_iadd hx hb dX11_sumOf_24 ?_
      obtain ⟨g2, h⟩ := gd_ok h
      refine r_iald C hP hi1 hk1 g2 dX11_sumOf_25 ?_
      refine lv_iadd hx hb dX11_sumOf_26 ?_
      refine lv_topi (fun x3 ex3 => ?_)
      replace h := vl_ok ex3 h
      refine lv_istore_n (lv' := [(3, .int x3), (0, .ref (w.2.2.1 v0)), (1, .ref (w.2.2.1 v1)), (2, .int v2), (4, .int v4)]) hx hb dX11_sumOf_27 rfl hl (by decide) rfl (fun ls hl => ?_)
      obtain ⟨x4, ex4⟩ : ∃ y : Int32, y = (v4 + (1 : Int32)) := ⟨_, rfl⟩
      replace h := vl_ok ex4 h
      refine lv_iinc (v := x4) (lv' := [(4, .int x4), (3, .int x3), (0, .ref (w.2.2.1 v0)), (1, .ref (w.2.2.1 v1)), (2, .int v2)]) hx hb dX11_sumOf_28 hl (k := 4) rfl (by rw [ex4]; rfl) (by decide) rfl (fun ls hl => ?_)
      refine lv_goto (tgt := 5) hx hb dX11_sumOf_31 (by decide) ?_
      obtain ⟨rfl, rfl⟩ := leaf h
      exact hP0_5 rfl _ _ _ hP hS (lv_sub hl [2, 3, 4, 1, 0] rfl)
  · obtain ⟨x7, x8, μ9⟩ := q6
    intro H locs ls hP hS hl
    have hP : fP w μ9 H := hP
    have hl : lv_has ls 5 [(3, .int x7)] := hl
    try dsimp only at h
    refine lv_iload_n hx hb dX11_sumOf_34 rfl (lv_at hl 0 rfl) ?_
    exact r_iret C hr hP hS h dX11_sumOf_35

def f_X11_stirs (v0 : Nat) (v1 : Int32) (μ : fMem) : Option (Int32 × fMem) :=
  bd (f_X11_sumOf v0 (v0 + 26) v1 μ) fun r2 μ1 => bd (f_X11_sumOf v0 (v0 + 27) v1 μ1) fun r5 μ4 => some ((r2 + r5), μ4)
def rm_X11_stirs : Room := { frames := 1, cells := 0, slots := 0, locals := 24 }
set_option maxHeartbeats 4000000 in
set_option maxRecDepth 100000 in
theorem m_X11_stirs (l : Launch) (w : fW) (hJ : fJ w) (hw : w.2.2.2 = sd 1) (v0 : Nat) (v1 : Int32) (hk0 : kd v0 = (4, 11)) (μ : fMem) {r : Int32} {μr : fMem} (h : f_X11_stirs v0 v1 μ = some (r, μr)) : Met l yX11_stirs (.code yX11_stirs cX11_stirs 2 (some .int) :: gw) rm_X11_stirs (fPc w [.ref (w.2.2.1 v0), .int v1] μ) (fQi w r μr) 0 0 (fA w) := by
  refine met_of hJ (by decide) ?_ (Nat.le_of_ble_eq_true rfl)
  generalize ([.ref (w.2.2.1 v0), .int v1] : List Value).toArray = args
  intro p e s m below meth c ls C hr hP hl hS
  obtain ⟨hx, hb, hml, hown, hts, hK, -, hlk, hT⟩ := id C
  have hl : lv_has ls 2 [(0, .ref (w.2.2.1 v0)), (1, .int v1)] := hl
  unfold f_X11_stirs at h
  refine lv_aload_n hx hb dX11_stirs_0 rfl (lv_at hl 0 rfl) ?_
  refine lv_aload_n hx hb dX11_stirs_1 rfl (lv_at hl 0 rfl) ?_
  refine r_getF (off := 26) C hP (iw hw (fi_11 hk0)) hk0 fl_X11_90 rfl rfl (zw hw) dX11_stirs_2 ?_
  refine lv_iload_n hx hb dX11_stirs_5 rfl (lv_at hl 1 rfl) ?_
  obtain ⟨r2, μ1, h3, h⟩ := bd_ok h
  refine go_i (callV_run (As := [.ref (w.2.2.1 (v0 + 26)), .int v1]) (rest := []) C hl hP (hS.wide hJ).2.1 (iw hw (fi_11 hk0)) hk0 (m_X11_sumOf l w hJ hw v0 (v0 + 26) v1 hk0 (karr (ff_11_41 hk0).1) (iw hw (ff_11_41 hk0).2) μ h3) mv_X11_412 ⟨rfl, rfl, by decide, by decide⟩ rfl rfl (Nat.le_of_ble_eq_true rfl) ⟨Nat.zero_le _, Nat.zero_le _⟩ dX11_stirs_6) hS (fun H locs hP hS => ?_)
  refine lv_aload_n hx hb dX11_stirs_9 rfl (lv_at hl 0 rfl) ?_
  refine lv_aload_n hx hb dX11_stirs_10 rfl (lv_at hl 0 rfl) ?_
  refine r_getF (off := 27) C hP (iw hw (fi_11 hk0)) hk0 fl_X11_93 rfl rfl (zw hw) dX11_stirs_11 ?_
  refine lv_iload_n hx hb dX11_stirs_14 rfl (lv_at hl 1 rfl) ?_
  obtain ⟨r5, μ4, h6, h⟩ := bd_ok h
  refine go_i (callV_run (As := [.ref (w.2.2.1 (v0 + 27)), .int v1]) (rest := [.int r2]) C hl hP (hS.wide hJ).2.1 (iw hw (fi_11 hk0)) hk0 (m_X11_sumOf l w hJ hw v0 (v0 + 27) v1 hk0 (karr (ff_11_42 hk0).1) (iw hw (ff_11_42 hk0).2) μ1 h6) mv_X11_412 ⟨rfl, rfl, by decide, by decide⟩ rfl rfl (Nat.le_of_ble_eq_true rfl) ⟨Nat.zero_le _, Nat.zero_le _⟩ dX11_stirs_15) hS (fun H locs hP hS => ?_)
  refine lv_iadd hx hb dX11_stirs_18 ?_
  exact r_iret C hr hP hS h dX11_stirs_19

def f_X11_thing_j27 (v0 : Nat) (v1 : Int32) (v2 : Int32) (t0 : Nat) (t1 : Int32) (μ : fMem) : Option (Int32 × fMem) :=
  vl (sI μ t0 0 t1) fun μ7 => if (μ7.1 v0 0) = 0 then if v2 = 0 then gd (ixo v1 184) (some ((μ7.1 (v0 + 25) (Int32.toNatClampNeg v1)), μ7)) else if v2 = 1 then gd (ixo v1 16) (some ((μ7.1 (v0 + 8) (Int32.toNatClampNeg v1)), μ7)) else if v2 = 2 then gd (ixo v1 16) (some ((μ7.1 (v0 + 9) (Int32.toNatClampNeg v1)), μ7)) else if v2 = 3 then gd (ixo v1 184) (some ((μ7.1 (v0 + 26) (Int32.toNatClampNeg v1)), μ7)) else gd (ixo v1 184) (some ((μ7.1 (v0 + 27) (Int32.toNatClampNeg v1)), μ7)) else some ((0 : Int32), μ7)
def f_X11_thing_j22 (v0 : Nat) (v1 : Int32) (v2 : Int32) (t0 : Nat) (μ : fMem) : Option (Int32 × fMem) :=
  f_X11_thing_j27 v0 v1 v2 t0 (2 : Int32) μ
def f_X11_thing (v0 : Nat) (v1 : Int32) (v2 : Int32) (μ : fMem) : Option (Int32 × fMem) :=
  bd (f_X11_isThing v0 v1 μ) fun r2 μ1 => if r2 = 0 then f_X11_thing_j27 v0 v1 v2 v0 (1 : Int32) μ1 else if v2 < 0 then f_X11_thing_j22 v0 v1 v2 v0 μ1 else if v2 ≤ (4 : Int32) then f_X11_thing_j27 v0 v1 v2 v0 (0 : Int32) μ1 else f_X11_thing_j22 v0 v1 v2 v0 μ1
def rm_X11_thing : Room := { frames := 1, cells := 0, slots := 0, locals := 21 }
set_option maxHeartbeats 4000000 in
set_option maxRecDepth 100000 in
theorem m_X11_thing (l : Launch) (w : fW) (hJ : fJ w) (hw : w.2.2.2 = sd 1) (v0 : Nat) (v1 : Int32) (v2 : Int32) (hk0 : kd v0 = (4, 11)) (μ : fMem) {r : Int32} {μr : fMem} (h : f_X11_thing v0 v1 v2 μ = some (r, μr)) : Met l yX11_thing (.code yX11_thing cX11_thing 3 (some .int) :: gw) rm_X11_thing (fPc w [.ref (w.2.2.1 v0), .int v1, .int v2] μ) (fQi w r μr) 0 0 (fA w) := by
  refine met_of hJ (by decide) ?_ (Nat.le_of_ble_eq_true rfl)
  generalize ([.ref (w.2.2.1 v0), .int v1, .int v2] : List Value).toArray = args
  intro p e s m below meth c ls C hr hP hl hS
  obtain ⟨hx, hb, hml, hown, hts, hK, -, hlk, hT⟩ := id C
  have hl : lv_has ls 3 [(0, .ref (w.2.2.1 v0)), (1, .int v1), (2, .int v2)] := hl
  unfold f_X11_thing at h
  have J27 : ∀ (t0 : Nat) (t1 : Int32) (μ : fMem) (_ : kd t0 = (4, 11)) (_ : inW w.2.2.2 t0), f_X11_thing_j27 v0 v1 v2 t0 t1 μ = some (r, μr) → WW p l e rm_X11_thing s m args below meth c (MQ below (fQi w r μr) args s 0 0 (fA w)) w μ 3 27 [.int t1, .ref (w.2.2.1 t0)] [(0, .ref (w.2.2.1 v0)), (1, .int v1), (2, .int v2)] := by
    intro t0 t1 μ kt0 it0 h H locs ls hP hS hl
    unfold f_X11_thing_j27 at h
    refine r_putI C hP hS it0 kt0 fp_X11_148 rfl dX11_thing_27 (fun H locs hP hS => ?_)
    obtain ⟨μ7, eμ7, h⟩ := vl_ex h
    have hP : fP w μ7 H := by rw [eμ7]; exact hP
    refine lv_aload_n hx hb dX11_thing_30 rfl (lv_at hl 0 rfl) ?_
    refine r_getI C hP (iw hw (fi_11 hk0)) hk0 fl_X11_148 (Or.inl rfl) dX11_thing_31 ?_
    refine lv_if_eq (tgt := 39) hx hb dX11_thing_34 (by decide) (fun c8 => ?_) (fun c8 => ?_)
    · replace h := if_t c8 h
      refine lv_iload_n hx hb dX11_thing_39 rfl (lv_at hl 2 rfl) ?_
      by_cases c9 : v2 = 0
      · replace h := if_t c9 h
        refine lv_tableIn (off := 32) (tgt := 72) hx hb dX11_thing_40 (by rw [c9]; decide) (by rw [c9]; decide) (by rw [c9]; rfl) (by decide) ?_
        refine lv_aload_n hx hb dX11_thing_72 rfl (lv_at hl 0 rfl) ?_
        refine r_getF (off := 25) C hP (iw hw (fi_11 hk0)) hk0 fl_X11_87 rfl rfl (zw hw) dX11_thing_73 ?_
        refine lv_iload_n hx hb dX11_thing_76 rfl (lv_at hl 1 rfl) ?_
        obtain ⟨g10, h⟩ := gd_ok h
        refine r_iald C hP (iw hw (ff_11_40 hk0).2) (ff_11_40 hk0).1 g10 dX11_thing_77 ?_
        exact r_iret C hr hP hS h dX11_thing_78
      replace h := if_f c9 h
      by_cases c11 : v2 = 1
      · replace h := if_t c11 h
        refine lv_tableIn (off := 39) (tgt := 79) hx hb dX11_thing_40 (by rw [c11]; decide) (by rw [c11]; decide) (by rw [c11]; rfl) (by decide) ?_
        refine lv_aload_n hx hb dX11_thing_79 rfl (lv_at hl 0 rfl) ?_
        refine r_getF (off := 8) C hP (iw hw (fi_11 hk0)) hk0 fl_X11_31 rfl rfl (zw hw) dX11_thing_80 ?_
        refine lv_iload_n hx hb dX11_thing_83 rfl (lv_at hl 1 rfl) ?_
        obtain ⟨g12, h⟩ := gd_ok h
        refine r_iald C hP (iw hw (ff_11_9 hk0).2) (ff_11_9 hk0).1 g12 dX11_thing_84 ?_
        exact r_iret C hr hP hS h dX11_thing_85
      replace h := if_f c11 h
      by_cases c13 : v2 = 2
      · replace h := if_t c13 h
        refine lv_tableIn (off := 46) (tgt := 86) hx hb dX11_thing_40 (by rw [c13]; decide) (by rw [c13]; decide) (by rw [c13]; rfl) (by decide) ?_
        refine lv_aload_n hx hb dX11_thing_86 rfl (lv_at hl 0 rfl) ?_
        refine r_getF (off := 9) C hP (iw hw (fi_11 hk0)) hk0 fl_X11_34 rfl rfl (zw hw) dX11_thing_87 ?_
        refine lv_iload_n hx hb dX11_thing_90 rfl (lv_at hl 1 rfl) ?_
        obtain ⟨g14, h⟩ := gd_ok h
        refine r_iald C hP (iw hw (ff_11_10 hk0).2) (ff_11_10 hk0).1 g14 dX11_thing_91 ?_
        exact r_iret C hr hP hS h dX11_thing_92
      replace h := if_f c13 h
      by_cases c15 : v2 = 3
      · replace h := if_t c15 h
        refine lv_tableIn (off := 53) (tgt := 93) hx hb dX11_thing_40 (by rw [c15]; decide) (by rw [c15]; decide) (by rw [c15]; rfl) (by decide) ?_
        refine lv_aload_n hx hb dX11_thing_93 rfl (lv_at hl 0 rfl) ?_
        refine r_getF (off := 26) C hP (iw hw (fi_11 hk0)) hk0 fl_X11_90 rfl rfl (zw hw) dX11_thing_94 ?_
        refine lv_iload_n hx hb dX11_thing_97 rfl (lv_at hl 1 rfl) ?_
        obtain ⟨g16, h⟩ := gd_ok h
        refine r_iald C hP (iw hw (ff_11_41 hk0).2) (ff_11_41 hk0).1 g16 dX11_thing_98 ?_
        exact r_iret C hr hP hS h dX11_thing_99
      replace h := if_f c15 h
      have ho : Int32.toInt v2 < 0 ∨ 3 < Int32.toInt v2 := tb_out _ _ _ (fun v h1 h2 => by
        rcases (show v = 0 ∨ v = 1 ∨ v = 2 ∨ v = 3 by omega) with rfl | rfl | rfl | rfl
        · exact c9
        · exact c11
        · exact c13
        · exact c15)
      refine lv_tableOut (tgt := 100) hx hb dX11_thing_40 ho (by decide) ?_
      refine lv_aload_n hx hb dX11_thing_100 rfl (lv_at hl 0 rfl) ?_
      refine r_getF (off := 27) C hP (iw hw (fi_11 hk0)) hk0 fl_X11_93 rfl rfl (zw hw) dX11_thing_101 ?_
      refine lv_iload_n hx hb dX11_thing_104 rfl (lv_at hl 1 rfl) ?_
      obtain ⟨g17, h⟩ := gd_ok h
      refine r_iald C hP (iw hw (ff_11_42 hk0).2) (ff_11_42 hk0).1 g17 dX11_thing_105 ?_
      exact r_iret C hr hP hS h dX11_thing_106
    · replace h := if_f c8 h
      refine lv_iconst (v := (0)) hx hb dX11_thing_37 (by decide) ?_
      exact r_iret C hr hP hS h dX11_thing_38
  have J22 : ∀ (t0 : Nat) (μ : fMem) (_ : kd t0 = (4, 11)) (_ : inW w.2.2.2 t0), f_X11_thing_j22 v0 v1 v2 t0 μ = some (r, μr) → WW p l e rm_X11_thing s m args below meth c (MQ below (fQi w r μr) args s 0 0 (fA w)) w μ 3 22 [.ref (w.2.2.1 t0)] [(0, .ref (w.2.2.1 v0)), (1, .int v1), (2, .int v2)] := by
    intro t0 μ kt0 it0 h H locs ls hP hS hl
    unfold f_X11_thing_j22 at h
    refine lv_iconst (v := (2)) hx hb dX11_thing_22 (by decide) ?_
    refine lv_goto (tgt := 27) hx hb dX11_thing_23 (by decide) ?_
    exact J27 t0 (2 : Int32) μ kt0 it0 h _ _ _ hP hS (lv_sub hl [0, 1, 2] rfl)
  refine lv_aload_n hx hb dX11_thing_0 rfl (lv_at hl 0 rfl) ?_
  refine lv_aload_n hx hb dX11_thing_1 rfl (lv_at hl 0 rfl) ?_
  refine lv_iload_n hx hb dX11_thing_2 rfl (lv_at hl 1 rfl) ?_
  obtain ⟨r2, μ1, h3, h⟩ := bd_ok h
  refine go_i (callV_run (As := [.int v1]) (rest := [.ref (w.2.2.1 v0)]) C hl hP (hS.wide hJ).2.1 (iw hw (fi_11 hk0)) hk0 (m_X11_isThing l w hJ hw v0 v1 hk0 μ h3) mv_X11_416 ⟨rfl, rfl, by decide, by decide⟩ rfl rfl (Nat.le_of_ble_eq_true rfl) ⟨Nat.zero_le _, Nat.zero_le _⟩ dX11_thing_3) hS (fun H locs hP hS => ?_)
  refine lv_if_ne (tgt := 13) hx hb dX11_thing_6 (by decide) (fun c4 => ?_) (fun c4 => ?_)
  · replace h := if_f c4 h
    refine lv_iload_n hx hb dX11_thing_13 rfl (lv_at hl 2 rfl) ?_
    refine lv_if_lt (tgt := 22) hx hb dX11_thing_14 (by decide) (fun c5 => ?_) (fun c5 => ?_)
    · replace h := if_t c5 h
      exact J22 v0 μ1 hk0 (iw hw (fi_11 hk0)) h _ _ _ hP hS (lv_sub hl [0, 1, 2] rfl)
    · replace h := if_f c5 h
      refine lv_iload_n hx hb dX11_thing_17 rfl (lv_at hl 2 rfl) ?_
      refine lv_iconst (v := (4)) hx hb dX11_thing_18 (by decide) ?_
      refine lv_icmp_le (tgt := 26) hx hb dX11_thing_19 (by decide) (fun c6 => ?_) (fun c6 => ?_)
      · replace h := if_t c6 h
        refine lv_iconst (v := (0)) hx hb dX11_thing_26 (by decide) ?_
        exact J27 v0 (0 : Int32) μ1 hk0 (iw hw (fi_11 hk0)) h _ _ _ hP hS (lv_sub hl [0, 1, 2] rfl)
      · replace h := if_f c6 h
        exact J22 v0 μ1 hk0 (iw hw (fi_11 hk0)) h _ _ _ hP hS (lv_sub hl [0, 1, 2] rfl)
  · replace h := if_t c4 h
    refine lv_iconst (v := (1)) hx hb dX11_thing_9 (by decide) ?_
    refine lv_goto (tgt := 27) hx hb dX11_thing_10 (by decide) ?_
    exact J27 v0 (1 : Int32) μ1 hk0 (iw hw (fi_11 hk0)) h _ _ _ hP hS (lv_sub hl [0, 1, 2] rfl)

def f_X11_thingsIn_L5 (v0 : Nat) (v1 : Int32) (v2 : Int32) (v3 : Int32) (v4 : Int32) (μ : fMem) : Option (Nat × (Int32 × Int32 × fMem)) :=
  if (μ.1 (v0 + 2) 2) ≤ v4 then some (1, (v3, v4, μ)) else gd (ixo (((8 : Int32) * v1) + v4) 184) (if (μ.1 (v0 + 25) (Int32.toNatClampNeg (((8 : Int32) * v1) + v4))) = v2 then vl (v3 ||| (shl (1 : Int32) v4)) fun x6 => vl (v4 + (1 : Int32)) fun x7 => some (0, (x6, x7, μ)) else vl (v3 ||| (0 : Int32)) fun x4 => vl (v4 + (1 : Int32)) fun x5 => some (0, (x4, x5, μ)))
def f_X11_thingsIn (v0 : Nat) (v1 : Int32) (v2 : Int32) (μ : fMem) : Option (Int32 × fMem) :=
  bd (lpn (fun (q : Int32 × Int32 × fMem) => f_X11_thingsIn_L5 v0 v1 v2 q.1 q.2.1 q.2.2) fuel ((0 : Int32), (0 : Int32), μ)) fun t8 q9 => (fun (x10 : Int32) (x11 : Int32) (μ12 : fMem) => some (x10, μ12)) q9.1 q9.2.1 q9.2.2
def rm_X11_thingsIn : Room := { frames := 0, cells := 0, slots := 0, locals := 0 }
set_option maxHeartbeats 4000000 in
set_option maxRecDepth 100000 in
theorem m_X11_thingsIn (l : Launch) (w : fW) (hJ : fJ w) (hw : w.2.2.2 = sd 1) (v0 : Nat) (v1 : Int32) (v2 : Int32) (hk0 : kd v0 = (4, 11)) (μ : fMem) {r : Int32} {μr : fMem} (h : f_X11_thingsIn v0 v1 v2 μ = some (r, μr)) : Met l yX11_thingsIn (.code yX11_thingsIn cX11_thingsIn 5 (some .int) :: gw) rm_X11_thingsIn (fPc w [.ref (w.2.2.1 v0), .int v1, .int v2] μ) (fQi w r μr) 0 0 (fA w) := by
  refine met_of hJ (by decide) ?_ (Nat.le_of_ble_eq_true rfl)
  generalize ([.ref (w.2.2.1 v0), .int v1, .int v2] : List Value).toArray = args
  intro p e s m below meth c ls C hr hP hl hS
  obtain ⟨hx, hb, hml, hown, hts, hK, -, hlk, hT⟩ := id C
  have hl : lv_has ls 5 [(0, .ref (w.2.2.1 v0)), (1, .int v1), (2, .int v2)] := hl
  unfold f_X11_thingsIn at h
  refine lv_iconst (v := (0)) hx hb dX11_thingsIn_0 (by decide) ?_
  refine lv_istore_n (lv' := [(3, .int (0 : Int32)), (0, .ref (w.2.2.1 v0)), (1, .int v1), (2, .int v2)]) hx hb dX11_thingsIn_1 rfl hl (by decide) rfl (fun ls hl => ?_)
  refine lv_iconst (v := (0)) hx hb dX11_thingsIn_2 (by decide) ?_
  refine lv_istore (lv' := [(4, .int (0 : Int32)), (3, .int (0 : Int32)), (0, .ref (w.2.2.1 v0)), (1, .int v1), (2, .int v2)]) hx hb dX11_thingsIn_3 hl (by decide) rfl (fun ls hl => ?_)
  obtain ⟨t8, q9, h13, h⟩ := bd_ok h
  refine lpn_ind (b := (fun (q : Int32 × Int32 × fMem) => f_X11_thingsIn_L5 v0 v1 v2 q.1 q.2.1 q.2.2)) (P := fun (q : Int32 × Int32 × fMem) => WW p l e rm_X11_thingsIn s m args below meth c (MQ below (fQi w r μr) args s 0 0 (fA w)) w q.2.2 5 5 [] [(0, .ref (w.2.2.1 v0)), (1, .int v1), (2, .int v2), (3, .int q.1), (4, .int q.2.1)]) (K := fun _ (q : Int32 × Int32 × fMem) => WW p l e rm_X11_thingsIn s m args below meth c (MQ below (fQi w r μr) args s 0 0 (fA w)) w q.2.2 5 49 [] [(3, .int q.1)]) ?_ fuel ((0 : Int32), (0 : Int32), μ) t8 q9 h13 ?_ _ _ _ hP hS (lv_sub hl [2, 3, 4, 1, 0] rfl)
  · intro q tz5 sz5 h hP0_5 hK0_5 H locs ls hP hS hl
    obtain ⟨v3, v4, μ⟩ := q
    have hP : fP w μ H := hP
    have hl : lv_has ls 5 [(0, .ref (w.2.2.1 v0)), (1, .int v1), (2, .int v2), (3, .int v3), (4, .int v4)] := hl
    have h : f_X11_thingsIn_L5 v0 v1 v2 v3 v4 μ = some (tz5, sz5) := h
    unfold f_X11_thingsIn_L5 at h
    refine lv_iload hx hb dX11_thingsIn_5 (lv_at hl 4 rfl) ?_
    refine lv_aload_n hx hb dX11_thingsIn_7 rfl (lv_at hl 0 rfl) ?_
    refine r_getF (off := 2) C hP (iw hw (fi_11 hk0)) hk0 fl_X11_13 rfl rfl (zw hw) dX11_thingsIn_8 ?_
    refine lv_iconst (v := (2)) hx hb dX11_thingsIn_11 (by decide) ?_
    refine n_iald (j := 2) C hP (iw hw (ff_11_3 hk0).2) (ff_11_3 hk0).1 (by decide) (by decide) dX11_thingsIn_12 ?_
    refine lv_icmp_ge (tgt := 49) hx hb dX11_thingsIn_13 (by decide) (fun c1 => ?_) (fun c1 => ?_)
    · replace h := if_t c1 h
      obtain ⟨rfl, rfl⟩ := leaf h
      exact (hK0_5 0 rfl) _ _ _ hP hS (lv_sub hl [3] rfl)
    · replace h := if_f c1 h
      refine lv_iload_n hx hb dX11_thingsIn_16 rfl (lv_at hl 3 rfl) ?_
      refine lv_aload_n hx hb dX11_thingsIn_17 rfl (lv_at hl 0 rfl) ?_
      refine r_getF (off := 25) C hP (iw hw (fi_11 hk0)) hk0 fl_X11_87 rfl rfl (zw hw) dX11_thingsIn_18 ?_
      refine lv_bipush (v := (8)) hx hb dX11_thingsIn_21 (by decide) ?_
      refine lv_iload_n hx hb dX11_thingsIn_23 rfl (lv_at hl 1 rfl) ?_
      refine lv_imul hx hb dX11_thingsIn_24 ?_
      refine lv_iload hx hb dX11_thingsIn_25 (lv_at hl 4 rfl) ?_
      refine lv_iadd hx hb dX11_thingsIn_27 ?_
      obtain ⟨g2, h⟩ := gd_ok h
      refine r_iald C hP (iw hw (ff_11_40 hk0).2) (ff_11_40 hk0).1 g2 dX11_thingsIn_28 ?_
      refine lv_iload_n hx hb dX11_thingsIn_29 rfl (lv_at hl 2 rfl) ?_
      refine lv_icmp_ne (tgt := 40) hx hb dX11_thingsIn_30 (by decide) (fun c3 => ?_) (fun c3 => ?_)
      · replace h := if_f c3 h
        refine lv_iconst (v := (0)) hx hb dX11_thingsIn_40 (by decide) ?_
        refine lv_ior hx hb dX11_thingsIn_41 ?_
        refine lv_topi (fun x4 ex4 => ?_)
        replace h := vl_ok ex4 h
        refine lv_istore_n (lv' := [(3, .int x4), (0, .ref (w.2.2.1 v0)), (1, .int v1), (2, .int v2), (4, .int v4)]) hx hb dX11_thingsIn_42 rfl hl (by decide) rfl (fun ls hl => ?_)
        obtain ⟨x5, ex5⟩ : ∃ y : Int32, y = (v4 + (1 : Int32)) := ⟨_, rfl⟩
        replace h := vl_ok ex5 h
        refine lv_iinc (v := x5) (lv' := [(4, .int x5), (3, .int x4), (0, .ref (w.2.2.1 v0)), (1, .int v1), (2, .int v2)]) hx hb dX11_thingsIn_43 hl (k := 4) rfl (by rw [ex5]; rfl) (by decide) rfl (fun ls hl => ?_)
        refine lv_goto (tgt := 5) hx hb dX11_thingsIn_46 (by decide) ?_
        obtain ⟨rfl, rfl⟩ := leaf h
        exact hP0_5 rfl _ _ _ hP hS (lv_sub hl [2, 3, 4, 1, 0] rfl)
      · replace h := if_t c3 h
        refine lv_iconst (v := (1)) hx hb dX11_thingsIn_33 (by decide) ?_
        refine lv_iload hx hb dX11_thingsIn_34 (lv_at hl 4 rfl) ?_
        refine r_ishl hx hb dX11_thingsIn_36 ?_
        refine lv_goto (tgt := 41) hx hb dX11_thingsIn_37 (by decide) ?_
        refine lv_ior hx hb dX11_thingsIn_41 ?_
        refine lv_topi (fun x6 ex6 => ?_)
        replace h := vl_ok ex6 h
        refine lv_istore_n (lv' := [(3, .int x6), (0, .ref (w.2.2.1 v0)), (1, .int v1), (2, .int v2), (4, .int v4)]) hx hb dX11_thingsIn_42 rfl hl (by decide) rfl (fun ls hl => ?_)
        obtain ⟨x7, ex7⟩ : ∃ y : Int32, y = (v4 + (1 : Int32)) := ⟨_, rfl⟩
        replace h := vl_ok ex7 h
        refine lv_iinc (v := x7) (lv' := [(4, .int x7), (3, .int x6), (0, .ref (w.2.2.1 v0)), (1, .int v1), (2, .int v2)]) hx hb dX11_thingsIn_43 hl (k := 4) rfl (by rw [ex7]; rfl) (by decide) rfl (fun ls hl => ?_)
        refine lv_goto (tgt := 5) hx hb dX11_thingsIn_46 (by decide) ?_
        obtain ⟨rfl, rfl⟩ := leaf h
        exact hP0_5 rfl _ _ _ hP hS (lv_sub hl [2, 3, 4, 1, 0] rfl)
  · obtain ⟨x10, x11, μ12⟩ := q9
    intro H locs ls hP hS hl
    have hP : fP w μ12 H := hP
    have hl : lv_has ls 5 [(3, .int x10)] := hl
    try dsimp only at h
    refine lv_iload_n hx hb dX11_thingsIn_49 rfl (lv_at hl 0 rfl) ?_
    exact r_iret C hr hP hS h dX11_thingsIn_50

def f_X11_bitsOf_L4 (v0 : Int32) (v1 : Int32) (v2 : Int32) (μ : fMem) : Option (Nat × (Int32 × Int32 × fMem)) :=
  if (10 : Int32) ≤ v2 then some (1, (v1, v2, μ)) else vl (v1 + ((shr v0 v2) &&& (1 : Int32))) fun x2 => vl (v2 + (1 : Int32)) fun x3 => some (0, (x2, x3, μ))
def f_X11_bitsOf (v0 : Int32) (μ : fMem) : Option (Int32 × fMem) :=
  bd (lpn (fun (q : Int32 × Int32 × fMem) => f_X11_bitsOf_L4 v0 q.1 q.2.1 q.2.2) fuel ((0 : Int32), (0 : Int32), μ)) fun t4 q5 => (fun (x6 : Int32) (x7 : Int32) (μ8 : fMem) => some (x6, μ8)) q5.1 q5.2.1 q5.2.2
def rm_X11_bitsOf : Room := { frames := 0, cells := 0, slots := 0, locals := 0 }
set_option maxHeartbeats 4000000 in
set_option maxRecDepth 100000 in
theorem m_X11_bitsOf (l : Launch) (w : fW) (hJ : fJ w) (hw : w.2.2.2 = sd 1) (v0 : Int32) (μ : fMem) {r : Int32} {μr : fMem} (h : f_X11_bitsOf v0 μ = some (r, μr)) : Met l yX11_bitsOf (.code yX11_bitsOf cX11_bitsOf 3 (some .int) :: gw) rm_X11_bitsOf (fPc w [.int v0] μ) (fQi w r μr) 0 0 (fA w) := by
  refine met_of hJ (by decide) ?_ (Nat.le_of_ble_eq_true rfl)
  generalize ([.int v0] : List Value).toArray = args
  intro p e s m below meth c ls C hr hP hl hS
  obtain ⟨hx, hb, hml, hown, hts, hK, -, hlk, hT⟩ := id C
  have hl : lv_has ls 3 [(0, .int v0)] := hl
  unfold f_X11_bitsOf at h
  refine lv_iconst (v := (0)) hx hb dX11_bitsOf_0 (by decide) ?_
  refine lv_istore_n (lv' := [(1, .int (0 : Int32)), (0, .int v0)]) hx hb dX11_bitsOf_1 rfl hl (by decide) rfl (fun ls hl => ?_)
  refine lv_iconst (v := (0)) hx hb dX11_bitsOf_2 (by decide) ?_
  refine lv_istore_n (lv' := [(2, .int (0 : Int32)), (1, .int (0 : Int32)), (0, .int v0)]) hx hb dX11_bitsOf_3 rfl hl (by decide) rfl (fun ls hl => ?_)
  obtain ⟨t4, q5, h9, h⟩ := bd_ok h
  refine lpn_ind (b := (fun (q : Int32 × Int32 × fMem) => f_X11_bitsOf_L4 v0 q.1 q.2.1 q.2.2)) (P := fun (q : Int32 × Int32 × fMem) => WW p l e rm_X11_bitsOf s m args below meth c (MQ below (fQi w r μr) args s 0 0 (fA w)) w q.2.2 3 4 [] [(0, .int v0), (1, .int q.1), (2, .int q.2.1)]) (K := fun _ (q : Int32 × Int32 × fMem) => WW p l e rm_X11_bitsOf s m args below meth c (MQ below (fQi w r μr) args s 0 0 (fA w)) w q.2.2 3 24 [] [(1, .int q.1)]) ?_ fuel ((0 : Int32), (0 : Int32), μ) t4 q5 h9 ?_ _ _ _ hP hS (lv_sub hl [2, 1, 0] rfl)
  · intro q tz4 sz4 h hP0_4 hK0_4 H locs ls hP hS hl
    obtain ⟨v1, v2, μ⟩ := q
    have hP : fP w μ H := hP
    have hl : lv_has ls 3 [(0, .int v0), (1, .int v1), (2, .int v2)] := hl
    have h : f_X11_bitsOf_L4 v0 v1 v2 μ = some (tz4, sz4) := h
    unfold f_X11_bitsOf_L4 at h
    refine lv_iload_n hx hb dX11_bitsOf_4 rfl (lv_at hl 2 rfl) ?_
    refine lv_bipush (v := (10)) hx hb dX11_bitsOf_5 (by decide) ?_
    refine lv_icmp_ge (tgt := 24) hx hb dX11_bitsOf_7 (by decide) (fun c1 => ?_) (fun c1 => ?_)
    · replace h := if_t c1 h
      obtain ⟨rfl, rfl⟩ := leaf h
      exact (hK0_4 0 rfl) _ _ _ hP hS (lv_sub hl [1] rfl)
    · replace h := if_f c1 h
      refine lv_iload_n hx hb dX11_bitsOf_10 rfl (lv_at hl 1 rfl) ?_
      refine lv_iload_n hx hb dX11_bitsOf_11 rfl (lv_at hl 0 rfl) ?_
      refine lv_iload_n hx hb dX11_bitsOf_12 rfl (lv_at hl 2 rfl) ?_
      refine r_ishr hx hb dX11_bitsOf_13 ?_
      refine lv_iconst (v := (1)) hx hb dX11_bitsOf_14 (by decide) ?_
      refine lv_iand hx hb dX11_bitsOf_15 ?_
      refine lv_iadd hx hb dX11_bitsOf_16 ?_
      refine lv_topi (fun x2 ex2 => ?_)
      replace h := vl_ok ex2 h
      refine lv_istore_n (lv' := [(1, .int x2), (0, .int v0), (2, .int v2)]) hx hb dX11_bitsOf_17 rfl hl (by decide) rfl (fun ls hl => ?_)
      obtain ⟨x3, ex3⟩ : ∃ y : Int32, y = (v2 + (1 : Int32)) := ⟨_, rfl⟩
      replace h := vl_ok ex3 h
      refine lv_iinc (v := x3) (lv' := [(2, .int x3), (1, .int x2), (0, .int v0)]) hx hb dX11_bitsOf_18 hl (k := 2) rfl (by rw [ex3]; rfl) (by decide) rfl (fun ls hl => ?_)
      refine lv_goto (tgt := 4) hx hb dX11_bitsOf_21 (by decide) ?_
      obtain ⟨rfl, rfl⟩ := leaf h
      exact hP0_4 rfl _ _ _ hP hS (lv_sub hl [2, 1, 0] rfl)
  · obtain ⟨x6, x7, μ8⟩ := q5
    intro H locs ls hP hS hl
    have hP : fP w μ8 H := hP
    have hl : lv_has ls 3 [(1, .int x6)] := hl
    try dsimp only at h
    refine lv_iload_n hx hb dX11_bitsOf_24 rfl (lv_at hl 0 rfl) ?_
    exact r_iret C hr hP hS h dX11_bitsOf_25

def f_X11_room (v0 : Nat) (v1 : Int32) (v2 : Int32) (μ : fMem) : Option (Int32 × fMem) :=
  vl (sI μ v0 0 (0 : Int32)) fun μ1 => bd (f_X11_isRoom v0 v1 μ1) fun r3 μ2 => if r3 = 0 then some ((-1 : Int32), μ2) else if v2 = 0 then gd (ixo v1 138) (some ((μ2.1 (v0 + 28) (Int32.toNatClampNeg v1)), μ2)) else if v2 = 1 then some (((shr (μ2.1 (v0 + 24) 0) v1) &&& (1 : Int32)), μ2) else if v2 = 2 then bd (f_X11_thingsIn v0 (0 : Int32) v1 μ2) fun r11 μ10 => bd (f_X11_bitsOf r11 μ10) fun r14 μ13 => some (r14, μ13) else if v2 = 3 then bd (f_X11_thingsIn v0 (0 : Int32) v1 μ2) fun r18 μ17 => some (r18, μ17) else some ((-1 : Int32), μ2)
def rm_X11_room : Room := { frames := 1, cells := 0, slots := 0, locals := 24 }
set_option maxHeartbeats 4000000 in
set_option maxRecDepth 100000 in
theorem m_X11_room (l : Launch) (w : fW) (hJ : fJ w) (hw : w.2.2.2 = sd 1) (v0 : Nat) (v1 : Int32) (v2 : Int32) (hk0 : kd v0 = (4, 11)) (μ : fMem) {r : Int32} {μr : fMem} (h : f_X11_room v0 v1 v2 μ = some (r, μr)) : Met l yX11_room (.code yX11_room cX11_room 3 (some .int) :: gw) rm_X11_room (fPc w [.ref (w.2.2.1 v0), .int v1, .int v2] μ) (fQi w r μr) 0 0 (fA w) := by
  refine met_of hJ (by decide) ?_ (Nat.le_of_ble_eq_true rfl)
  generalize ([.ref (w.2.2.1 v0), .int v1, .int v2] : List Value).toArray = args
  intro p e s m below meth c ls C hr hP hl hS
  obtain ⟨hx, hb, hml, hown, hts, hK, -, hlk, hT⟩ := id C
  have hl : lv_has ls 3 [(0, .ref (w.2.2.1 v0)), (1, .int v1), (2, .int v2)] := hl
  unfold f_X11_room at h
  refine lv_aload_n hx hb dX11_room_0 rfl (lv_at hl 0 rfl) ?_
  refine lv_iconst (v := (0)) hx hb dX11_room_1 (by decide) ?_
  refine r_putI C hP hS (iw hw (fi_11 hk0)) hk0 fp_X11_148 rfl dX11_room_2 (fun H locs hP hS => ?_)
  obtain ⟨μ1, eμ1, h⟩ := vl_ex h
  have hP : fP w μ1 H := by rw [eμ1]; exact hP
  refine lv_aload_n hx hb dX11_room_5 rfl (lv_at hl 0 rfl) ?_
  refine lv_iload_n hx hb dX11_room_6 rfl (lv_at hl 1 rfl) ?_
  obtain ⟨r3, μ2, h4, h⟩ := bd_ok h
  refine go_i (callV_run (As := [.int v1]) (rest := []) C hl hP (hS.wide hJ).2.1 (iw hw (fi_11 hk0)) hk0 (m_X11_isRoom l w hJ hw v0 v1 hk0 μ1 h4) mv_X11_419 ⟨rfl, rfl, by decide, by decide⟩ rfl rfl (Nat.le_of_ble_eq_true rfl) ⟨Nat.zero_le _, Nat.zero_le _⟩ dX11_room_7) hS (fun H locs hP hS => ?_)
  refine lv_if_ne (tgt := 15) hx hb dX11_room_10 (by decide) (fun c5 => ?_) (fun c5 => ?_)
  · replace h := if_f c5 h
    refine lv_iload_n hx hb dX11_room_15 rfl (lv_at hl 2 rfl) ?_
    by_cases c6 : v2 = 0
    · replace h := if_t c6 h
      refine lv_tableIn (off := 32) (tgt := 48) hx hb dX11_room_16 (by rw [c6]; decide) (by rw [c6]; decide) (by rw [c6]; rfl) (by decide) ?_
      refine lv_aload_n hx hb dX11_room_48 rfl (lv_at hl 0 rfl) ?_
      refine r_getF (off := 28) C hP (iw hw (fi_11 hk0)) hk0 fl_X11_96 rfl rfl (zw hw) dX11_room_49 ?_
      refine lv_iload_n hx hb dX11_room_52 rfl (lv_at hl 1 rfl) ?_
      obtain ⟨g7, h⟩ := gd_ok h
      refine r_iald C hP (iw hw (ff_11_43 hk0).2) (ff_11_43 hk0).1 g7 dX11_room_53 ?_
      exact r_iret C hr hP hS h dX11_room_54
    replace h := if_f c6 h
    by_cases c8 : v2 = 1
    · replace h := if_t c8 h
      refine lv_tableIn (off := 39) (tgt := 55) hx hb dX11_room_16 (by rw [c8]; decide) (by rw [c8]; decide) (by rw [c8]; rfl) (by decide) ?_
      refine lv_aload_n hx hb dX11_room_55 rfl (lv_at hl 0 rfl) ?_
      refine r_getF (off := 24) C hP (iw hw (fi_11 hk0)) hk0 fl_X11_84 rfl rfl (zw hw) dX11_room_56 ?_
      refine lv_iconst (v := (0)) hx hb dX11_room_59 (by decide) ?_
      refine n_iald (j := 0) C hP (iw hw (ff_11_39 hk0).2) (ff_11_39 hk0).1 (by decide) (by decide) dX11_room_60 ?_
      refine lv_iload_n hx hb dX11_room_61 rfl (lv_at hl 1 rfl) ?_
      refine r_ishr hx hb dX11_room_62 ?_
      refine lv_iconst (v := (1)) hx hb dX11_room_63 (by decide) ?_
      refine lv_iand hx hb dX11_room_64 ?_
      exact r_iret C hr hP hS h dX11_room_65
    replace h := if_f c8 h
    by_cases c9 : v2 = 2
    · replace h := if_t c9 h
      refine lv_tableIn (off := 50) (tgt := 66) hx hb dX11_room_16 (by rw [c9]; decide) (by rw [c9]; decide) (by rw [c9]; rfl) (by decide) ?_
      refine lv_aload_n hx hb dX11_room_66 rfl (lv_at hl 0 rfl) ?_
      refine lv_iconst (v := (0)) hx hb dX11_room_67 (by decide) ?_
      refine lv_iload_n hx hb dX11_room_68 rfl (lv_at hl 1 rfl) ?_
      obtain ⟨r11, μ10, h12, h⟩ := bd_ok h
      refine go_i (callV_run (As := [.int (0 : Int32), .int v1]) (rest := []) C hl hP (hS.wide hJ).2.1 (iw hw (fi_11 hk0)) hk0 (m_X11_thingsIn l w hJ hw v0 (0 : Int32) v1 hk0 μ2 h12) mv_X11_422 ⟨rfl, rfl, by decide, by decide⟩ rfl rfl (Nat.le_of_ble_eq_true rfl) ⟨Nat.zero_le _, Nat.zero_le _⟩ dX11_room_69) hS (fun H locs hP hS => ?_)
      obtain ⟨r14, μ13, h15, h⟩ := bd_ok h
      refine go_i (callS_run (As := [.int r11]) (rest := []) C hl hP (hS.wide hJ).2.1 (m_X11_bitsOf l w hJ hw r11  μ10 h15) ms_X11_425 ⟨rfl, rfl, by decide, by decide⟩ rfl rfl (Nat.le_of_ble_eq_true rfl) ⟨Nat.zero_le _, Nat.zero_le _⟩ dX11_room_72) hS (fun H locs hP hS => ?_)
      exact r_iret C hr hP hS h dX11_room_75
    replace h := if_f c9 h
    by_cases c16 : v2 = 3
    · replace h := if_t c16 h
      refine lv_tableIn (off := 60) (tgt := 76) hx hb dX11_room_16 (by rw [c16]; decide) (by rw [c16]; decide) (by rw [c16]; rfl) (by decide) ?_
      refine lv_aload_n hx hb dX11_room_76 rfl (lv_at hl 0 rfl) ?_
      refine lv_iconst (v := (0)) hx hb dX11_room_77 (by decide) ?_
      refine lv_iload_n hx hb dX11_room_78 rfl (lv_at hl 1 rfl) ?_
      obtain ⟨r18, μ17, h19, h⟩ := bd_ok h
      refine go_i (callV_run (As := [.int (0 : Int32), .int v1]) (rest := []) C hl hP (hS.wide hJ).2.1 (iw hw (fi_11 hk0)) hk0 (m_X11_thingsIn l w hJ hw v0 (0 : Int32) v1 hk0 μ2 h19) mv_X11_422 ⟨rfl, rfl, by decide, by decide⟩ rfl rfl (Nat.le_of_ble_eq_true rfl) ⟨Nat.zero_le _, Nat.zero_le _⟩ dX11_room_79) hS (fun H locs hP hS => ?_)
      exact r_iret C hr hP hS h dX11_room_82
    replace h := if_f c16 h
    have ho : Int32.toInt v2 < 0 ∨ 3 < Int32.toInt v2 := tb_out _ _ _ (fun v h1 h2 => by
      rcases (show v = 0 ∨ v = 1 ∨ v = 2 ∨ v = 3 by omega) with rfl | rfl | rfl | rfl
      · exact c6
      · exact c8
      · exact c9
      · exact c16)
    refine lv_tableOut (tgt := 83) hx hb dX11_room_16 ho (by decide) ?_
    refine lv_iconst (v := (-1)) hx hb dX11_room_83 (by decide) ?_
    exact r_iret C hr hP hS h dX11_room_84
  · replace h := if_t c5 h
    refine lv_iconst (v := (-1)) hx hb dX11_room_13 (by decide) ?_
    exact r_iret C hr hP hS h dX11_room_14

def f_X11_dead (v0 : Nat) (v1 : Int32) (v2 : Int32) (μ : fMem) : Option (Int32 × fMem) :=
  vl (sI μ v0 0 (0 : Int32)) fun μ1 => bd (f_X11_isDead v0 v1 μ1) fun r3 μ2 => if r3 = 0 then some ((-1 : Int32), μ2) else if v2 = 0 then gd (ixo v1 12) (some ((μ2.1 (v0 + 11) (Int32.toNatClampNeg v1)), μ2)) else if v2 = 1 then gd (ixo v1 12) (some ((μ2.1 (v0 + 12) (Int32.toNatClampNeg v1)), μ2)) else if v2 = 2 then gd (ixo v1 12) (some ((μ2.1 (v0 + 13) (Int32.toNatClampNeg v1)), μ2)) else if v2 = 3 then gd (ixo v1 12) (some ((μ2.1 (v0 + 14) (Int32.toNatClampNeg v1)), μ2)) else if v2 = 4 then gd (ixo v1 138) (some ((μ2.1 (v0 + 29) (Int32.toNatClampNeg v1)), μ2)) else some ((-1 : Int32), μ2)
def rm_X11_dead : Room := { frames := 1, cells := 0, slots := 0, locals := 21 }
set_option maxHeartbeats 4000000 in
set_option maxRecDepth 100000 in
theorem m_X11_dead (l : Launch) (w : fW) (hJ : fJ w) (hw : w.2.2.2 = sd 1) (v0 : Nat) (v1 : Int32) (v2 : Int32) (hk0 : kd v0 = (4, 11)) (μ : fMem) {r : Int32} {μr : fMem} (h : f_X11_dead v0 v1 v2 μ = some (r, μr)) : Met l yX11_dead (.code yX11_dead cX11_dead 3 (some .int) :: gw) rm_X11_dead (fPc w [.ref (w.2.2.1 v0), .int v1, .int v2] μ) (fQi w r μr) 0 0 (fA w) := by
  refine met_of hJ (by decide) ?_ (Nat.le_of_ble_eq_true rfl)
  generalize ([.ref (w.2.2.1 v0), .int v1, .int v2] : List Value).toArray = args
  intro p e s m below meth c ls C hr hP hl hS
  obtain ⟨hx, hb, hml, hown, hts, hK, -, hlk, hT⟩ := id C
  have hl : lv_has ls 3 [(0, .ref (w.2.2.1 v0)), (1, .int v1), (2, .int v2)] := hl
  unfold f_X11_dead at h
  refine lv_aload_n hx hb dX11_dead_0 rfl (lv_at hl 0 rfl) ?_
  refine lv_iconst (v := (0)) hx hb dX11_dead_1 (by decide) ?_
  refine r_putI C hP hS (iw hw (fi_11 hk0)) hk0 fp_X11_148 rfl dX11_dead_2 (fun H locs hP hS => ?_)
  obtain ⟨μ1, eμ1, h⟩ := vl_ex h
  have hP : fP w μ1 H := by rw [eμ1]; exact hP
  refine lv_aload_n hx hb dX11_dead_5 rfl (lv_at hl 0 rfl) ?_
  refine lv_iload_n hx hb dX11_dead_6 rfl (lv_at hl 1 rfl) ?_
  obtain ⟨r3, μ2, h4, h⟩ := bd_ok h
  refine go_i (callV_run (As := [.int v1]) (rest := []) C hl hP (hS.wide hJ).2.1 (iw hw (fi_11 hk0)) hk0 (m_X11_isDead l w hJ hw v0 v1 hk0 μ1 h4) mv_X11_428 ⟨rfl, rfl, by decide, by decide⟩ rfl rfl (Nat.le_of_ble_eq_true rfl) ⟨Nat.zero_le _, Nat.zero_le _⟩ dX11_dead_7) hS (fun H locs hP hS => ?_)
  refine lv_if_ne (tgt := 15) hx hb dX11_dead_10 (by decide) (fun c5 => ?_) (fun c5 => ?_)
  · replace h := if_f c5 h
    refine lv_iload_n hx hb dX11_dead_15 rfl (lv_at hl 2 rfl) ?_
    by_cases c6 : v2 = 0
    · replace h := if_t c6 h
      refine lv_tableIn (off := 36) (tgt := 52) hx hb dX11_dead_16 (by rw [c6]; decide) (by rw [c6]; decide) (by rw [c6]; rfl) (by decide) ?_
      refine lv_aload_n hx hb dX11_dead_52 rfl (lv_at hl 0 rfl) ?_
      refine r_getF (off := 11) C hP (iw hw (fi_11 hk0)) hk0 fl_X11_40 rfl rfl (zw hw) dX11_dead_53 ?_
      refine lv_iload_n hx hb dX11_dead_56 rfl (lv_at hl 1 rfl) ?_
      obtain ⟨g7, h⟩ := gd_ok h
      refine r_iald C hP (iw hw (ff_11_12 hk0).2) (ff_11_12 hk0).1 g7 dX11_dead_57 ?_
      exact r_iret C hr hP hS h dX11_dead_58
    replace h := if_f c6 h
    by_cases c8 : v2 = 1
    · replace h := if_t c8 h
      refine lv_tableIn (off := 43) (tgt := 59) hx hb dX11_dead_16 (by rw [c8]; decide) (by rw [c8]; decide) (by rw [c8]; rfl) (by decide) ?_
      refine lv_aload_n hx hb dX11_dead_59 rfl (lv_at hl 0 rfl) ?_
      refine r_getF (off := 12) C hP (iw hw (fi_11 hk0)) hk0 fl_X11_43 rfl rfl (zw hw) dX11_dead_60 ?_
      refine lv_iload_n hx hb dX11_dead_63 rfl (lv_at hl 1 rfl) ?_
      obtain ⟨g9, h⟩ := gd_ok h
      refine r_iald C hP (iw hw (ff_11_13 hk0).2) (ff_11_13 hk0).1 g9 dX11_dead_64 ?_
      exact r_iret C hr hP hS h dX11_dead_65
    replace h := if_f c8 h
    by_cases c10 : v2 = 2
    · replace h := if_t c10 h
      refine lv_tableIn (off := 50) (tgt := 66) hx hb dX11_dead_16 (by rw [c10]; decide) (by rw [c10]; decide) (by rw [c10]; rfl) (by decide) ?_
      refine lv_aload_n hx hb dX11_dead_66 rfl (lv_at hl 0 rfl) ?_
      refine r_getF (off := 13) C hP (iw hw (fi_11 hk0)) hk0 fl_X11_46 rfl rfl (zw hw) dX11_dead_67 ?_
      refine lv_iload_n hx hb dX11_dead_70 rfl (lv_at hl 1 rfl) ?_
      obtain ⟨g11, h⟩ := gd_ok h
      refine r_iald C hP (iw hw (ff_11_14 hk0).2) (ff_11_14 hk0).1 g11 dX11_dead_71 ?_
      exact r_iret C hr hP hS h dX11_dead_72
    replace h := if_f c10 h
    by_cases c12 : v2 = 3
    · replace h := if_t c12 h
      refine lv_tableIn (off := 57) (tgt := 73) hx hb dX11_dead_16 (by rw [c12]; decide) (by rw [c12]; decide) (by rw [c12]; rfl) (by decide) ?_
      refine lv_aload_n hx hb dX11_dead_73 rfl (lv_at hl 0 rfl) ?_
      refine r_getF (off := 14) C hP (iw hw (fi_11 hk0)) hk0 fl_X11_49 rfl rfl (zw hw) dX11_dead_74 ?_
      refine lv_iload_n hx hb dX11_dead_77 rfl (lv_at hl 1 rfl) ?_
      obtain ⟨g13, h⟩ := gd_ok h
      refine r_iald C hP (iw hw (ff_11_15 hk0).2) (ff_11_15 hk0).1 g13 dX11_dead_78 ?_
      exact r_iret C hr hP hS h dX11_dead_79
    replace h := if_f c12 h
    by_cases c14 : v2 = 4
    · replace h := if_t c14 h
      refine lv_tableIn (off := 64) (tgt := 80) hx hb dX11_dead_16 (by rw [c14]; decide) (by rw [c14]; decide) (by rw [c14]; rfl) (by decide) ?_
      refine lv_aload_n hx hb dX11_dead_80 rfl (lv_at hl 0 rfl) ?_
      refine r_getF (off := 29) C hP (iw hw (fi_11 hk0)) hk0 fl_X11_99 rfl rfl (zw hw) dX11_dead_81 ?_
      refine lv_iload_n hx hb dX11_dead_84 rfl (lv_at hl 1 rfl) ?_
      obtain ⟨g15, h⟩ := gd_ok h
      refine r_iald C hP (iw hw (ff_11_44 hk0).2) (ff_11_44 hk0).1 g15 dX11_dead_85 ?_
      exact r_iret C hr hP hS h dX11_dead_86
    replace h := if_f c14 h
    have ho : Int32.toInt v2 < 0 ∨ 4 < Int32.toInt v2 := tb_out _ _ _ (fun v h1 h2 => by
      rcases (show v = 0 ∨ v = 1 ∨ v = 2 ∨ v = 3 ∨ v = 4 by omega) with rfl | rfl | rfl | rfl | rfl
      · exact c6
      · exact c8
      · exact c10
      · exact c12
      · exact c14)
    refine lv_tableOut (tgt := 87) hx hb dX11_dead_16 ho (by decide) ?_
    refine lv_iconst (v := (-1)) hx hb dX11_dead_87 (by decide) ?_
    exact r_iret C hr hP hS h dX11_dead_88
  · replace h := if_t c5 h
    refine lv_iconst (v := (-1)) hx hb dX11_dead_13 (by decide) ?_
    exact r_iret C hr hP hS h dX11_dead_14

def f_X11_door (v0 : Nat) (v1 : Int32) (v2 : Int32) (μ : fMem) : Option (Int32 × fMem) :=
  vl (sI μ v0 0 (0 : Int32)) fun μ1 => bd (f_X11_isRoom v0 v1 μ1) fun r3 μ2 => if r3 = 0 then some ((-1 : Int32), μ2) else bd (f_X11_isRoom v0 v2 μ2) fun r7 μ6 => if r7 = 0 then some ((-1 : Int32), μ6) else bd (f_X11_isDoor v0 v1 v2 μ6) fun r11 μ10 => if r11 = 0 then some ((0 : Int32), μ10) else some ((1 : Int32), μ10)
def rm_X11_door : Room := { frames := 1, cells := 0, slots := 0, locals := 23 }
set_option maxHeartbeats 4000000 in
set_option maxRecDepth 100000 in
theorem m_X11_door (l : Launch) (w : fW) (hJ : fJ w) (hw : w.2.2.2 = sd 1) (v0 : Nat) (v1 : Int32) (v2 : Int32) (hk0 : kd v0 = (4, 11)) (μ : fMem) {r : Int32} {μr : fMem} (h : f_X11_door v0 v1 v2 μ = some (r, μr)) : Met l yX11_door (.code yX11_door cX11_door 3 (some .int) :: gw) rm_X11_door (fPc w [.ref (w.2.2.1 v0), .int v1, .int v2] μ) (fQi w r μr) 0 0 (fA w) := by
  refine met_of hJ (by decide) ?_ (Nat.le_of_ble_eq_true rfl)
  generalize ([.ref (w.2.2.1 v0), .int v1, .int v2] : List Value).toArray = args
  intro p e s m below meth c ls C hr hP hl hS
  obtain ⟨hx, hb, hml, hown, hts, hK, -, hlk, hT⟩ := id C
  have hl : lv_has ls 3 [(0, .ref (w.2.2.1 v0)), (1, .int v1), (2, .int v2)] := hl
  unfold f_X11_door at h
  refine lv_aload_n hx hb dX11_door_0 rfl (lv_at hl 0 rfl) ?_
  refine lv_iconst (v := (0)) hx hb dX11_door_1 (by decide) ?_
  refine r_putI C hP hS (iw hw (fi_11 hk0)) hk0 fp_X11_148 rfl dX11_door_2 (fun H locs hP hS => ?_)
  obtain ⟨μ1, eμ1, h⟩ := vl_ex h
  have hP : fP w μ1 H := by rw [eμ1]; exact hP
  refine lv_aload_n hx hb dX11_door_5 rfl (lv_at hl 0 rfl) ?_
  refine lv_iload_n hx hb dX11_door_6 rfl (lv_at hl 1 rfl) ?_
  obtain ⟨r3, μ2, h4, h⟩ := bd_ok h
  refine go_i (callV_run (As := [.int v1]) (rest := []) C hl hP (hS.wide hJ).2.1 (iw hw (fi_11 hk0)) hk0 (m_X11_isRoom l w hJ hw v0 v1 hk0 μ1 h4) mv_X11_419 ⟨rfl, rfl, by decide, by decide⟩ rfl rfl (Nat.le_of_ble_eq_true rfl) ⟨Nat.zero_le _, Nat.zero_le _⟩ dX11_door_7) hS (fun H locs hP hS => ?_)
  refine lv_if_eq (tgt := 21) hx hb dX11_door_10 (by decide) (fun c5 => ?_) (fun c5 => ?_)
  · replace h := if_t c5 h
    refine lv_iconst (v := (-1)) hx hb dX11_door_21 (by decide) ?_
    exact r_iret C hr hP hS h dX11_door_22
  · replace h := if_f c5 h
    refine lv_aload_n hx hb dX11_door_13 rfl (lv_at hl 0 rfl) ?_
    refine lv_iload_n hx hb dX11_door_14 rfl (lv_at hl 2 rfl) ?_
    obtain ⟨r7, μ6, h8, h⟩ := bd_ok h
    refine go_i (callV_run (As := [.int v2]) (rest := []) C hl hP (hS.wide hJ).2.1 (iw hw (fi_11 hk0)) hk0 (m_X11_isRoom l w hJ hw v0 v2 hk0 μ2 h8) mv_X11_419 ⟨rfl, rfl, by decide, by decide⟩ rfl rfl (Nat.le_of_ble_eq_true rfl) ⟨Nat.zero_le _, Nat.zero_le _⟩ dX11_door_15) hS (fun H locs hP hS => ?_)
    refine lv_if_ne (tgt := 23) hx hb dX11_door_18 (by decide) (fun c9 => ?_) (fun c9 => ?_)
    · replace h := if_f c9 h
      refine lv_aload_n hx hb dX11_door_23 rfl (lv_at hl 0 rfl) ?_
      refine lv_iload_n hx hb dX11_door_24 rfl (lv_at hl 1 rfl) ?_
      refine lv_iload_n hx hb dX11_door_25 rfl (lv_at hl 2 rfl) ?_
      obtain ⟨r11, μ10, h12, h⟩ := bd_ok h
      refine go_i (callV_run (As := [.int v1, .int v2]) (rest := []) C hl hP (hS.wide hJ).2.1 (iw hw (fi_11 hk0)) hk0 (m_X11_isDoor l w hJ hw v0 v1 v2 hk0 μ6 h12) mv_X11_388 ⟨rfl, rfl, by decide, by decide⟩ rfl rfl (Nat.le_of_ble_eq_true rfl) ⟨Nat.zero_le _, Nat.zero_le _⟩ dX11_door_26) hS (fun H locs hP hS => ?_)
      refine lv_if_eq (tgt := 36) hx hb dX11_door_29 (by decide) (fun c13 => ?_) (fun c13 => ?_)
      · replace h := if_t c13 h
        refine lv_iconst (v := (0)) hx hb dX11_door_36 (by decide) ?_
        exact r_iret C hr hP hS h dX11_door_37
      · replace h := if_f c13 h
        refine lv_iconst (v := (1)) hx hb dX11_door_32 (by decide) ?_
        refine lv_goto (tgt := 37) hx hb dX11_door_33 (by decide) ?_
        exact r_iret C hr hP hS h dX11_door_37
    · replace h := if_t c9 h
      refine lv_iconst (v := (-1)) hx hb dX11_door_21 (by decide) ?_
      exact r_iret C hr hP hS h dX11_door_22

def f_X11_gauge (v0 : Nat) (v1 : Int32) (μ : fMem) : Option (Int32 × fMem) :=
  vl (sI μ v0 0 (0 : Int32)) fun μ1 => if v1 < 0 then some ((-1 : Int32), μ1) else if (9999 : Int32) < v1 then some ((-1 : Int32), μ1) else bd (f_X11_glassAt v0 v1 μ1) fun r5 μ4 => some (r5, μ4)
def rm_X11_gauge : Room := { frames := 1, cells := 0, slots := 0, locals := 21 }
set_option maxHeartbeats 4000000 in
set_option maxRecDepth 100000 in
theorem m_X11_gauge (l : Launch) (w : fW) (hJ : fJ w) (hw : w.2.2.2 = sd 1) (v0 : Nat) (v1 : Int32) (hk0 : kd v0 = (4, 11)) (μ : fMem) {r : Int32} {μr : fMem} (h : f_X11_gauge v0 v1 μ = some (r, μr)) : Met l yX11_gauge (.code yX11_gauge cX11_gauge 2 (some .int) :: gw) rm_X11_gauge (fPc w [.ref (w.2.2.1 v0), .int v1] μ) (fQi w r μr) 0 0 (fA w) := by
  refine met_of hJ (by decide) ?_ (Nat.le_of_ble_eq_true rfl)
  generalize ([.ref (w.2.2.1 v0), .int v1] : List Value).toArray = args
  intro p e s m below meth c ls C hr hP hl hS
  obtain ⟨hx, hb, hml, hown, hts, hK, -, hlk, hT⟩ := id C
  have hl : lv_has ls 2 [(0, .ref (w.2.2.1 v0)), (1, .int v1)] := hl
  unfold f_X11_gauge at h
  refine lv_aload_n hx hb dX11_gauge_0 rfl (lv_at hl 0 rfl) ?_
  refine lv_iconst (v := (0)) hx hb dX11_gauge_1 (by decide) ?_
  refine r_putI C hP hS (iw hw (fi_11 hk0)) hk0 fp_X11_148 rfl dX11_gauge_2 (fun H locs hP hS => ?_)
  obtain ⟨μ1, eμ1, h⟩ := vl_ex h
  have hP : fP w μ1 H := by rw [eμ1]; exact hP
  refine lv_iload_n hx hb dX11_gauge_5 rfl (lv_at hl 1 rfl) ?_
  refine lv_if_lt (tgt := 24) hx hb dX11_gauge_6 (by decide) (fun c2 => ?_) (fun c2 => ?_)
  · replace h := if_t c2 h
    refine lv_iconst (v := (-1)) hx hb dX11_gauge_24 (by decide) ?_
    exact r_iret C hr hP hS h dX11_gauge_25
  · replace h := if_f c2 h
    refine lv_iload_n hx hb dX11_gauge_9 rfl (lv_at hl 1 rfl) ?_
    refine lv_sipush (v := (9999)) hx hb dX11_gauge_10 (by decide) ?_
    refine lv_icmp_gt (tgt := 24) hx hb dX11_gauge_13 (by decide) (fun c3 => ?_) (fun c3 => ?_)
    · replace h := if_t c3 h
      refine lv_iconst (v := (-1)) hx hb dX11_gauge_24 (by decide) ?_
      exact r_iret C hr hP hS h dX11_gauge_25
    · replace h := if_f c3 h
      refine lv_aload_n hx hb dX11_gauge_16 rfl (lv_at hl 0 rfl) ?_
      refine lv_iload_n hx hb dX11_gauge_17 rfl (lv_at hl 1 rfl) ?_
      obtain ⟨r5, μ4, h6, h⟩ := bd_ok h
      refine go_i (callV_run (As := [.int v1]) (rest := []) C hl hP (hS.wide hJ).2.1 (iw hw (fi_11 hk0)) hk0 (m_X11_glassAt l w hJ hw v0 v1 hk0 μ1 h6) mv_X11_340 ⟨rfl, rfl, by decide, by decide⟩ rfl rfl (Nat.le_of_ble_eq_true rfl) ⟨Nat.zero_le _, Nat.zero_le _⟩ dX11_gauge_18) hS (fun H locs hP hS => ?_)
      refine lv_goto (tgt := 25) hx hb dX11_gauge_21 (by decide) ?_
      exact r_iret C hr hP hS h dX11_gauge_25

def f_X11_liking (v0 : Nat) (v1 : Int32) (v2 : Int32) (μ : fMem) : Option (Int32 × fMem) :=
  vl (sI μ v0 0 (0 : Int32)) fun μ1 => bd (f_X11_isDead v0 v1 μ1) fun r3 μ2 => if r3 = 0 then some ((-1 : Int32), μ2) else bd (f_X11_isThing v0 v2 μ2) fun r7 μ6 => if r7 = 0 then some ((-1 : Int32), μ6) else bd (f_X11_likingOf v0 (0 : Int32) v1 v2 μ6) fun r11 μ10 => some (r11, μ10)
def rm_X11_liking : Room := { frames := 5, cells := 0, slots := 0, locals := 176 }
set_option maxHeartbeats 4000000 in
set_option maxRecDepth 100000 in
theorem m_X11_liking (l : Launch) (w : fW) (hJ : fJ w) (hw : w.2.2.2 = sd 1) (v0 : Nat) (v1 : Int32) (v2 : Int32) (hk0 : kd v0 = (4, 11)) (μ : fMem) {r : Int32} {μr : fMem} (h : f_X11_liking v0 v1 v2 μ = some (r, μr)) : Met l yX11_liking (.code yX11_liking cX11_liking 3 (some .int) :: gw) rm_X11_liking (fPc w [.ref (w.2.2.1 v0), .int v1, .int v2] μ) (fQi w r μr) 0 0 (fA w) := by
  refine met_of hJ (by decide) ?_ (Nat.le_of_ble_eq_true rfl)
  generalize ([.ref (w.2.2.1 v0), .int v1, .int v2] : List Value).toArray = args
  intro p e s m below meth c ls C hr hP hl hS
  obtain ⟨hx, hb, hml, hown, hts, hK, -, hlk, hT⟩ := id C
  have hl : lv_has ls 3 [(0, .ref (w.2.2.1 v0)), (1, .int v1), (2, .int v2)] := hl
  unfold f_X11_liking at h
  refine lv_aload_n hx hb dX11_liking_0 rfl (lv_at hl 0 rfl) ?_
  refine lv_iconst (v := (0)) hx hb dX11_liking_1 (by decide) ?_
  refine r_putI C hP hS (iw hw (fi_11 hk0)) hk0 fp_X11_148 rfl dX11_liking_2 (fun H locs hP hS => ?_)
  obtain ⟨μ1, eμ1, h⟩ := vl_ex h
  have hP : fP w μ1 H := by rw [eμ1]; exact hP
  refine lv_aload_n hx hb dX11_liking_5 rfl (lv_at hl 0 rfl) ?_
  refine lv_iload_n hx hb dX11_liking_6 rfl (lv_at hl 1 rfl) ?_
  obtain ⟨r3, μ2, h4, h⟩ := bd_ok h
  refine go_i (callV_run (As := [.int v1]) (rest := []) C hl hP (hS.wide hJ).2.1 (iw hw (fi_11 hk0)) hk0 (m_X11_isDead l w hJ hw v0 v1 hk0 μ1 h4) mv_X11_428 ⟨rfl, rfl, by decide, by decide⟩ rfl rfl (Nat.le_of_ble_eq_true rfl) ⟨Nat.zero_le _, Nat.zero_le _⟩ dX11_liking_7) hS (fun H locs hP hS => ?_)
  refine lv_if_eq (tgt := 31) hx hb dX11_liking_10 (by decide) (fun c5 => ?_) (fun c5 => ?_)
  · replace h := if_t c5 h
    refine lv_iconst (v := (-1)) hx hb dX11_liking_31 (by decide) ?_
    exact r_iret C hr hP hS h dX11_liking_32
  · replace h := if_f c5 h
    refine lv_aload_n hx hb dX11_liking_13 rfl (lv_at hl 0 rfl) ?_
    refine lv_iload_n hx hb dX11_liking_14 rfl (lv_at hl 2 rfl) ?_
    obtain ⟨r7, μ6, h8, h⟩ := bd_ok h
    refine go_i (callV_run (As := [.int v2]) (rest := []) C hl hP (hS.wide hJ).2.1 (iw hw (fi_11 hk0)) hk0 (m_X11_isThing l w hJ hw v0 v2 hk0 μ2 h8) mv_X11_416 ⟨rfl, rfl, by decide, by decide⟩ rfl rfl (Nat.le_of_ble_eq_true rfl) ⟨Nat.zero_le _, Nat.zero_le _⟩ dX11_liking_15) hS (fun H locs hP hS => ?_)
    refine lv_if_eq (tgt := 31) hx hb dX11_liking_18 (by decide) (fun c9 => ?_) (fun c9 => ?_)
    · replace h := if_t c9 h
      refine lv_iconst (v := (-1)) hx hb dX11_liking_31 (by decide) ?_
      exact r_iret C hr hP hS h dX11_liking_32
    · replace h := if_f c9 h
      refine lv_aload_n hx hb dX11_liking_21 rfl (lv_at hl 0 rfl) ?_
      refine lv_iconst (v := (0)) hx hb dX11_liking_22 (by decide) ?_
      refine lv_iload_n hx hb dX11_liking_23 rfl (lv_at hl 1 rfl) ?_
      refine lv_iload_n hx hb dX11_liking_24 rfl (lv_at hl 2 rfl) ?_
      obtain ⟨r11, μ10, h12, h⟩ := bd_ok h
      refine go_i (callV_run (As := [.int (0 : Int32), .int v1, .int v2]) (rest := []) C hl hP (hS.wide hJ).2.1 (iw hw (fi_11 hk0)) hk0 (m_X11_likingOf l w hJ hw v0 (0 : Int32) v1 v2 hk0 μ6 h12) mv_X11_378 ⟨rfl, rfl, by decide, by decide⟩ rfl rfl (Nat.le_of_ble_eq_true rfl) ⟨Nat.zero_le _, Nat.zero_le _⟩ dX11_liking_25) hS (fun H locs hP hS => ?_)
      refine lv_goto (tgt := 32) hx hb dX11_liking_28 (by decide) ?_
      exact r_iret C hr hP hS h dX11_liking_32

def f_X11_law_j60 (v0 : Nat) (v1 : Int32) (t0 : Nat) (t1 : Int32) (t2 : Int32) (t3 : Int32) (μ : fMem) : Option (Int64 × fMem) :=
  bd (f_X11_calls t0 t1 t2 t3 μ) fun r19 μ18 => bd (f_X11_goes v0 v1 μ18) fun r22 μ21 => if r22 = 0 then some ((-9223372036854775808 : Int64), μ21) else some ((μ21.2.1 (v0 + 21) 0), μ21)
def f_X11_law_j47 (v0 : Nat) (v1 : Int32) (v2 : Int32) (v3 : Int32) (μ : fMem) : Option (Int64 × fMem) :=
  if v1 = (2 : Int32) then f_X11_law_j60 v0 v1 v0 (0 : Int32) v2 (-1 : Int32) μ else f_X11_law_j60 v0 v1 v0 (0 : Int32) v2 v3 μ
def f_X11_law (v0 : Nat) (v1 : Int32) (v2 : Int32) (v3 : Int32) (μ : fMem) : Option (Int64 × fMem) :=
  vl (sI μ v0 0 (0 : Int32)) fun μ1 => if v1 < 0 then some ((-9223372036854775808 : Int64), μ1) else if (2 : Int32) < v1 then some ((-9223372036854775808 : Int64), μ1) else bd (f_X11_hasLaw v0 v1 μ1) fun r5 μ4 => if r5 = 0 then some ((-9223372036854775808 : Int64), μ4) else bd (f_X11_isDead v0 v2 μ4) fun r9 μ8 => if r9 = 0 then some ((-9223372036854775808 : Int64), μ8) else if v1 = (2 : Int32) then f_X11_law_j47 v0 v1 v2 v3 μ8 else bd (f_X11_isThing v0 v3 μ8) fun r14 μ13 => if r14 = 0 then some ((-9223372036854775808 : Int64), μ13) else f_X11_law_j47 v0 v1 v2 v3 μ13
def rm_X11_law : Room := { frames := 3, cells := 0, slots := 0, locals := 129 }
set_option maxHeartbeats 4000000 in
set_option maxRecDepth 100000 in
theorem m_X11_law (l : Launch) (w : fW) (hJ : fJ w) (hw : w.2.2.2 = sd 1) (v0 : Nat) (v1 : Int32) (v2 : Int32) (v3 : Int32) (hk0 : kd v0 = (4, 11)) (μ : fMem) {r : Int64} {μr : fMem} (h : f_X11_law v0 v1 v2 v3 μ = some (r, μr)) : Met l yX11_law (.code yX11_law cX11_law 4 (some .long) :: gw) rm_X11_law (fPc w [.ref (w.2.2.1 v0), .int v1, .int v2, .int v3] μ) (fQl w r μr) 0 0 (fA w) := by
  refine met_of hJ (by decide) ?_ (Nat.le_of_ble_eq_true rfl)
  generalize ([.ref (w.2.2.1 v0), .int v1, .int v2, .int v3] : List Value).toArray = args
  intro p e s m below meth c ls C hr hP hl hS
  obtain ⟨hx, hb, hml, hown, hts, hK, -, hlk, hT⟩ := id C
  have hl : lv_has ls 4 [(0, .ref (w.2.2.1 v0)), (1, .int v1), (2, .int v2), (3, .int v3)] := hl
  unfold f_X11_law at h
  have J60 : ∀ (t0 : Nat) (t1 : Int32) (t2 : Int32) (t3 : Int32) (μ : fMem) (_ : kd t0 = (4, 11)) (_ : inW w.2.2.2 t0), f_X11_law_j60 v0 v1 t0 t1 t2 t3 μ = some (r, μr) → WW p l e rm_X11_law s m args below meth c (MQ below (fQl w r μr) args s 0 0 (fA w)) w μ 4 60 [.int t3, .int t2, .int t1, .ref (w.2.2.1 t0)] [(0, .ref (w.2.2.1 v0)), (1, .int v1)] := by
    intro t0 t1 t2 t3 μ kt0 it0 h H locs ls hP hS hl
    unfold f_X11_law_j60 at h
    obtain ⟨r19, μ18, h20, h⟩ := bd_ok h
    refine go_v (callV_run (As := [.int t1, .int t2, .int t3]) (rest := []) C hl hP (hS.wide hJ).2.1 it0 kt0 (m_X11_calls l w hJ hw t0 t1 t2 t3 kt0 μ h20) mv_X11_365 ⟨rfl, rfl, by decide, by decide⟩ rfl rfl (Nat.le_of_ble_eq_true rfl) ⟨Nat.zero_le _, Nat.zero_le _⟩ dX11_law_60) hS (fun H locs hP hS => ?_)
    refine lv_aload_n hx hb dX11_law_63 rfl (lv_at hl 0 rfl) ?_
    refine lv_iload_n hx hb dX11_law_64 rfl (lv_at hl 1 rfl) ?_
    obtain ⟨r22, μ21, h23, h⟩ := bd_ok h
    refine go_i (callV_run (As := [.int v1]) (rest := []) C hl hP (hS.wide hJ).2.1 (iw hw (fi_11 hk0)) hk0 (m_X11_goes l w hJ hw v0 v1 hk0 μ18 h23) mv_X11_355 ⟨rfl, rfl, by decide, by decide⟩ rfl rfl (Nat.le_of_ble_eq_true rfl) ⟨Nat.zero_le _, Nat.zero_le _⟩ dX11_law_65) hS (fun H locs hP hS => ?_)
    refine lv_if_eq (tgt := 80) hx hb dX11_law_68 (by decide) (fun c24 => ?_) (fun c24 => ?_)
    · replace h := if_t c24 h
      refine lv_ldc2 hx hb hown (hts _ ct_X11_433) dX11_law_80 ?_
      exact r_lret C hr hP hS h dX11_law_83
    · replace h := if_f c24 h
      refine lv_aload_n hx hb dX11_law_71 rfl (lv_at hl 0 rfl) ?_
      refine r_getF (off := 21) C hP (iw hw (fi_11 hk0)) hk0 fl_X11_75 rfl rfl (zw hw) dX11_law_72 ?_
      refine lv_iconst (v := (0)) hx hb dX11_law_75 (by decide) ?_
      refine n_lald (j := 0) C hP (iw hw (ff_11_35 hk0).2) (ff_11_35 hk0).1 (by decide) (by decide) dX11_law_76 ?_
      refine lv_goto (tgt := 83) hx hb dX11_law_77 (by decide) ?_
      exact r_lret C hr hP hS h dX11_law_83
  have J47 : ∀  (μ : fMem), f_X11_law_j47 v0 v1 v2 v3 μ = some (r, μr) → WW p l e rm_X11_law s m args below meth c (MQ below (fQl w r μr) args s 0 0 (fA w)) w μ 4 47 [] [(0, .ref (w.2.2.1 v0)), (1, .int v1), (2, .int v2), (3, .int v3)] := by
    intro  μ  h H locs ls hP hS hl
    unfold f_X11_law_j47 at h
    refine lv_aload_n hx hb dX11_law_47 rfl (lv_at hl 0 rfl) ?_
    refine lv_iconst (v := (0)) hx hb dX11_law_48 (by decide) ?_
    refine lv_iload_n hx hb dX11_law_49 rfl (lv_at hl 2 rfl) ?_
    refine lv_iload_n hx hb dX11_law_50 rfl (lv_at hl 1 rfl) ?_
    refine lv_iconst (v := (2)) hx hb dX11_law_51 (by decide) ?_
    refine lv_icmp_ne (tgt := 59) hx hb dX11_law_52 (by decide) (fun c17 => ?_) (fun c17 => ?_)
    · replace h := if_f c17 h
      refine lv_iload_n hx hb dX11_law_59 rfl (lv_at hl 3 rfl) ?_
      exact J60 v0 (0 : Int32) v2 v3 μ hk0 (iw hw (fi_11 hk0)) h _ _ _ hP hS (lv_sub hl [0, 1] rfl)
    · replace h := if_t c17 h
      refine lv_iconst (v := (-1)) hx hb dX11_law_55 (by decide) ?_
      refine lv_goto (tgt := 60) hx hb dX11_law_56 (by decide) ?_
      exact J60 v0 (0 : Int32) v2 (-1 : Int32) μ hk0 (iw hw (fi_11 hk0)) h _ _ _ hP hS (lv_sub hl [0, 1] rfl)
  refine lv_aload_n hx hb dX11_law_0 rfl (lv_at hl 0 rfl) ?_
  refine lv_iconst (v := (0)) hx hb dX11_law_1 (by decide) ?_
  refine r_putI C hP hS (iw hw (fi_11 hk0)) hk0 fp_X11_148 rfl dX11_law_2 (fun H locs hP hS => ?_)
  obtain ⟨μ1, eμ1, h⟩ := vl_ex h
  have hP : fP w μ1 H := by rw [eμ1]; exact hP
  refine lv_iload_n hx hb dX11_law_5 rfl (lv_at hl 1 rfl) ?_
  refine lv_if_lt (tgt := 43) hx hb dX11_law_6 (by decide) (fun c2 => ?_) (fun c2 => ?_)
  · replace h := if_t c2 h
    refine lv_ldc2 hx hb hown (hts _ ct_X11_433) dX11_law_43 ?_
    exact r_lret C hr hP hS h dX11_law_46
  · replace h := if_f c2 h
    refine lv_iload_n hx hb dX11_law_9 rfl (lv_at hl 1 rfl) ?_
    refine lv_iconst (v := (2)) hx hb dX11_law_10 (by decide) ?_
    refine lv_icmp_gt (tgt := 43) hx hb dX11_law_11 (by decide) (fun c3 => ?_) (fun c3 => ?_)
    · replace h := if_t c3 h
      refine lv_ldc2 hx hb hown (hts _ ct_X11_433) dX11_law_43 ?_
      exact r_lret C hr hP hS h dX11_law_46
    · replace h := if_f c3 h
      refine lv_aload_n hx hb dX11_law_14 rfl (lv_at hl 0 rfl) ?_
      refine lv_iload_n hx hb dX11_law_15 rfl (lv_at hl 1 rfl) ?_
      obtain ⟨r5, μ4, h6, h⟩ := bd_ok h
      refine go_i (callV_run (As := [.int v1]) (rest := []) C hl hP (hS.wide hJ).2.1 (iw hw (fi_11 hk0)) hk0 (m_X11_hasLaw l w hJ hw v0 v1 hk0 μ1 h6) mv_X11_352 ⟨rfl, rfl, by decide, by decide⟩ rfl rfl (Nat.le_of_ble_eq_true rfl) ⟨Nat.zero_le _, Nat.zero_le _⟩ dX11_law_16) hS (fun H locs hP hS => ?_)
      refine lv_if_eq (tgt := 43) hx hb dX11_law_19 (by decide) (fun c7 => ?_) (fun c7 => ?_)
      · replace h := if_t c7 h
        refine lv_ldc2 hx hb hown (hts _ ct_X11_433) dX11_law_43 ?_
        exact r_lret C hr hP hS h dX11_law_46
      · replace h := if_f c7 h
        refine lv_aload_n hx hb dX11_law_22 rfl (lv_at hl 0 rfl) ?_
        refine lv_iload_n hx hb dX11_law_23 rfl (lv_at hl 2 rfl) ?_
        obtain ⟨r9, μ8, h10, h⟩ := bd_ok h
        refine go_i (callV_run (As := [.int v2]) (rest := []) C hl hP (hS.wide hJ).2.1 (iw hw (fi_11 hk0)) hk0 (m_X11_isDead l w hJ hw v0 v2 hk0 μ4 h10) mv_X11_428 ⟨rfl, rfl, by decide, by decide⟩ rfl rfl (Nat.le_of_ble_eq_true rfl) ⟨Nat.zero_le _, Nat.zero_le _⟩ dX11_law_24) hS (fun H locs hP hS => ?_)
        refine lv_if_eq (tgt := 43) hx hb dX11_law_27 (by decide) (fun c11 => ?_) (fun c11 => ?_)
        · replace h := if_t c11 h
          refine lv_ldc2 hx hb hown (hts _ ct_X11_433) dX11_law_43 ?_
          exact r_lret C hr hP hS h dX11_law_46
        · replace h := if_f c11 h
          refine lv_iload_n hx hb dX11_law_30 rfl (lv_at hl 1 rfl) ?_
          refine lv_iconst (v := (2)) hx hb dX11_law_31 (by decide) ?_
          refine lv_icmp_eq (tgt := 47) hx hb dX11_law_32 (by decide) (fun c12 => ?_) (fun c12 => ?_)
          · replace h := if_t c12 h
            exact J47  μ8  h _ _ _ hP hS (lv_sub hl [0, 1, 2, 3] rfl)
          · replace h := if_f c12 h
            refine lv_aload_n hx hb dX11_law_35 rfl (lv_at hl 0 rfl) ?_
            refine lv_iload_n hx hb dX11_law_36 rfl (lv_at hl 3 rfl) ?_
            obtain ⟨r14, μ13, h15, h⟩ := bd_ok h
            refine go_i (callV_run (As := [.int v3]) (rest := []) C hl hP (hS.wide hJ).2.1 (iw hw (fi_11 hk0)) hk0 (m_X11_isThing l w hJ hw v0 v3 hk0 μ8 h15) mv_X11_416 ⟨rfl, rfl, by decide, by decide⟩ rfl rfl (Nat.le_of_ble_eq_true rfl) ⟨Nat.zero_le _, Nat.zero_le _⟩ dX11_law_37) hS (fun H locs hP hS => ?_)
            refine lv_if_ne (tgt := 47) hx hb dX11_law_40 (by decide) (fun c16 => ?_) (fun c16 => ?_)
            · replace h := if_f c16 h
              exact J47  μ13  h _ _ _ hP hS (lv_sub hl [0, 1, 2, 3] rfl)
            · replace h := if_t c16 h
              refine lv_ldc2 hx hb hown (hts _ ct_X11_433) dX11_law_43 ?_
              exact r_lret C hr hP hS h dX11_law_46

def f_X11_keepNow_L11 (v0 : Nat) (v1 : Int32) (μ : fMem) : Option (Nat × (Int32 × fMem)) :=
  if (20 : Int32) ≤ v1 then some (1, (v1, μ)) else bd (f_X11_copies v0 (((3 : Int32) + v1) - (1 : Int32)) ((3 : Int32) + v1) μ) fun r4 μ3 => vl (v1 + (1 : Int32)) fun x6 => some (0, (x6, μ3))
def f_X11_keepNow_j45 (v0 : Nat) (μ : fMem) : Option (Unit × fMem) :=
  bd (f_X11_copies v0 ((3 : Int32) + (μ.1 v0 46)) (0 : Int32) μ) fun r14 μ13 => vl (sI μ13 v0 46 ((μ13.1 v0 46) + (1 : Int32))) fun μ16 => some ((), μ16)
def f_X11_keepNow (v0 : Nat) (μ : fMem) : Option (Unit × fMem) :=
  if (μ.1 v0 46) = (20 : Int32) then bd (lpn (fun (q : Int32 × fMem) => f_X11_keepNow_L11 v0 q.1 q.2) fuel ((1 : Int32), μ)) fun t7 q8 => (fun (x9 : Int32) (μ10 : fMem) => vl (sI μ10 v0 46 ((μ10.1 v0 46) - (1 : Int32))) fun μ11 => f_X11_keepNow_j45 v0 μ11) q8.1 q8.2 else f_X11_keepNow_j45 v0 μ
def rm_X11_keepNow : Room := { frames := 1, cells := 0, slots := 0, locals := 23 }
set_option maxHeartbeats 4000000 in
set_option maxRecDepth 100000 in
theorem m_X11_keepNow (l : Launch) (w : fW) (hJ : fJ w) (hw : w.2.2.2 = sd 1) (v0 : Nat) (hk0 : kd v0 = (4, 11)) (μ : fMem) {r : Unit} {μr : fMem} (h : f_X11_keepNow v0 μ = some (r, μr)) : Met l yX11_keepNow (.code yX11_keepNow cX11_keepNow 2 none :: gw) rm_X11_keepNow (fPc w [.ref (w.2.2.1 v0)] μ) (fQv w μr) 0 0 (fA w) := by
  refine met_of hJ (by decide) ?_ (Nat.le_of_ble_eq_true rfl)
  generalize ([.ref (w.2.2.1 v0)] : List Value).toArray = args
  intro p e s m below meth c ls C hr hP hl hS
  obtain ⟨hx, hb, hml, hown, hts, hK, -, hlk, hT⟩ := id C
  have hl : lv_has ls 2 [(0, .ref (w.2.2.1 v0))] := hl
  unfold f_X11_keepNow at h
  have J45 : ∀  (μ : fMem), f_X11_keepNow_j45 v0 μ = some (r, μr) → WW p l e rm_X11_keepNow s m args below meth c (MQ below (fQv w μr) args s 0 0 (fA w)) w μ 2 45 [] [(0, .ref (w.2.2.1 v0))] := by
    intro  μ  h H locs ls hP hS hl
    unfold f_X11_keepNow_j45 at h
    refine lv_aload_n hx hb dX11_keepNow_45 rfl (lv_at hl 0 rfl) ?_
    refine lv_iconst (v := (3)) hx hb dX11_keepNow_46 (by decide) ?_
    refine lv_aload_n hx hb dX11_keepNow_47 rfl (lv_at hl 0 rfl) ?_
    refine r_getI C hP (iw hw (fi_11 hk0)) hk0 fl_X11_311 (Or.inl rfl) dX11_keepNow_48 ?_
    refine lv_iadd hx hb dX11_keepNow_51 ?_
    refine lv_iconst (v := (0)) hx hb dX11_keepNow_52 (by decide) ?_
    obtain ⟨r14, μ13, h15, h⟩ := bd_ok h
    refine go_v (callV_run (As := [.int ((3 : Int32) + (μ.1 v0 46)), .int (0 : Int32)]) (rest := []) C hl hP (hS.wide hJ).2.1 (iw hw (fi_11 hk0)) hk0 (m_X11_copies l w hJ hw v0 ((3 : Int32) + (μ.1 v0 46)) (0 : Int32) hk0 μ h15) mv_X11_403 ⟨rfl, rfl, by decide, by decide⟩ rfl rfl (Nat.le_of_ble_eq_true rfl) ⟨Nat.zero_le _, Nat.zero_le _⟩ dX11_keepNow_53) hS (fun H locs hP hS => ?_)
    refine lv_aload_n hx hb dX11_keepNow_56 rfl (lv_at hl 0 rfl) ?_
    refine lv_dup hx hb dX11_keepNow_57 rfl ?_
    refine r_getI C hP (iw hw (fi_11 hk0)) hk0 fl_X11_311 (Or.inl rfl) dX11_keepNow_58 ?_
    refine lv_iconst (v := (1)) hx hb dX11_keepNow_61 (by decide) ?_
    refine lv_iadd hx hb dX11_keepNow_62 ?_
    refine r_putI C hP hS (iw hw (fi_11 hk0)) hk0 fp_X11_311 rfl dX11_keepNow_63 (fun H locs hP hS => ?_)
    obtain ⟨μ16, eμ16, h⟩ := vl_ex h
    have hP : fP w μ16 H := by rw [eμ16]; exact hP
    exact r_vret C hr hP hS h dX11_keepNow_66
  refine lv_aload_n hx hb dX11_keepNow_0 rfl (lv_at hl 0 rfl) ?_
  refine r_getI C hP (iw hw (fi_11 hk0)) hk0 fl_X11_311 (Or.inl rfl) dX11_keepNow_1 ?_
  refine lv_bipush (v := (20)) hx hb dX11_keepNow_4 (by decide) ?_
  refine lv_icmp_ne (tgt := 45) hx hb dX11_keepNow_6 (by decide) (fun c1 => ?_) (fun c1 => ?_)
  · replace h := if_f c1 h
    exact J45  μ  h _ _ _ hP hS (lv_sub hl [0] rfl)
  · replace h := if_t c1 h
    refine lv_iconst (v := (1)) hx hb dX11_keepNow_9 (by decide) ?_
    refine lv_istore_n (lv' := [(1, .int (1 : Int32)), (0, .ref (w.2.2.1 v0))]) hx hb dX11_keepNow_10 rfl hl (by decide) rfl (fun ls hl => ?_)
    obtain ⟨t7, q8, h12, h⟩ := bd_ok h
    refine lpn_ind (b := (fun (q : Int32 × fMem) => f_X11_keepNow_L11 v0 q.1 q.2)) (P := fun (q : Int32 × fMem) => WW p l e rm_X11_keepNow s m args below meth c (MQ below (fQv w μr) args s 0 0 (fA w)) w q.2 2 11 [] [(0, .ref (w.2.2.1 v0)), (1, .int q.1)]) (K := fun _ (q : Int32 × fMem) => WW p l e rm_X11_keepNow s m args below meth c (MQ below (fQv w μr) args s 0 0 (fA w)) w q.2 2 35 [] [(0, .ref (w.2.2.1 v0))]) ?_ fuel ((1 : Int32), μ) t7 q8 h12 ?_ _ _ _ hP hS (lv_sub hl [1, 0] rfl)
    · intro q tz11 sz11 h hP0_11 hK0_11 H locs ls hP hS hl
      obtain ⟨v1, μ⟩ := q
      have hP : fP w μ H := hP
      have hl : lv_has ls 2 [(0, .ref (w.2.2.1 v0)), (1, .int v1)] := hl
      have h : f_X11_keepNow_L11 v0 v1 μ = some (tz11, sz11) := h
      unfold f_X11_keepNow_L11 at h
      refine lv_iload_n hx hb dX11_keepNow_11 rfl (lv_at hl 1 rfl) ?_
      refine lv_bipush (v := (20)) hx hb dX11_keepNow_12 (by decide) ?_
      refine lv_icmp_ge (tgt := 35) hx hb dX11_keepNow_14 (by decide) (fun c2 => ?_) (fun c2 => ?_)
      · replace h := if_t c2 h
        obtain ⟨rfl, rfl⟩ := leaf h
        exact (hK0_11 0 rfl) _ _ _ hP hS (lv_sub hl [0] rfl)
      · replace h := if_f c2 h
        refine lv_aload_n hx hb dX11_keepNow_17 rfl (lv_at hl 0 rfl) ?_
        refine lv_iconst (v := (3)) hx hb dX11_keepNow_18 (by decide) ?_
        refine lv_iload_n hx hb dX11_keepNow_19 rfl (lv_at hl 1 rfl) ?_
        refine lv_iadd hx hb dX11_keepNow_20 ?_
        refine lv_iconst (v := (1)) hx hb dX11_keepNow_21 (by decide) ?_
        refine lv_isub hx hb dX11_keepNow_22 ?_
        refine lv_iconst (v := (3)) hx hb dX11_keepNow_23 (by decide) ?_
        refine lv_iload_n hx hb dX11_keepNow_24 rfl (lv_at hl 1 rfl) ?_
        refine lv_iadd hx hb dX11_keepNow_25 ?_
        obtain ⟨r4, μ3, h5, h⟩ := bd_ok h
        refine go_v (callV_run (As := [.int (((3 : Int32) + v1) - (1 : Int32)), .int ((3 : Int32) + v1)]) (rest := []) C hl hP (hS.wide hJ).2.1 (iw hw (fi_11 hk0)) hk0 (m_X11_copies l w hJ hw v0 (((3 : Int32) + v1) - (1 : Int32)) ((3 : Int32) + v1) hk0 μ h5) mv_X11_403 ⟨rfl, rfl, by decide, by decide⟩ rfl rfl (Nat.le_of_ble_eq_true rfl) ⟨Nat.zero_le _, Nat.zero_le _⟩ dX11_keepNow_26) hS (fun H locs hP hS => ?_)
        obtain ⟨x6, ex6⟩ : ∃ y : Int32, y = (v1 + (1 : Int32)) := ⟨_, rfl⟩
        replace h := vl_ok ex6 h
        refine lv_iinc (v := x6) (lv' := [(1, .int x6), (0, .ref (w.2.2.1 v0))]) hx hb dX11_keepNow_29 hl (k := 1) rfl (by rw [ex6]; rfl) (by decide) rfl (fun ls hl => ?_)
        refine lv_goto (tgt := 11) hx hb dX11_keepNow_32 (by decide) ?_
        obtain ⟨rfl, rfl⟩ := leaf h
        exact hP0_11 rfl _ _ _ hP hS (lv_sub hl [1, 0] rfl)
    · obtain ⟨x9, μ10⟩ := q8
      intro H locs ls hP hS hl
      have hP : fP w μ10 H := hP
      have hl : lv_has ls 2 [(0, .ref (w.2.2.1 v0))] := hl
      try dsimp only at h
      refine lv_aload_n hx hb dX11_keepNow_35 rfl (lv_at hl 0 rfl) ?_
      refine lv_dup hx hb dX11_keepNow_36 rfl ?_
      refine r_getI C hP (iw hw (fi_11 hk0)) hk0 fl_X11_311 (Or.inl rfl) dX11_keepNow_37 ?_
      refine lv_iconst (v := (1)) hx hb dX11_keepNow_40 (by decide) ?_
      refine lv_isub hx hb dX11_keepNow_41 ?_
      refine r_putI C hP hS (iw hw (fi_11 hk0)) hk0 fp_X11_311 rfl dX11_keepNow_42 (fun H locs hP hS => ?_)
      obtain ⟨μ11, eμ11, h⟩ := vl_ex h
      have hP : fP w μ11 H := by rw [eμ11]; exact hP
      exact J45  μ11  h _ _ _ hP hS (lv_sub hl [0] rfl)

def f_X11_hang (v0 : Nat) (v1 : Int32) (v2 : Int32) (μ : fMem) : Option (Int32 × fMem) :=
  vl (sI μ v0 0 (0 : Int32)) fun μ1 => bd (f_X11_isThing v0 v1 μ1) fun r3 μ2 => if r3 = 0 then gd (bl (0 : Int32)) (some ((0 : Int32), μ2)) else bd (f_X11_isRoom v0 v2 μ2) fun r7 μ6 => if r7 = 0 then gd (bl (0 : Int32)) (some ((0 : Int32), μ6)) else gd (ixo v1 184) (if (μ6.1 (v0 + 25) (Int32.toNatClampNeg v1)) = v2 then gd (bl (0 : Int32)) (some ((0 : Int32), μ6)) else bd (f_X11_keepNow v0 μ6) fun r13 μ12 => gd (ixo v1 184) (vl (sI μ12 (v0 + 25) (Int32.toNatClampNeg v1) v2) fun μ15 => gd (bl (1 : Int32)) (some ((1 : Int32), μ15))))
def rm_X11_hang : Room := { frames := 2, cells := 0, slots := 0, locals := 44 }
set_option maxHeartbeats 4000000 in
set_option maxRecDepth 100000 in
theorem m_X11_hang (l : Launch) (w : fW) (hJ : fJ w) (hw : w.2.2.2 = sd 1) (v0 : Nat) (v1 : Int32) (v2 : Int32) (hk0 : kd v0 = (4, 11)) (μ : fMem) {r : Int32} {μr : fMem} (h : f_X11_hang v0 v1 v2 μ = some (r, μr)) : Met l yX11_hang (.code yX11_hang cX11_hang 3 (some .boolean) :: gw) rm_X11_hang (fPc w [.ref (w.2.2.1 v0), .int v1, .int v2] μ) (fQi w r μr) 0 0 (fA w) := by
  refine met_of hJ (by decide) ?_ (Nat.le_of_ble_eq_true rfl)
  generalize ([.ref (w.2.2.1 v0), .int v1, .int v2] : List Value).toArray = args
  intro p e s m below meth c ls C hr hP hl hS
  obtain ⟨hx, hb, hml, hown, hts, hK, -, hlk, hT⟩ := id C
  have hl : lv_has ls 3 [(0, .ref (w.2.2.1 v0)), (1, .int v1), (2, .int v2)] := hl
  unfold f_X11_hang at h
  refine lv_aload_n hx hb dX11_hang_0 rfl (lv_at hl 0 rfl) ?_
  refine lv_iconst (v := (0)) hx hb dX11_hang_1 (by decide) ?_
  refine r_putI C hP hS (iw hw (fi_11 hk0)) hk0 fp_X11_148 rfl dX11_hang_2 (fun H locs hP hS => ?_)
  obtain ⟨μ1, eμ1, h⟩ := vl_ex h
  have hP : fP w μ1 H := by rw [eμ1]; exact hP
  refine lv_aload_n hx hb dX11_hang_5 rfl (lv_at hl 0 rfl) ?_
  refine lv_iload_n hx hb dX11_hang_6 rfl (lv_at hl 1 rfl) ?_
  obtain ⟨r3, μ2, h4, h⟩ := bd_ok h
  refine go_i (callV_run (As := [.int v1]) (rest := []) C hl hP (hS.wide hJ).2.1 (iw hw (fi_11 hk0)) hk0 (m_X11_isThing l w hJ hw v0 v1 hk0 μ1 h4) mv_X11_416 ⟨rfl, rfl, by decide, by decide⟩ rfl rfl (Nat.le_of_ble_eq_true rfl) ⟨Nat.zero_le _, Nat.zero_le _⟩ dX11_hang_7) hS (fun H locs hP hS => ?_)
  refine lv_if_eq (tgt := 31) hx hb dX11_hang_10 (by decide) (fun c5 => ?_) (fun c5 => ?_)
  · replace h := if_t c5 h
    refine lv_iconst (v := (0)) hx hb dX11_hang_31 (by decide) ?_
    exact r_zret C hr hP hS h dX11_hang_32
  · replace h := if_f c5 h
    refine lv_aload_n hx hb dX11_hang_13 rfl (lv_at hl 0 rfl) ?_
    refine lv_iload_n hx hb dX11_hang_14 rfl (lv_at hl 2 rfl) ?_
    obtain ⟨r7, μ6, h8, h⟩ := bd_ok h
    refine go_i (callV_run (As := [.int v2]) (rest := []) C hl hP (hS.wide hJ).2.1 (iw hw (fi_11 hk0)) hk0 (m_X11_isRoom l w hJ hw v0 v2 hk0 μ2 h8) mv_X11_419 ⟨rfl, rfl, by decide, by decide⟩ rfl rfl (Nat.le_of_ble_eq_true rfl) ⟨Nat.zero_le _, Nat.zero_le _⟩ dX11_hang_15) hS (fun H locs hP hS => ?_)
    refine lv_if_eq (tgt := 31) hx hb dX11_hang_18 (by decide) (fun c9 => ?_) (fun c9 => ?_)
    · replace h := if_t c9 h
      refine lv_iconst (v := (0)) hx hb dX11_hang_31 (by decide) ?_
      exact r_zret C hr hP hS h dX11_hang_32
    · replace h := if_f c9 h
      refine lv_aload_n hx hb dX11_hang_21 rfl (lv_at hl 0 rfl) ?_
      refine r_getF (off := 25) C hP (iw hw (fi_11 hk0)) hk0 fl_X11_87 rfl rfl (zw hw) dX11_hang_22 ?_
      refine lv_iload_n hx hb dX11_hang_25 rfl (lv_at hl 1 rfl) ?_
      obtain ⟨g10, h⟩ := gd_ok h
      refine r_iald C hP (iw hw (ff_11_40 hk0).2) (ff_11_40 hk0).1 g10 dX11_hang_26 ?_
      refine lv_iload_n hx hb dX11_hang_27 rfl (lv_at hl 2 rfl) ?_
      refine lv_icmp_ne (tgt := 33) hx hb dX11_hang_28 (by decide) (fun c11 => ?_) (fun c11 => ?_)
      · replace h := if_f c11 h
        refine lv_aload_n hx hb dX11_hang_33 rfl (lv_at hl 0 rfl) ?_
        obtain ⟨r13, μ12, h14, h⟩ := bd_ok h
        refine go_v (callV_run (As := []) (rest := []) C hl hP (hS.wide hJ).2.1 (iw hw (fi_11 hk0)) hk0 (m_X11_keepNow l w hJ hw v0 hk0 μ6 h14) mv_X11_435 ⟨rfl, rfl, by decide, by decide⟩ rfl rfl (Nat.le_of_ble_eq_true rfl) ⟨Nat.zero_le _, Nat.zero_le _⟩ dX11_hang_34) hS (fun H locs hP hS => ?_)
        refine lv_aload_n hx hb dX11_hang_37 rfl (lv_at hl 0 rfl) ?_
        refine r_getF (off := 25) C hP (iw hw (fi_11 hk0)) hk0 fl_X11_87 rfl rfl (zw hw) dX11_hang_38 ?_
        refine lv_iload_n hx hb dX11_hang_41 rfl (lv_at hl 1 rfl) ?_
        refine lv_iload_n hx hb dX11_hang_42 rfl (lv_at hl 2 rfl) ?_
        obtain ⟨g16, h⟩ := gd_ok h
        refine r_iast C hP hS (iw hw (ff_11_40 hk0).2) (ff_11_40 hk0).1 g16 dX11_hang_43 (fun H locs hP hS => ?_)
        obtain ⟨μ15, eμ15, h⟩ := vl_ex h
        have hP : fP w μ15 H := by rw [eμ15]; exact hP
        refine lv_iconst (v := (1)) hx hb dX11_hang_44 (by decide) ?_
        exact r_zret C hr hP hS h dX11_hang_45
      · replace h := if_t c11 h
        refine lv_iconst (v := (0)) hx hb dX11_hang_31 (by decide) ?_
        exact r_zret C hr hP hS h dX11_hang_32

def f_X11_rope_j32 (v0 : Nat) (v1 : Int32) (v2 : Int32) (t0 : Int32) (μ : fMem) : Option (Int32 × fMem) :=
  if t0 = v2 then gd (bl (0 : Int32)) (some ((0 : Int32), μ)) else bd (f_X11_keepNow v0 μ) fun r9 μ8 => vl (sI μ8 (v0 + 24) 0 ((μ8.1 (v0 + 24) 0) ^^^ (shl (1 : Int32) v1))) fun μ11 => gd (bl (1 : Int32)) (some ((1 : Int32), μ11))
def f_X11_rope (v0 : Nat) (v1 : Int32) (v2 : Int32) (μ : fMem) : Option (Int32 × fMem) :=
  vl (sI μ v0 0 (0 : Int32)) fun μ1 => bd (f_X11_isRoom v0 v1 μ1) fun r3 μ2 => if r3 = 0 then gd (bl (0 : Int32)) (some ((0 : Int32), μ2)) else if ((shr (μ2.1 (v0 + 24) 0) v1) &&& (1 : Int32)) = (1 : Int32) then f_X11_rope_j32 v0 v1 v2 (1 : Int32) μ2 else f_X11_rope_j32 v0 v1 v2 (0 : Int32) μ2
def rm_X11_rope : Room := { frames := 2, cells := 0, slots := 0, locals := 44 }
set_option maxHeartbeats 4000000 in
set_option maxRecDepth 100000 in
theorem m_X11_rope (l : Launch) (w : fW) (hJ : fJ w) (hw : w.2.2.2 = sd 1) (v0 : Nat) (v1 : Int32) (v2 : Int32) (hk0 : kd v0 = (4, 11)) (μ : fMem) {r : Int32} {μr : fMem} (h : f_X11_rope v0 v1 v2 μ = some (r, μr)) : Met l yX11_rope (.code yX11_rope cX11_rope 3 (some .boolean) :: gw) rm_X11_rope (fPc w [.ref (w.2.2.1 v0), .int v1, .int v2] μ) (fQi w r μr) 0 0 (fA w) := by
  refine met_of hJ (by decide) ?_ (Nat.le_of_ble_eq_true rfl)
  generalize ([.ref (w.2.2.1 v0), .int v1, .int v2] : List Value).toArray = args
  intro p e s m below meth c ls C hr hP hl hS
  obtain ⟨hx, hb, hml, hown, hts, hK, -, hlk, hT⟩ := id C
  have hl : lv_has ls 3 [(0, .ref (w.2.2.1 v0)), (1, .int v1), (2, .int v2)] := hl
  unfold f_X11_rope at h
  have J32 : ∀ (t0 : Int32) (μ : fMem), f_X11_rope_j32 v0 v1 v2 t0 μ = some (r, μr) → WW p l e rm_X11_rope s m args below meth c (MQ below (fQi w r μr) args s 0 0 (fA w)) w μ 3 32 [.int t0] [(0, .ref (w.2.2.1 v0)), (1, .int v1), (2, .int v2)] := by
    intro t0 μ  h H locs ls hP hS hl
    unfold f_X11_rope_j32 at h
    refine lv_iload_n hx hb dX11_rope_32 rfl (lv_at hl 2 rfl) ?_
    refine lv_icmp_ne (tgt := 38) hx hb dX11_rope_33 (by decide) (fun c7 => ?_) (fun c7 => ?_)
    · replace h := if_f c7 h
      refine lv_aload_n hx hb dX11_rope_38 rfl (lv_at hl 0 rfl) ?_
      obtain ⟨r9, μ8, h10, h⟩ := bd_ok h
      refine go_v (callV_run (As := []) (rest := []) C hl hP (hS.wide hJ).2.1 (iw hw (fi_11 hk0)) hk0 (m_X11_keepNow l w hJ hw v0 hk0 μ h10) mv_X11_435 ⟨rfl, rfl, by decide, by decide⟩ rfl rfl (Nat.le_of_ble_eq_true rfl) ⟨Nat.zero_le _, Nat.zero_le _⟩ dX11_rope_39) hS (fun H locs hP hS => ?_)
      refine lv_aload_n hx hb dX11_rope_42 rfl (lv_at hl 0 rfl) ?_
      refine r_getF (off := 24) C hP (iw hw (fi_11 hk0)) hk0 fl_X11_84 rfl rfl (zw hw) dX11_rope_43 ?_
      refine lv_iconst (v := (0)) hx hb dX11_rope_46 (by decide) ?_
      refine lv_dup2_11 hx hb dX11_rope_47 rfl rfl ?_
      refine n_iald (j := 0) C hP (iw hw (ff_11_39 hk0).2) (ff_11_39 hk0).1 (by decide) (by decide) dX11_rope_48 ?_
      refine lv_iconst (v := (1)) hx hb dX11_rope_49 (by decide) ?_
      refine lv_iload_n hx hb dX11_rope_50 rfl (lv_at hl 1 rfl) ?_
      refine r_ishl hx hb dX11_rope_51 ?_
      refine lv_ixor hx hb dX11_rope_52 ?_
      refine n_iast (j := 0) C hP hS (iw hw (ff_11_39 hk0).2) (ff_11_39 hk0).1 (by decide) (by decide) dX11_rope_53 (fun H locs hP hS => ?_)
      obtain ⟨μ11, eμ11, h⟩ := vl_ex h
      have hP : fP w μ11 H := by rw [eμ11]; exact hP
      refine lv_iconst (v := (1)) hx hb dX11_rope_54 (by decide) ?_
      exact r_zret C hr hP hS h dX11_rope_55
    · replace h := if_t c7 h
      refine lv_iconst (v := (0)) hx hb dX11_rope_36 (by decide) ?_
      exact r_zret C hr hP hS h dX11_rope_37
  refine lv_aload_n hx hb dX11_rope_0 rfl (lv_at hl 0 rfl) ?_
  refine lv_iconst (v := (0)) hx hb dX11_rope_1 (by decide) ?_
  refine r_putI C hP hS (iw hw (fi_11 hk0)) hk0 fp_X11_148 rfl dX11_rope_2 (fun H locs hP hS => ?_)
  obtain ⟨μ1, eμ1, h⟩ := vl_ex h
  have hP : fP w μ1 H := by rw [eμ1]; exact hP
  refine lv_aload_n hx hb dX11_rope_5 rfl (lv_at hl 0 rfl) ?_
  refine lv_iload_n hx hb dX11_rope_6 rfl (lv_at hl 1 rfl) ?_
  obtain ⟨r3, μ2, h4, h⟩ := bd_ok h
  refine go_i (callV_run (As := [.int v1]) (rest := []) C hl hP (hS.wide hJ).2.1 (iw hw (fi_11 hk0)) hk0 (m_X11_isRoom l w hJ hw v0 v1 hk0 μ1 h4) mv_X11_419 ⟨rfl, rfl, by decide, by decide⟩ rfl rfl (Nat.le_of_ble_eq_true rfl) ⟨Nat.zero_le _, Nat.zero_le _⟩ dX11_rope_7) hS (fun H locs hP hS => ?_)
  refine lv_if_eq (tgt := 36) hx hb dX11_rope_10 (by decide) (fun c5 => ?_) (fun c5 => ?_)
  · replace h := if_t c5 h
    refine lv_iconst (v := (0)) hx hb dX11_rope_36 (by decide) ?_
    exact r_zret C hr hP hS h dX11_rope_37
  · replace h := if_f c5 h
    refine lv_aload_n hx hb dX11_rope_13 rfl (lv_at hl 0 rfl) ?_
    refine r_getF (off := 24) C hP (iw hw (fi_11 hk0)) hk0 fl_X11_84 rfl rfl (zw hw) dX11_rope_14 ?_
    refine lv_iconst (v := (0)) hx hb dX11_rope_17 (by decide) ?_
    refine n_iald (j := 0) C hP (iw hw (ff_11_39 hk0).2) (ff_11_39 hk0).1 (by decide) (by decide) dX11_rope_18 ?_
    refine lv_iload_n hx hb dX11_rope_19 rfl (lv_at hl 1 rfl) ?_
    refine r_ishr hx hb dX11_rope_20 ?_
    refine lv_iconst (v := (1)) hx hb dX11_rope_21 (by decide) ?_
    refine lv_iand hx hb dX11_rope_22 ?_
    refine lv_iconst (v := (1)) hx hb dX11_rope_23 (by decide) ?_
    refine lv_icmp_ne (tgt := 31) hx hb dX11_rope_24 (by decide) (fun c6 => ?_) (fun c6 => ?_)
    · replace h := if_f c6 h
      refine lv_iconst (v := (0)) hx hb dX11_rope_31 (by decide) ?_
      exact J32 (0 : Int32) μ2  h _ _ _ hP hS (lv_sub hl [0, 1, 2] rfl)
    · replace h := if_t c6 h
      refine lv_iconst (v := (1)) hx hb dX11_rope_27 (by decide) ?_
      refine lv_goto (tgt := 32) hx hb dX11_rope_28 (by decide) ?_
      exact J32 (1 : Int32) μ2  h _ _ _ hP hS (lv_sub hl [0, 1, 2] rfl)

def f_X11_dust (v0 : Nat) (v1 : Int32) (μ : fMem) : Option (Int32 × fMem) :=
  vl (sI μ v0 0 (0 : Int32)) fun μ1 => bd (f_X11_isRoom v0 v1 μ1) fun r3 μ2 => if r3 = 0 then gd (bl (0 : Int32)) (some ((0 : Int32), μ2)) else gd (ixo v1 138) (if (μ2.1 (v0 + 28) (Int32.toNatClampNeg v1)) = 0 then gd (bl (0 : Int32)) (some ((0 : Int32), μ2)) else bd (f_X11_keepNow v0 μ2) fun r9 μ8 => gd (ixo v1 138) (vl (sI μ8 (v0 + 28) (Int32.toNatClampNeg v1) (0 : Int32)) fun μ11 => gd (bl (1 : Int32)) (some ((1 : Int32), μ11))))
def rm_X11_dust : Room := { frames := 2, cells := 0, slots := 0, locals := 44 }
set_option maxHeartbeats 4000000 in
set_option maxRecDepth 100000 in
theorem m_X11_dust (l : Launch) (w : fW) (hJ : fJ w) (hw : w.2.2.2 = sd 1) (v0 : Nat) (v1 : Int32) (hk0 : kd v0 = (4, 11)) (μ : fMem) {r : Int32} {μr : fMem} (h : f_X11_dust v0 v1 μ = some (r, μr)) : Met l yX11_dust (.code yX11_dust cX11_dust 2 (some .boolean) :: gw) rm_X11_dust (fPc w [.ref (w.2.2.1 v0), .int v1] μ) (fQi w r μr) 0 0 (fA w) := by
  refine met_of hJ (by decide) ?_ (Nat.le_of_ble_eq_true rfl)
  generalize ([.ref (w.2.2.1 v0), .int v1] : List Value).toArray = args
  intro p e s m below meth c ls C hr hP hl hS
  obtain ⟨hx, hb, hml, hown, hts, hK, -, hlk, hT⟩ := id C
  have hl : lv_has ls 2 [(0, .ref (w.2.2.1 v0)), (1, .int v1)] := hl
  unfold f_X11_dust at h
  refine lv_aload_n hx hb dX11_dust_0 rfl (lv_at hl 0 rfl) ?_
  refine lv_iconst (v := (0)) hx hb dX11_dust_1 (by decide) ?_
  refine r_putI C hP hS (iw hw (fi_11 hk0)) hk0 fp_X11_148 rfl dX11_dust_2 (fun H locs hP hS => ?_)
  obtain ⟨μ1, eμ1, h⟩ := vl_ex h
  have hP : fP w μ1 H := by rw [eμ1]; exact hP
  refine lv_aload_n hx hb dX11_dust_5 rfl (lv_at hl 0 rfl) ?_
  refine lv_iload_n hx hb dX11_dust_6 rfl (lv_at hl 1 rfl) ?_
  obtain ⟨r3, μ2, h4, h⟩ := bd_ok h
  refine go_i (callV_run (As := [.int v1]) (rest := []) C hl hP (hS.wide hJ).2.1 (iw hw (fi_11 hk0)) hk0 (m_X11_isRoom l w hJ hw v0 v1 hk0 μ1 h4) mv_X11_419 ⟨rfl, rfl, by decide, by decide⟩ rfl rfl (Nat.le_of_ble_eq_true rfl) ⟨Nat.zero_le _, Nat.zero_le _⟩ dX11_dust_7) hS (fun H locs hP hS => ?_)
  refine lv_if_eq (tgt := 22) hx hb dX11_dust_10 (by decide) (fun c5 => ?_) (fun c5 => ?_)
  · replace h := if_t c5 h
    refine lv_iconst (v := (0)) hx hb dX11_dust_22 (by decide) ?_
    exact r_zret C hr hP hS h dX11_dust_23
  · replace h := if_f c5 h
    refine lv_aload_n hx hb dX11_dust_13 rfl (lv_at hl 0 rfl) ?_
    refine r_getF (off := 28) C hP (iw hw (fi_11 hk0)) hk0 fl_X11_96 rfl rfl (zw hw) dX11_dust_14 ?_
    refine lv_iload_n hx hb dX11_dust_17 rfl (lv_at hl 1 rfl) ?_
    obtain ⟨g6, h⟩ := gd_ok h
    refine r_iald C hP (iw hw (ff_11_43 hk0).2) (ff_11_43 hk0).1 g6 dX11_dust_18 ?_
    refine lv_if_ne (tgt := 24) hx hb dX11_dust_19 (by decide) (fun c7 => ?_) (fun c7 => ?_)
    · replace h := if_f c7 h
      refine lv_aload_n hx hb dX11_dust_24 rfl (lv_at hl 0 rfl) ?_
      obtain ⟨r9, μ8, h10, h⟩ := bd_ok h
      refine go_v (callV_run (As := []) (rest := []) C hl hP (hS.wide hJ).2.1 (iw hw (fi_11 hk0)) hk0 (m_X11_keepNow l w hJ hw v0 hk0 μ2 h10) mv_X11_435 ⟨rfl, rfl, by decide, by decide⟩ rfl rfl (Nat.le_of_ble_eq_true rfl) ⟨Nat.zero_le _, Nat.zero_le _⟩ dX11_dust_25) hS (fun H locs hP hS => ?_)
      refine lv_aload_n hx hb dX11_dust_28 rfl (lv_at hl 0 rfl) ?_
      refine r_getF (off := 28) C hP (iw hw (fi_11 hk0)) hk0 fl_X11_96 rfl rfl (zw hw) dX11_dust_29 ?_
      refine lv_iload_n hx hb dX11_dust_32 rfl (lv_at hl 1 rfl) ?_
      refine lv_iconst (v := (0)) hx hb dX11_dust_33 (by decide) ?_
      obtain ⟨g12, h⟩ := gd_ok h
      refine r_iast C hP hS (iw hw (ff_11_43 hk0).2) (ff_11_43 hk0).1 g12 dX11_dust_34 (fun H locs hP hS => ?_)
      obtain ⟨μ11, eμ11, h⟩ := vl_ex h
      have hP : fP w μ11 H := by rw [eμ11]; exact hP
      refine lv_iconst (v := (1)) hx hb dX11_dust_35 (by decide) ?_
      exact r_zret C hr hP hS h dX11_dust_36
    · replace h := if_t c7 h
      refine lv_iconst (v := (0)) hx hb dX11_dust_22 (by decide) ?_
      exact r_zret C hr hP hS h dX11_dust_23

def f_X11_go_L42 (v0 : Nat) (v1 : Int32) (v2 : Int32) (μ : fMem) : Option (Nat × (Int32 × fMem)) :=
  if v1 ≤ v2 then some (1, (v2, μ)) else bd (f_X11_passes v0 (0 : Int32) μ) fun r9 μ8 => vl (v2 + (1 : Int32)) fun x11 => some (0, (x11, μ8))
def f_X11_go_j40 (v0 : Nat) (v1 : Int32) (μ : fMem) : Option (Int32 × fMem) :=
  bd (lpn (fun (q : Int32 × fMem) => f_X11_go_L42 v0 v1 q.1 q.2) fuel ((0 : Int32), μ)) fun t12 q13 => (fun (x14 : Int32) (μ15 : fMem) => some ((μ15.1 (v0 + 22) 0), μ15)) q13.1 q13.2
def f_X11_go (v0 : Nat) (v1 : Int32) (μ : fMem) : Option (Int32 × fMem) :=
  vl (sI μ v0 0 (0 : Int32)) fun μ1 => if v1 < 0 then some ((-1 : Int32), μ1) else if (99 : Int32) < v1 then some ((-1 : Int32), μ1) else if ((μ1.1 (v0 + 22) 0) + v1) ≤ (9900 : Int32) then if v1 ≤ 0 then f_X11_go_j40 v0 v1 μ1 else vl (sI μ1 v0 46 (0 : Int32)) fun μ6 => f_X11_go_j40 v0 v1 μ6 else some ((-1 : Int32), μ1)
def rm_X11_go : Room := { frames := 9, cells := 0, slots := 0, locals := 276 }
set_option maxHeartbeats 4000000 in
set_option maxRecDepth 100000 in
theorem m_X11_go (l : Launch) (w : fW) (hJ : fJ w) (hw : w.2.2.2 = sd 1) (v0 : Nat) (v1 : Int32) (hk0 : kd v0 = (4, 11)) (μ : fMem) {r : Int32} {μr : fMem} (h : f_X11_go v0 v1 μ = some (r, μr)) : Met l yX11_go (.code yX11_go cX11_go 3 (some .int) :: gw) rm_X11_go (fPc w [.ref (w.2.2.1 v0), .int v1] μ) (fQi w r μr) 0 0 (fA w) := by
  refine met_of hJ (by decide) ?_ (Nat.le_of_ble_eq_true rfl)
  generalize ([.ref (w.2.2.1 v0), .int v1] : List Value).toArray = args
  intro p e s m below meth c ls C hr hP hl hS
  obtain ⟨hx, hb, hml, hown, hts, hK, -, hlk, hT⟩ := id C
  have hl : lv_has ls 3 [(0, .ref (w.2.2.1 v0)), (1, .int v1)] := hl
  unfold f_X11_go at h
  have J40 : ∀  (μ : fMem), f_X11_go_j40 v0 v1 μ = some (r, μr) → WW p l e rm_X11_go s m args below meth c (MQ below (fQi w r μr) args s 0 0 (fA w)) w μ 3 40 [] [(0, .ref (w.2.2.1 v0)), (1, .int v1)] := by
    intro  μ  h H locs ls hP hS hl
    unfold f_X11_go_j40 at h
    refine lv_iconst (v := (0)) hx hb dX11_go_40 (by decide) ?_
    refine lv_istore_n (lv' := [(2, .int (0 : Int32)), (0, .ref (w.2.2.1 v0)), (1, .int v1)]) hx hb dX11_go_41 rfl hl (by decide) rfl (fun ls hl => ?_)
    obtain ⟨t12, q13, h16, h⟩ := bd_ok h
    refine lpn_ind (b := (fun (q : Int32 × fMem) => f_X11_go_L42 v0 v1 q.1 q.2)) (P := fun (q : Int32 × fMem) => WW p l e rm_X11_go s m args below meth c (MQ below (fQi w r μr) args s 0 0 (fA w)) w q.2 3 42 [] [(0, .ref (w.2.2.1 v0)), (1, .int v1), (2, .int q.1)]) (K := fun _ (q : Int32 × fMem) => WW p l e rm_X11_go s m args below meth c (MQ below (fQi w r μr) args s 0 0 (fA w)) w q.2 3 58 [] [(0, .ref (w.2.2.1 v0))]) ?_ fuel ((0 : Int32), μ) t12 q13 h16 ?_ _ _ _ hP hS (lv_sub hl [1, 2, 0] rfl)
    · intro q tz42 sz42 h hP0_42 hK0_42 H locs ls hP hS hl
      obtain ⟨v2, μ⟩ := q
      have hP : fP w μ H := hP
      have hl : lv_has ls 3 [(0, .ref (w.2.2.1 v0)), (1, .int v1), (2, .int v2)] := hl
      have h : f_X11_go_L42 v0 v1 v2 μ = some (tz42, sz42) := h
      unfold f_X11_go_L42 at h
      refine lv_iload_n hx hb dX11_go_42 rfl (lv_at hl 2 rfl) ?_
      refine lv_iload_n hx hb dX11_go_43 rfl (lv_at hl 1 rfl) ?_
      refine lv_icmp_ge (tgt := 58) hx hb dX11_go_44 (by decide) (fun c7 => ?_) (fun c7 => ?_)
      · replace h := if_t c7 h
        obtain ⟨rfl, rfl⟩ := leaf h
        exact (hK0_42 0 rfl) _ _ _ hP hS (lv_sub hl [0] rfl)
      · replace h := if_f c7 h
        refine lv_aload_n hx hb dX11_go_47 rfl (lv_at hl 0 rfl) ?_
        refine lv_iconst (v := (0)) hx hb dX11_go_48 (by decide) ?_
        obtain ⟨r9, μ8, h10, h⟩ := bd_ok h
        refine go_v (callV_run (As := [.int (0 : Int32)]) (rest := []) C hl hP (hS.wide hJ).2.1 (iw hw (fi_11 hk0)) hk0 (m_X11_passes l w hJ hw v0 (0 : Int32) hk0 μ h10) mv_X11_409 ⟨rfl, rfl, by decide, by decide⟩ rfl rfl (Nat.le_of_ble_eq_true rfl) ⟨Nat.zero_le _, Nat.zero_le _⟩ dX11_go_49) hS (fun H locs hP hS => ?_)
        obtain ⟨x11, ex11⟩ : ∃ y : Int32, y = (v2 + (1 : Int32)) := ⟨_, rfl⟩
        replace h := vl_ok ex11 h
        refine lv_iinc (v := x11) (lv' := [(2, .int x11), (0, .ref (w.2.2.1 v0)), (1, .int v1)]) hx hb dX11_go_52 hl (k := 2) rfl (by rw [ex11]; rfl) (by decide) rfl (fun ls hl => ?_)
        refine lv_goto (tgt := 42) hx hb dX11_go_55 (by decide) ?_
        obtain ⟨rfl, rfl⟩ := leaf h
        exact hP0_42 rfl _ _ _ hP hS (lv_sub hl [1, 2, 0] rfl)
    · obtain ⟨x14, μ15⟩ := q13
      intro H locs ls hP hS hl
      have hP : fP w μ15 H := hP
      have hl : lv_has ls 3 [(0, .ref (w.2.2.1 v0))] := hl
      try dsimp only at h
      refine lv_aload_n hx hb dX11_go_58 rfl (lv_at hl 0 rfl) ?_
      refine r_getF (off := 22) C hP (iw hw (fi_11 hk0)) hk0 fl_X11_78 rfl rfl (zw hw) dX11_go_59 ?_
      refine lv_iconst (v := (0)) hx hb dX11_go_62 (by decide) ?_
      refine n_iald (j := 0) C hP (iw hw (ff_11_37 hk0).2) (ff_11_37 hk0).1 (by decide) (by decide) dX11_go_63 ?_
      exact r_iret C hr hP hS h dX11_go_64
  refine lv_aload_n hx hb dX11_go_0 rfl (lv_at hl 0 rfl) ?_
  refine lv_iconst (v := (0)) hx hb dX11_go_1 (by decide) ?_
  refine r_putI C hP hS (iw hw (fi_11 hk0)) hk0 fp_X11_148 rfl dX11_go_2 (fun H locs hP hS => ?_)
  obtain ⟨μ1, eμ1, h⟩ := vl_ex h
  have hP : fP w μ1 H := by rw [eμ1]; exact hP
  refine lv_iload_n hx hb dX11_go_5 rfl (lv_at hl 1 rfl) ?_
  refine lv_if_lt (tgt := 29) hx hb dX11_go_6 (by decide) (fun c2 => ?_) (fun c2 => ?_)
  · replace h := if_t c2 h
    refine lv_iconst (v := (-1)) hx hb dX11_go_29 (by decide) ?_
    exact r_iret C hr hP hS h dX11_go_30
  · replace h := if_f c2 h
    refine lv_iload_n hx hb dX11_go_9 rfl (lv_at hl 1 rfl) ?_
    refine lv_bipush (v := (99)) hx hb dX11_go_10 (by decide) ?_
    refine lv_icmp_gt (tgt := 29) hx hb dX11_go_12 (by decide) (fun c3 => ?_) (fun c3 => ?_)
    · replace h := if_t c3 h
      refine lv_iconst (v := (-1)) hx hb dX11_go_29 (by decide) ?_
      exact r_iret C hr hP hS h dX11_go_30
    · replace h := if_f c3 h
      refine lv_aload_n hx hb dX11_go_15 rfl (lv_at hl 0 rfl) ?_
      refine r_getF (off := 22) C hP (iw hw (fi_11 hk0)) hk0 fl_X11_78 rfl rfl (zw hw) dX11_go_16 ?_
      refine lv_iconst (v := (0)) hx hb dX11_go_19 (by decide) ?_
      refine n_iald (j := 0) C hP (iw hw (ff_11_37 hk0).2) (ff_11_37 hk0).1 (by decide) (by decide) dX11_go_20 ?_
      refine lv_iload_n hx hb dX11_go_21 rfl (lv_at hl 1 rfl) ?_
      refine lv_iadd hx hb dX11_go_22 ?_
      refine lv_sipush (v := (9900)) hx hb dX11_go_23 (by decide) ?_
      refine lv_icmp_le (tgt := 31) hx hb dX11_go_26 (by decide) (fun c4 => ?_) (fun c4 => ?_)
      · replace h := if_t c4 h
        refine lv_iload_n hx hb dX11_go_31 rfl (lv_at hl 1 rfl) ?_
        refine lv_if_le (tgt := 40) hx hb dX11_go_32 (by decide) (fun c5 => ?_) (fun c5 => ?_)
        · replace h := if_t c5 h
          exact J40  μ1  h _ _ _ hP hS (lv_sub hl [0, 1] rfl)
        · replace h := if_f c5 h
          refine lv_aload_n hx hb dX11_go_35 rfl (lv_at hl 0 rfl) ?_
          refine lv_iconst (v := (0)) hx hb dX11_go_36 (by decide) ?_
          refine r_putI C hP hS (iw hw (fi_11 hk0)) hk0 fp_X11_311 rfl dX11_go_37 (fun H locs hP hS => ?_)
          obtain ⟨μ6, eμ6, h⟩ := vl_ex h
          have hP : fP w μ6 H := by rw [eμ6]; exact hP
          exact J40  μ6  h _ _ _ hP hS (lv_sub hl [0, 1] rfl)
      · replace h := if_f c4 h
        refine lv_iconst (v := (-1)) hx hb dX11_go_29 (by decide) ?_
        exact r_iret C hr hP hS h dX11_go_30

def f_X11_ahead_j38 (v0 : Nat) (v1 : Int32) (v2 : Int32) (v3 : Int32) (μ : fMem) : Option (Int32 × fMem) :=
  bd (f_X11_runs v0 v1 μ) fun r12 μ11 => if v2 = 0 then gd (ixo ((8 : Int32) + v3) 184) (some ((μ11.1 (v0 + 25) (Int32.toNatClampNeg ((8 : Int32) + v3))), μ11)) else if v2 = 1 then bd (f_X11_sumOf v0 (v0 + 26) (1 : Int32) μ11) fun r18 μ17 => bd (f_X11_sumOf v0 (v0 + 26) (0 : Int32) μ17) fun r21 μ20 => some ((r18 - r21), μ20) else bd (f_X11_sumOf v0 (v0 + 27) (1 : Int32) μ11) fun r24 μ23 => bd (f_X11_sumOf v0 (v0 + 27) (0 : Int32) μ23) fun r27 μ26 => some ((r24 - r27), μ26)
def f_X11_ahead (v0 : Nat) (v1 : Int32) (v2 : Int32) (v3 : Int32) (μ : fMem) : Option (Int32 × fMem) :=
  vl (sI μ v0 0 (0 : Int32)) fun μ1 => if v1 < 0 then some ((-1 : Int32), μ1) else if (60 : Int32) < v1 then some ((-1 : Int32), μ1) else if v2 < 0 then some ((-1 : Int32), μ1) else if (2 : Int32) < v2 then some ((-1 : Int32), μ1) else if v2 = 0 then bd (f_X11_isThing v0 v3 μ1) fun r8 μ7 => if r8 = 0 then some ((-1 : Int32), μ7) else f_X11_ahead_j38 v0 v1 v2 v3 μ7 else f_X11_ahead_j38 v0 v1 v2 v3 μ1
def rm_X11_ahead : Room := { frames := 11, cells := 0, slots := 0, locals := 319 }
set_option maxHeartbeats 4000000 in
set_option maxRecDepth 100000 in
theorem m_X11_ahead (l : Launch) (w : fW) (hJ : fJ w) (hw : w.2.2.2 = sd 1) (v0 : Nat) (v1 : Int32) (v2 : Int32) (v3 : Int32) (hk0 : kd v0 = (4, 11)) (μ : fMem) {r : Int32} {μr : fMem} (h : f_X11_ahead v0 v1 v2 v3 μ = some (r, μr)) : Met l yX11_ahead (.code yX11_ahead cX11_ahead 4 (some .int) :: gw) rm_X11_ahead (fPc w [.ref (w.2.2.1 v0), .int v1, .int v2, .int v3] μ) (fQi w r μr) 0 0 (fA w) := by
  refine met_of hJ (by decide) ?_ (Nat.le_of_ble_eq_true rfl)
  generalize ([.ref (w.2.2.1 v0), .int v1, .int v2, .int v3] : List Value).toArray = args
  intro p e s m below meth c ls C hr hP hl hS
  obtain ⟨hx, hb, hml, hown, hts, hK, -, hlk, hT⟩ := id C
  have hl : lv_has ls 4 [(0, .ref (w.2.2.1 v0)), (1, .int v1), (2, .int v2), (3, .int v3)] := hl
  unfold f_X11_ahead at h
  have J38 : ∀  (μ : fMem), f_X11_ahead_j38 v0 v1 v2 v3 μ = some (r, μr) → WW p l e rm_X11_ahead s m args below meth c (MQ below (fQi w r μr) args s 0 0 (fA w)) w μ 4 38 [] [(0, .ref (w.2.2.1 v0)), (1, .int v1), (2, .int v2), (3, .int v3)] := by
    intro  μ  h H locs ls hP hS hl
    unfold f_X11_ahead_j38 at h
    refine lv_aload_n hx hb dX11_ahead_38 rfl (lv_at hl 0 rfl) ?_
    refine lv_iload_n hx hb dX11_ahead_39 rfl (lv_at hl 1 rfl) ?_
    obtain ⟨r12, μ11, h13, h⟩ := bd_ok h
    refine go_v (callV_run (As := [.int v1]) (rest := []) C hl hP (hS.wide hJ).2.1 (iw hw (fi_11 hk0)) hk0 (m_X11_runs l w hJ hw v0 v1 hk0 μ h13) mv_X11_438 ⟨rfl, rfl, by decide, by decide⟩ rfl rfl (Nat.le_of_ble_eq_true rfl) ⟨Nat.zero_le _, Nat.zero_le _⟩ dX11_ahead_40) hS (fun H locs hP hS => ?_)
    refine lv_iload_n hx hb dX11_ahead_43 rfl (lv_at hl 2 rfl) ?_
    by_cases c14 : v2 = 0
    · replace h := if_t c14 h
      refine lv_lookup (off := 28) (tgt := 72) hx hb dX11_ahead_44 (by decide) (by rw [c14]; rfl) (by decide) ?_
      refine lv_aload_n hx hb dX11_ahead_72 rfl (lv_at hl 0 rfl) ?_
      refine r_getF (off := 25) C hP (iw hw (fi_11 hk0)) hk0 fl_X11_87 rfl rfl (zw hw) dX11_ahead_73 ?_
      refine lv_bipush (v := (8)) hx hb dX11_ahead_76 (by decide) ?_
      refine lv_iload_n hx hb dX11_ahead_78 rfl (lv_at hl 3 rfl) ?_
      refine lv_iadd hx hb dX11_ahead_79 ?_
      obtain ⟨g15, h⟩ := gd_ok h
      refine r_iald C hP (iw hw (ff_11_40 hk0).2) (ff_11_40 hk0).1 g15 dX11_ahead_80 ?_
      exact r_iret C hr hP hS h dX11_ahead_81
    replace h := if_f c14 h
    by_cases c16 : v2 = 1
    · replace h := if_t c16 h
      refine lv_lookup (off := 38) (tgt := 82) hx hb dX11_ahead_44 (by decide) (by rw [c16]; rfl) (by decide) ?_
      refine lv_aload_n hx hb dX11_ahead_82 rfl (lv_at hl 0 rfl) ?_
      refine lv_aload_n hx hb dX11_ahead_83 rfl (lv_at hl 0 rfl) ?_
      refine r_getF (off := 26) C hP (iw hw (fi_11 hk0)) hk0 fl_X11_90 rfl rfl (zw hw) dX11_ahead_84 ?_
      refine lv_iconst (v := (1)) hx hb dX11_ahead_87 (by decide) ?_
      obtain ⟨r18, μ17, h19, h⟩ := bd_ok h
      refine go_i (callV_run (As := [.ref (w.2.2.1 (v0 + 26)), .int (1 : Int32)]) (rest := []) C hl hP (hS.wide hJ).2.1 (iw hw (fi_11 hk0)) hk0 (m_X11_sumOf l w hJ hw v0 (v0 + 26) (1 : Int32) hk0 (karr (ff_11_41 hk0).1) (iw hw (ff_11_41 hk0).2) μ11 h19) mv_X11_412 ⟨rfl, rfl, by decide, by decide⟩ rfl rfl (Nat.le_of_ble_eq_true rfl) ⟨Nat.zero_le _, Nat.zero_le _⟩ dX11_ahead_88) hS (fun H locs hP hS => ?_)
      refine lv_aload_n hx hb dX11_ahead_91 rfl (lv_at hl 0 rfl) ?_
      refine lv_aload_n hx hb dX11_ahead_92 rfl (lv_at hl 0 rfl) ?_
      refine r_getF (off := 26) C hP (iw hw (fi_11 hk0)) hk0 fl_X11_90 rfl rfl (zw hw) dX11_ahead_93 ?_
      refine lv_iconst (v := (0)) hx hb dX11_ahead_96 (by decide) ?_
      obtain ⟨r21, μ20, h22, h⟩ := bd_ok h
      refine go_i (callV_run (As := [.ref (w.2.2.1 (v0 + 26)), .int (0 : Int32)]) (rest := [.int r18]) C hl hP (hS.wide hJ).2.1 (iw hw (fi_11 hk0)) hk0 (m_X11_sumOf l w hJ hw v0 (v0 + 26) (0 : Int32) hk0 (karr (ff_11_41 hk0).1) (iw hw (ff_11_41 hk0).2) μ17 h22) mv_X11_412 ⟨rfl, rfl, by decide, by decide⟩ rfl rfl (Nat.le_of_ble_eq_true rfl) ⟨Nat.zero_le _, Nat.zero_le _⟩ dX11_ahead_97) hS (fun H locs hP hS => ?_)
      refine lv_isub hx hb dX11_ahead_100 ?_
      exact r_iret C hr hP hS h dX11_ahead_101
    replace h := if_f c16 h
    have ho : Op.lookupswitch.offset [(0, 28), (1, 38)] 58 (Int32.toInt v2) = 58 := by
      rw [lv_osw (a := 0) c14 (by decide), lv_osw (a := 1) c16 (by decide)]; rfl
    refine lv_lookup (off := 58) (tgt := 102) hx hb dX11_ahead_44 (by decide) ho (by decide) ?_
    refine lv_aload_n hx hb dX11_ahead_102 rfl (lv_at hl 0 rfl) ?_
    refine lv_aload_n hx hb dX11_ahead_103 rfl (lv_at hl 0 rfl) ?_
    refine r_getF (off := 27) C hP (iw hw (fi_11 hk0)) hk0 fl_X11_93 rfl rfl (zw hw) dX11_ahead_104 ?_
    refine lv_iconst (v := (1)) hx hb dX11_ahead_107 (by decide) ?_
    obtain ⟨r24, μ23, h25, h⟩ := bd_ok h
    refine go_i (callV_run (As := [.ref (w.2.2.1 (v0 + 27)), .int (1 : Int32)]) (rest := []) C hl hP (hS.wide hJ).2.1 (iw hw (fi_11 hk0)) hk0 (m_X11_sumOf l w hJ hw v0 (v0 + 27) (1 : Int32) hk0 (karr (ff_11_42 hk0).1) (iw hw (ff_11_42 hk0).2) μ11 h25) mv_X11_412 ⟨rfl, rfl, by decide, by decide⟩ rfl rfl (Nat.le_of_ble_eq_true rfl) ⟨Nat.zero_le _, Nat.zero_le _⟩ dX11_ahead_108) hS (fun H locs hP hS => ?_)
    refine lv_aload_n hx hb dX11_ahead_111 rfl (lv_at hl 0 rfl) ?_
    refine lv_aload_n hx hb dX11_ahead_112 rfl (lv_at hl 0 rfl) ?_
    refine r_getF (off := 27) C hP (iw hw (fi_11 hk0)) hk0 fl_X11_93 rfl rfl (zw hw) dX11_ahead_113 ?_
    refine lv_iconst (v := (0)) hx hb dX11_ahead_116 (by decide) ?_
    obtain ⟨r27, μ26, h28, h⟩ := bd_ok h
    refine go_i (callV_run (As := [.ref (w.2.2.1 (v0 + 27)), .int (0 : Int32)]) (rest := [.int r24]) C hl hP (hS.wide hJ).2.1 (iw hw (fi_11 hk0)) hk0 (m_X11_sumOf l w hJ hw v0 (v0 + 27) (0 : Int32) hk0 (karr (ff_11_42 hk0).1) (iw hw (ff_11_42 hk0).2) μ23 h28) mv_X11_412 ⟨rfl, rfl, by decide, by decide⟩ rfl rfl (Nat.le_of_ble_eq_true rfl) ⟨Nat.zero_le _, Nat.zero_le _⟩ dX11_ahead_117) hS (fun H locs hP hS => ?_)
    refine lv_isub hx hb dX11_ahead_120 ?_
    exact r_iret C hr hP hS h dX11_ahead_121
  refine lv_aload_n hx hb dX11_ahead_0 rfl (lv_at hl 0 rfl) ?_
  refine lv_iconst (v := (0)) hx hb dX11_ahead_1 (by decide) ?_
  refine r_putI C hP hS (iw hw (fi_11 hk0)) hk0 fp_X11_148 rfl dX11_ahead_2 (fun H locs hP hS => ?_)
  obtain ⟨μ1, eμ1, h⟩ := vl_ex h
  have hP : fP w μ1 H := by rw [eμ1]; exact hP
  refine lv_iload_n hx hb dX11_ahead_5 rfl (lv_at hl 1 rfl) ?_
  refine lv_if_lt (tgt := 36) hx hb dX11_ahead_6 (by decide) (fun c2 => ?_) (fun c2 => ?_)
  · replace h := if_t c2 h
    refine lv_iconst (v := (-1)) hx hb dX11_ahead_36 (by decide) ?_
    exact r_iret C hr hP hS h dX11_ahead_37
  · replace h := if_f c2 h
    refine lv_iload_n hx hb dX11_ahead_9 rfl (lv_at hl 1 rfl) ?_
    refine lv_bipush (v := (60)) hx hb dX11_ahead_10 (by decide) ?_
    refine lv_icmp_gt (tgt := 36) hx hb dX11_ahead_12 (by decide) (fun c3 => ?_) (fun c3 => ?_)
    · replace h := if_t c3 h
      refine lv_iconst (v := (-1)) hx hb dX11_ahead_36 (by decide) ?_
      exact r_iret C hr hP hS h dX11_ahead_37
    · replace h := if_f c3 h
      refine lv_iload_n hx hb dX11_ahead_15 rfl (lv_at hl 2 rfl) ?_
      refine lv_if_lt (tgt := 36) hx hb dX11_ahead_16 (by decide) (fun c4 => ?_) (fun c4 => ?_)
      · replace h := if_t c4 h
        refine lv_iconst (v := (-1)) hx hb dX11_ahead_36 (by decide) ?_
        exact r_iret C hr hP hS h dX11_ahead_37
      · replace h := if_f c4 h
        refine lv_iload_n hx hb dX11_ahead_19 rfl (lv_at hl 2 rfl) ?_
        refine lv_iconst (v := (2)) hx hb dX11_ahead_20 (by decide) ?_
        refine lv_icmp_gt (tgt := 36) hx hb dX11_ahead_21 (by decide) (fun c5 => ?_) (fun c5 => ?_)
        · replace h := if_t c5 h
          refine lv_iconst (v := (-1)) hx hb dX11_ahead_36 (by decide) ?_
          exact r_iret C hr hP hS h dX11_ahead_37
        · replace h := if_f c5 h
          refine lv_iload_n hx hb dX11_ahead_24 rfl (lv_at hl 2 rfl) ?_
          refine lv_if_ne (tgt := 38) hx hb dX11_ahead_25 (by decide) (fun c6 => ?_) (fun c6 => ?_)
          · replace h := if_f c6 h
            exact J38  μ1  h _ _ _ hP hS (lv_sub hl [0, 1, 2, 3] rfl)
          · replace h := if_t c6 h
            refine lv_aload_n hx hb dX11_ahead_28 rfl (lv_at hl 0 rfl) ?_
            refine lv_iload_n hx hb dX11_ahead_29 rfl (lv_at hl 3 rfl) ?_
            obtain ⟨r8, μ7, h9, h⟩ := bd_ok h
            refine go_i (callV_run (As := [.int v3]) (rest := []) C hl hP (hS.wide hJ).2.1 (iw hw (fi_11 hk0)) hk0 (m_X11_isThing l w hJ hw v0 v3 hk0 μ1 h9) mv_X11_416 ⟨rfl, rfl, by decide, by decide⟩ rfl rfl (Nat.le_of_ble_eq_true rfl) ⟨Nat.zero_le _, Nat.zero_le _⟩ dX11_ahead_30) hS (fun H locs hP hS => ?_)
            refine lv_if_ne (tgt := 38) hx hb dX11_ahead_33 (by decide) (fun c10 => ?_) (fun c10 => ?_)
            · replace h := if_f c10 h
              exact J38  μ7  h _ _ _ hP hS (lv_sub hl [0, 1, 2, 3] rfl)
            · replace h := if_t c10 h
              refine lv_iconst (v := (-1)) hx hb dX11_ahead_36 (by decide) ?_
              exact r_iret C hr hP hS h dX11_ahead_37

def f_X11_comersOf_L4 (v0 : Nat) (v1 : Int32) (v2 : Int32) (v3 : Int32) (μ : fMem) : Option (Nat × (Int32 × Int32 × fMem)) :=
  if (μ.1 (v0 + 2) 3) ≤ v3 then some (1, (v2, v3, μ)) else bd (f_X11_doesCome v0 v1 v3 μ) fun r3 μ2 => if r3 = 0 then vl (v2 ||| (0 : Int32)) fun x6 => vl (v3 + (1 : Int32)) fun x7 => some (0, (x6, x7, μ2)) else vl (v2 ||| (shl (1 : Int32) v3)) fun x8 => vl (v3 + (1 : Int32)) fun x9 => some (0, (x8, x9, μ2))
def f_X11_comersOf (v0 : Nat) (v1 : Int32) (μ : fMem) : Option (Int32 × fMem) :=
  bd (lpn (fun (q : Int32 × Int32 × fMem) => f_X11_comersOf_L4 v0 v1 q.1 q.2.1 q.2.2) fuel ((0 : Int32), (0 : Int32), μ)) fun t10 q11 => (fun (x12 : Int32) (x13 : Int32) (μ14 : fMem) => some (x12, μ14)) q11.1 q11.2.1 q11.2.2
def rm_X11_comersOf : Room := { frames := 4, cells := 0, slots := 0, locals := 151 }
set_option maxHeartbeats 4000000 in
set_option maxRecDepth 100000 in
theorem m_X11_comersOf (l : Launch) (w : fW) (hJ : fJ w) (hw : w.2.2.2 = sd 1) (v0 : Nat) (v1 : Int32) (hk0 : kd v0 = (4, 11)) (μ : fMem) {r : Int32} {μr : fMem} (h : f_X11_comersOf v0 v1 μ = some (r, μr)) : Met l yX11_comersOf (.code yX11_comersOf cX11_comersOf 4 (some .int) :: gw) rm_X11_comersOf (fPc w [.ref (w.2.2.1 v0), .int v1] μ) (fQi w r μr) 0 0 (fA w) := by
  refine met_of hJ (by decide) ?_ (Nat.le_of_ble_eq_true rfl)
  generalize ([.ref (w.2.2.1 v0), .int v1] : List Value).toArray = args
  intro p e s m below meth c ls C hr hP hl hS
  obtain ⟨hx, hb, hml, hown, hts, hK, -, hlk, hT⟩ := id C
  have hl : lv_has ls 4 [(0, .ref (w.2.2.1 v0)), (1, .int v1)] := hl
  unfold f_X11_comersOf at h
  refine lv_iconst (v := (0)) hx hb dX11_comersOf_0 (by decide) ?_
  refine lv_istore_n (lv' := [(2, .int (0 : Int32)), (0, .ref (w.2.2.1 v0)), (1, .int v1)]) hx hb dX11_comersOf_1 rfl hl (by decide) rfl (fun ls hl => ?_)
  refine lv_iconst (v := (0)) hx hb dX11_comersOf_2 (by decide) ?_
  refine lv_istore_n (lv' := [(3, .int (0 : Int32)), (2, .int (0 : Int32)), (0, .ref (w.2.2.1 v0)), (1, .int v1)]) hx hb dX11_comersOf_3 rfl hl (by decide) rfl (fun ls hl => ?_)
  obtain ⟨t10, q11, h15, h⟩ := bd_ok h
  refine lpn_ind (b := (fun (q : Int32 × Int32 × fMem) => f_X11_comersOf_L4 v0 v1 q.1 q.2.1 q.2.2)) (P := fun (q : Int32 × Int32 × fMem) => WW p l e rm_X11_comersOf s m args below meth c (MQ below (fQi w r μr) args s 0 0 (fA w)) w q.2.2 4 4 [] [(0, .ref (w.2.2.1 v0)), (1, .int v1), (2, .int q.1), (3, .int q.2.1)]) (K := fun _ (q : Int32 × Int32 × fMem) => WW p l e rm_X11_comersOf s m args below meth c (MQ below (fQi w r μr) args s 0 0 (fA w)) w q.2.2 4 39 [] [(2, .int q.1)]) ?_ fuel ((0 : Int32), (0 : Int32), μ) t10 q11 h15 ?_ _ _ _ hP hS (lv_sub hl [2, 3, 1, 0] rfl)
  · intro q tz4 sz4 h hP0_4 hK0_4 H locs ls hP hS hl
    obtain ⟨v2, v3, μ⟩ := q
    have hP : fP w μ H := hP
    have hl : lv_has ls 4 [(0, .ref (w.2.2.1 v0)), (1, .int v1), (2, .int v2), (3, .int v3)] := hl
    have h : f_X11_comersOf_L4 v0 v1 v2 v3 μ = some (tz4, sz4) := h
    unfold f_X11_comersOf_L4 at h
    refine lv_iload_n hx hb dX11_comersOf_4 rfl (lv_at hl 3 rfl) ?_
    refine lv_aload_n hx hb dX11_comersOf_5 rfl (lv_at hl 0 rfl) ?_
    refine r_getF (off := 2) C hP (iw hw (fi_11 hk0)) hk0 fl_X11_13 rfl rfl (zw hw) dX11_comersOf_6 ?_
    refine lv_iconst (v := (3)) hx hb dX11_comersOf_9 (by decide) ?_
    refine n_iald (j := 3) C hP (iw hw (ff_11_3 hk0).2) (ff_11_3 hk0).1 (by decide) (by decide) dX11_comersOf_10 ?_
    refine lv_icmp_ge (tgt := 39) hx hb dX11_comersOf_11 (by decide) (fun c1 => ?_) (fun c1 => ?_)
    · replace h := if_t c1 h
      obtain ⟨rfl, rfl⟩ := leaf h
      exact (hK0_4 0 rfl) _ _ _ hP hS (lv_sub hl [2] rfl)
    · replace h := if_f c1 h
      refine lv_iload_n hx hb dX11_comersOf_14 rfl (lv_at hl 2 rfl) ?_
      refine lv_aload_n hx hb dX11_comersOf_15 rfl (lv_at hl 0 rfl) ?_
      refine lv_iload_n hx hb dX11_comersOf_16 rfl (lv_at hl 1 rfl) ?_
      refine lv_iload_n hx hb dX11_comersOf_17 rfl (lv_at hl 3 rfl) ?_
      obtain ⟨r3, μ2, h4, h⟩ := bd_ok h
      refine go_i (callV_run (As := [.int v1, .int v3]) (rest := [.int v2]) C hl hP (hS.wide hJ).2.1 (iw hw (fi_11 hk0)) hk0 (m_X11_doesCome l w hJ hw v0 v1 v3 hk0 μ h4) mv_X11_397 ⟨rfl, rfl, by decide, by decide⟩ rfl rfl (Nat.le_of_ble_eq_true rfl) ⟨Nat.zero_le _, Nat.zero_le _⟩ dX11_comersOf_18) hS (fun H locs hP hS => ?_)
      refine lv_if_eq (tgt := 30) hx hb dX11_comersOf_21 (by decide) (fun c5 => ?_) (fun c5 => ?_)
      · replace h := if_t c5 h
        refine lv_iconst (v := (0)) hx hb dX11_comersOf_30 (by decide) ?_
        refine lv_ior hx hb dX11_comersOf_31 ?_
        refine lv_topi (fun x6 ex6 => ?_)
        replace h := vl_ok ex6 h
        refine lv_istore_n (lv' := [(2, .int x6), (0, .ref (w.2.2.1 v0)), (1, .int v1), (3, .int v3)]) hx hb dX11_comersOf_32 rfl hl (by decide) rfl (fun ls hl => ?_)
        obtain ⟨x7, ex7⟩ : ∃ y : Int32, y = (v3 + (1 : Int32)) := ⟨_, rfl⟩
        replace h := vl_ok ex7 h
        refine lv_iinc (v := x7) (lv' := [(3, .int x7), (2, .int x6), (0, .ref (w.2.2.1 v0)), (1, .int v1)]) hx hb dX11_comersOf_33 hl (k := 3) rfl (by rw [ex7]; rfl) (by decide) rfl (fun ls hl => ?_)
        refine lv_goto (tgt := 4) hx hb dX11_comersOf_36 (by decide) ?_
        obtain ⟨rfl, rfl⟩ := leaf h
        exact hP0_4 rfl _ _ _ hP hS (lv_sub hl [2, 3, 1, 0] rfl)
      · replace h := if_f c5 h
        refine lv_iconst (v := (1)) hx hb dX11_comersOf_24 (by decide) ?_
        refine lv_iload_n hx hb dX11_comersOf_25 rfl (lv_at hl 3 rfl) ?_
        refine r_ishl hx hb dX11_comersOf_26 ?_
        refine lv_goto (tgt := 31) hx hb dX11_comersOf_27 (by decide) ?_
        refine lv_ior hx hb dX11_comersOf_31 ?_
        refine lv_topi (fun x8 ex8 => ?_)
        replace h := vl_ok ex8 h
        refine lv_istore_n (lv' := [(2, .int x8), (0, .ref (w.2.2.1 v0)), (1, .int v1), (3, .int v3)]) hx hb dX11_comersOf_32 rfl hl (by decide) rfl (fun ls hl => ?_)
        obtain ⟨x9, ex9⟩ : ∃ y : Int32, y = (v3 + (1 : Int32)) := ⟨_, rfl⟩
        replace h := vl_ok ex9 h
        refine lv_iinc (v := x9) (lv' := [(3, .int x9), (2, .int x8), (0, .ref (w.2.2.1 v0)), (1, .int v1)]) hx hb dX11_comersOf_33 hl (k := 3) rfl (by rw [ex9]; rfl) (by decide) rfl (fun ls hl => ?_)
        refine lv_goto (tgt := 4) hx hb dX11_comersOf_36 (by decide) ?_
        obtain ⟨rfl, rfl⟩ := leaf h
        exact hP0_4 rfl _ _ _ hP hS (lv_sub hl [2, 3, 1, 0] rfl)
  · obtain ⟨x12, x13, μ14⟩ := q11
    intro H locs ls hP hS hl
    have hP : fP w μ14 H := hP
    have hl : lv_has ls 4 [(2, .int x12)] := hl
    try dsimp only at h
    refine lv_iload_n hx hb dX11_comersOf_39 rfl (lv_at hl 0 rfl) ?_
    exact r_iret C hr hP hS h dX11_comersOf_40

def f_X11_comes (v0 : Nat) (μ : fMem) : Option (Int32 × fMem) :=
  vl (sI μ v0 0 (0 : Int32)) fun μ1 => bd (f_X11_comersOf v0 (0 : Int32) μ1) fun r3 μ2 => some (r3, μ2)
def rm_X11_comes : Room := { frames := 5, cells := 0, slots := 0, locals := 174 }
set_option maxHeartbeats 4000000 in
set_option maxRecDepth 100000 in
theorem m_X11_comes (l : Launch) (w : fW) (hJ : fJ w) (hw : w.2.2.2 = sd 1) (v0 : Nat) (hk0 : kd v0 = (4, 11)) (μ : fMem) {r : Int32} {μr : fMem} (h : f_X11_comes v0 μ = some (r, μr)) : Met l yX11_comes (.code yX11_comes cX11_comes 1 (some .int) :: gw) rm_X11_comes (fPc w [.ref (w.2.2.1 v0)] μ) (fQi w r μr) 0 0 (fA w) := by
  refine met_of hJ (by decide) ?_ (Nat.le_of_ble_eq_true rfl)
  generalize ([.ref (w.2.2.1 v0)] : List Value).toArray = args
  intro p e s m below meth c ls C hr hP hl hS
  obtain ⟨hx, hb, hml, hown, hts, hK, -, hlk, hT⟩ := id C
  have hl : lv_has ls 1 [(0, .ref (w.2.2.1 v0))] := hl
  unfold f_X11_comes at h
  refine lv_aload_n hx hb dX11_comes_0 rfl (lv_at hl 0 rfl) ?_
  refine lv_iconst (v := (0)) hx hb dX11_comes_1 (by decide) ?_
  refine r_putI C hP hS (iw hw (fi_11 hk0)) hk0 fp_X11_148 rfl dX11_comes_2 (fun H locs hP hS => ?_)
  obtain ⟨μ1, eμ1, h⟩ := vl_ex h
  have hP : fP w μ1 H := by rw [eμ1]; exact hP
  refine lv_aload_n hx hb dX11_comes_5 rfl (lv_at hl 0 rfl) ?_
  refine lv_iconst (v := (0)) hx hb dX11_comes_6 (by decide) ?_
  obtain ⟨r3, μ2, h4, h⟩ := bd_ok h
  refine go_i (callV_run (As := [.int (0 : Int32)]) (rest := []) C hl hP (hS.wide hJ).2.1 (iw hw (fi_11 hk0)) hk0 (m_X11_comersOf l w hJ hw v0 (0 : Int32) hk0 μ1 h4) mv_X11_441 ⟨rfl, rfl, by decide, by decide⟩ rfl rfl (Nat.le_of_ble_eq_true rfl) ⟨Nat.zero_le _, Nat.zero_le _⟩ dX11_comes_7) hS (fun H locs hP hS => ?_)
  exact r_iret C hr hP hS h dX11_comes_10

