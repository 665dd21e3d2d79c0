def f_X11_sits (v0 : Nat) (v1 : Int32) (μ : fMem) : Option (Int32 × fMem) :=
  vl (sI μ v0 0 (0 : Int32)) fun μ1 => bd (f_X11_isDead v0 v1 μ1) fun r3 μ2 => if r3 = 0 then some ((-1 : Int32), μ2) else if (μ2.1 (v0 + 2) 0) = 0 then some ((-1 : Int32), μ2) else bd (f_X11_seatOf v0 (0 : Int32) v1 μ2) fun r8 μ7 => if r8 = (-1 : Int32) then some ((-2 : Int32), μ7) else some (r8, μ7)
def rm_X11_sits : Room := { frames := 7, cells := 0, slots := 0, locals := 227 }
set_option maxHeartbeats 4000000 in
set_option maxRecDepth 100000 in
theorem m_X11_sits (l : Launch) (w : fW) (hJ : fJ w) (hw : w.2.2.2 = sd 1) (v0 : Nat) (v1 : Int32) (hk0 : kd v0 = (4, 11)) (μ : fMem) {r : Int32} {μr : fMem} (h : f_X11_sits v0 v1 μ = some (r, μr)) : Met l yX11_sits (.code yX11_sits cX11_sits 3 (some .int) :: gw) rm_X11_sits (fPc w [.ref (w.2.2.1 v0), .int v1] μ) (fQi w r μr) 0 0 (fA w) := by
  refine met_of hJ (by decide) ?_ (Nat.le_of_ble_eq_true rfl)
  generalize ([.ref (w.2.2.1 v0), .int v1] : List Value).toArray = args
  intro p e s m below meth c ls C hr hP hl hS
  obtain ⟨hx, hb, hml, hown, hts, hK, -, hlk, hT⟩ := id C
  have hl : lv_has ls 3 [(0, .ref (w.2.2.1 v0)), (1, .int v1)] := hl
  unfold f_X11_sits at h
  refine lv_aload_n hx hb dX11_sits_0 rfl (lv_at hl 0 rfl) ?_
  refine lv_iconst (v := (0)) hx hb dX11_sits_1 (by decide) ?_
  refine r_putI C hP hS (iw hw (fi_11 hk0)) hk0 fp_X11_148 rfl dX11_sits_2 (fun H locs hP hS => ?_)
  obtain ⟨μ1, eμ1, h⟩ := vl_ex h
  have hP : fP w μ1 H := by rw [eμ1]; exact hP
  refine lv_aload_n hx hb dX11_sits_5 rfl (lv_at hl 0 rfl) ?_
  refine lv_iload_n hx hb dX11_sits_6 rfl (lv_at hl 1 rfl) ?_
  obtain ⟨r3, μ2, h4, h⟩ := bd_ok h
  refine go_i (callV_run (As := [.int v1]) (rest := []) C hl hP (hS.wide hJ).2.1 (iw hw (fi_11 hk0)) hk0 (m_X11_isDead l w hJ hw v0 v1 hk0 μ1 h4) mv_X11_428 ⟨rfl, rfl, by decide, by decide⟩ rfl rfl (Nat.le_of_ble_eq_true rfl) ⟨Nat.zero_le _, Nat.zero_le _⟩ dX11_sits_7) hS (fun H locs hP hS => ?_)
  refine lv_if_eq (tgt := 22) hx hb dX11_sits_10 (by decide) (fun c5 => ?_) (fun c5 => ?_)
  · replace h := if_t c5 h
    refine lv_iconst (v := (-1)) hx hb dX11_sits_22 (by decide) ?_
    exact r_iret C hr hP hS h dX11_sits_23
  · replace h := if_f c5 h
    refine lv_aload_n hx hb dX11_sits_13 rfl (lv_at hl 0 rfl) ?_
    refine r_getF (off := 2) C hP (iw hw (fi_11 hk0)) hk0 fl_X11_13 rfl rfl (zw hw) dX11_sits_14 ?_
    refine lv_iconst (v := (0)) hx hb dX11_sits_17 (by decide) ?_
    refine n_iald (j := 0) C hP (iw hw (ff_11_3 hk0).2) (ff_11_3 hk0).1 (by decide) (by decide) dX11_sits_18 ?_
    refine lv_if_ne (tgt := 24) hx hb dX11_sits_19 (by decide) (fun c6 => ?_) (fun c6 => ?_)
    · replace h := if_f c6 h
      refine lv_aload_n hx hb dX11_sits_24 rfl (lv_at hl 0 rfl) ?_
      refine lv_iconst (v := (0)) hx hb dX11_sits_25 (by decide) ?_
      refine lv_iload_n hx hb dX11_sits_26 rfl (lv_at hl 1 rfl) ?_
      obtain ⟨r8, μ7, h9, h⟩ := bd_ok h
      refine go_i (callV_run (As := [.int (0 : Int32), .int v1]) (rest := []) C hl hP (hS.wide hJ).2.1 (iw hw (fi_11 hk0)) hk0 (m_X11_seatOf l w hJ hw v0 (0 : Int32) v1 hk0 μ2 h9) mv_X11_391 ⟨rfl, rfl, by decide, by decide⟩ rfl rfl (Nat.le_of_ble_eq_true rfl) ⟨Nat.zero_le _, Nat.zero_le _⟩ dX11_sits_27) hS (fun H locs hP hS => ?_)
      refine lv_istore_n (lv' := [(2, .int r8), (0, .ref (w.2.2.1 v0)), (1, .int v1)]) hx hb dX11_sits_30 rfl hl (by decide) rfl (fun ls hl => ?_)
      refine lv_iload_n hx hb dX11_sits_31 rfl (lv_at hl 0 rfl) ?_
      refine lv_iconst (v := (-1)) hx hb dX11_sits_32 (by decide) ?_
      refine lv_icmp_ne (tgt := 41) hx hb dX11_sits_33 (by decide) (fun c10 => ?_) (fun c10 => ?_)
      · replace h := if_f c10 h
        refine lv_iload_n hx hb dX11_sits_41 rfl (lv_at hl 0 rfl) ?_
        exact r_iret C hr hP hS h dX11_sits_42
      · replace h := if_t c10 h
        refine lv_bipush (v := (-2)) hx hb dX11_sits_36 (by decide) ?_
        refine lv_goto (tgt := 42) hx hb dX11_sits_38 (by decide) ?_
        exact r_iret C hr hP hS h dX11_sits_42
    · replace h := if_t c6 h
      refine lv_iconst (v := (-1)) hx hb dX11_sits_22 (by decide) ?_
      exact r_iret C hr hP hS h dX11_sits_23

def f_X11_quiet_L13 (v0 : Nat) (v1 : Int32) (μ : fMem) : Option (Nat × (Int32 × fMem)) :=
  if (99 : Int32) < v1 then some (1, (v1, μ)) else bd (f_X11_stirs v0 (1 : Int32) μ) fun r7 μ6 => bd (f_X11_passes v0 (1 : Int32) μ6) fun r10 μ9 => bd (f_X11_stirs v0 (1 : Int32) μ9) fun r13 μ12 => if r13 = r7 then some (2, (v1, μ12)) else vl (v1 + (1 : Int32)) fun x16 => some (0, (x16, μ12))
def f_X11_quiet (v0 : Nat) (μ : fMem) : Option (Int32 × fMem) :=
  vl (sI μ v0 0 (0 : Int32)) fun μ1 => bd (f_X11_copies v0 (1 : Int32) (0 : Int32) μ1) fun r3 μ2 => bd (lpn (fun (q : Int32 × fMem) => f_X11_quiet_L13 v0 q.1 q.2) fuel ((0 : Int32), μ2)) fun t17 q18 => (fun (x19 : Int32) (μ20 : fMem) => if t17 = 0 then some ((-2 : Int32), μ20) else some (x19, μ20)) q18.1 q18.2
def rm_X11_quiet : Room := { frames := 9, cells := 0, slots := 0, locals := 276 }
set_option maxHeartbeats 4000000 in
set_option maxRecDepth 100000 in
theorem m_X11_quiet (l : Launch) (w : fW) (hJ : fJ w) (hw : w.2.2.2 = sd 1) (v0 : Nat) (hk0 : kd v0 = (4, 11)) (μ : fMem) {r : Int32} {μr : fMem} (h : f_X11_quiet v0 μ = some (r, μr)) : Met l yX11_quiet (.code yX11_quiet cX11_quiet 3 (some .int) :: gw) rm_X11_quiet (fPc w [.ref (w.2.2.1 v0)] μ) (fQi w r μr) 0 0 (fA w) := by
  refine met_of hJ (by decide) ?_ (Nat.le_of_ble_eq_true rfl)
  generalize ([.ref (w.2.2.1 v0)] : List Value).toArray = args
  intro p e s m below meth c ls C hr hP hl hS
  obtain ⟨hx, hb, hml, hown, hts, hK, -, hlk, hT⟩ := id C
  have hl : lv_has ls 3 [(0, .ref (w.2.2.1 v0))] := hl
  unfold f_X11_quiet at h
  refine lv_aload_n hx hb dX11_quiet_0 rfl (lv_at hl 0 rfl) ?_
  refine lv_iconst (v := (0)) hx hb dX11_quiet_1 (by decide) ?_
  refine r_putI C hP hS (iw hw (fi_11 hk0)) hk0 fp_X11_148 rfl dX11_quiet_2 (fun H locs hP hS => ?_)
  obtain ⟨μ1, eμ1, h⟩ := vl_ex h
  have hP : fP w μ1 H := by rw [eμ1]; exact hP
  refine lv_aload_n hx hb dX11_quiet_5 rfl (lv_at hl 0 rfl) ?_
  refine lv_iconst (v := (1)) hx hb dX11_quiet_6 (by decide) ?_
  refine lv_iconst (v := (0)) hx hb dX11_quiet_7 (by decide) ?_
  obtain ⟨r3, μ2, h4, h⟩ := bd_ok h
  refine go_v (callV_run (As := [.int (1 : Int32), .int (0 : Int32)]) (rest := []) C hl hP (hS.wide hJ).2.1 (iw hw (fi_11 hk0)) hk0 (m_X11_copies l w hJ hw v0 (1 : Int32) (0 : Int32) hk0 μ1 h4) mv_X11_403 ⟨rfl, rfl, by decide, by decide⟩ rfl rfl (Nat.le_of_ble_eq_true rfl) ⟨Nat.zero_le _, Nat.zero_le _⟩ dX11_quiet_8) hS (fun H locs hP hS => ?_)
  refine lv_iconst (v := (0)) hx hb dX11_quiet_11 (by decide) ?_
  refine lv_istore_n (lv' := [(1, .int (0 : Int32)), (0, .ref (w.2.2.1 v0))]) hx hb dX11_quiet_12 rfl hl (by decide) rfl (fun ls hl => ?_)
  obtain ⟨t17, q18, h21, h⟩ := bd_ok h
  refine lpn_ind (b := (fun (q : Int32 × fMem) => f_X11_quiet_L13 v0 q.1 q.2)) (P := fun (q : Int32 × fMem) => WW p l e rm_X11_quiet s m args below meth c (MQ below (fQi w r μr) args s 0 0 (fA w)) w q.2 3 13 [] [(0, .ref (w.2.2.1 v0)), (1, .int q.1)]) (K := fun t (q : Int32 × fMem) => (t = 0 → WW p l e rm_X11_quiet s m args below meth c (MQ below (fQi w r μr) args s 0 0 (fA w)) w q.2 3 47 [] []) ∧ (t = 1 → WW p l e rm_X11_quiet s m args below meth c (MQ below (fQi w r μr) args s 0 0 (fA w)) w q.2 3 39 [] [(1, .int q.1)])) ?_ fuel ((0 : Int32), μ2) t17 q18 h21 ?_ _ _ _ hP hS (lv_sub hl [1, 0] rfl)
  · intro q tz13 sz13 h hP0_13 hK0_13 H locs ls hP hS hl
    obtain ⟨v1, μ⟩ := q
    have hP : fP w μ H := hP
    have hl : lv_has ls 3 [(0, .ref (w.2.2.1 v0)), (1, .int v1)] := hl
    have h : f_X11_quiet_L13 v0 v1 μ = some (tz13, sz13) := h
    unfold f_X11_quiet_L13 at h
    refine lv_iload_n hx hb dX11_quiet_13 rfl (lv_at hl 1 rfl) ?_
    refine lv_bipush (v := (99)) hx hb dX11_quiet_14 (by decide) ?_
    refine lv_icmp_gt (tgt := 47) hx hb dX11_quiet_16 (by decide) (fun c5 => ?_) (fun c5 => ?_)
    · replace h := if_t c5 h
      obtain ⟨rfl, rfl⟩ := leaf h
      exact ((hK0_13 0 rfl).1 rfl) _ _ _ hP hS (lv_sub hl [] rfl)
    · replace h := if_f c5 h
      refine lv_aload_n hx hb dX11_quiet_19 rfl (lv_at hl 0 rfl) ?_
      refine lv_iconst (v := (1)) hx hb dX11_quiet_20 (by decide) ?_
      obtain ⟨r7, μ6, h8, h⟩ := bd_ok h
      refine go_i (callV_run (As := [.int (1 : Int32)]) (rest := []) C hl hP (hS.wide hJ).2.1 (iw hw (fi_11 hk0)) hk0 (m_X11_stirs l w hJ hw v0 (1 : Int32) hk0 μ h8) mv_X11_444 ⟨rfl, rfl, by decide, by decide⟩ rfl rfl (Nat.le_of_ble_eq_true rfl) ⟨Nat.zero_le _, Nat.zero_le _⟩ dX11_quiet_21) hS (fun H locs hP hS => ?_)
      refine lv_istore_n (lv' := [(2, .int r7), (0, .ref (w.2.2.1 v0)), (1, .int v1)]) hx hb dX11_quiet_24 rfl hl (by decide) rfl (fun ls hl => ?_)
      refine lv_aload_n hx hb dX11_quiet_25 rfl (lv_at hl 1 rfl) ?_
      refine lv_iconst (v := (1)) hx hb dX11_quiet_26 (by decide) ?_
      obtain ⟨r10, μ9, h11, h⟩ := bd_ok h
      refine go_v (callV_run (As := [.int (1 : Int32)]) (rest := []) C hl hP (hS.wide hJ).2.1 (iw hw (fi_11 hk0)) hk0 (m_X11_passes l w hJ hw v0 (1 : Int32) hk0 μ6 h11) mv_X11_409 ⟨rfl, rfl, by decide, by decide⟩ rfl rfl (Nat.le_of_ble_eq_true rfl) ⟨Nat.zero_le _, Nat.zero_le _⟩ dX11_quiet_27) hS (fun H locs hP hS => ?_)
      refine lv_aload_n hx hb dX11_quiet_30 rfl (lv_at hl 1 rfl) ?_
      refine lv_iconst (v := (1)) hx hb dX11_quiet_31 (by decide) ?_
      obtain ⟨r13, μ12, h14, h⟩ := bd_ok h
      refine go_i (callV_run (As := [.int (1 : Int32)]) (rest := []) C hl hP (hS.wide hJ).2.1 (iw hw (fi_11 hk0)) hk0 (m_X11_stirs l w hJ hw v0 (1 : Int32) hk0 μ9 h14) mv_X11_444 ⟨rfl, rfl, by decide, by decide⟩ rfl rfl (Nat.le_of_ble_eq_true rfl) ⟨Nat.zero_le _, Nat.zero_le _⟩ dX11_quiet_32) hS (fun H locs hP hS => ?_)
      refine lv_iload_n hx hb dX11_quiet_35 rfl (lv_at hl 0 rfl) ?_
      refine lv_icmp_ne (tgt := 41) hx hb dX11_quiet_36 (by decide) (fun c15 => ?_) (fun c15 => ?_)
      · replace h := if_f c15 h
        obtain ⟨x16, ex16⟩ : ∃ y : Int32, y = (v1 + (1 : Int32)) := ⟨_, rfl⟩
        replace h := vl_ok ex16 h
        refine lv_iinc (v := x16) (lv' := [(1, .int x16), (2, .int r7), (0, .ref (w.2.2.1 v0))]) hx hb dX11_quiet_41 hl (k := 2) rfl (by rw [ex16]; rfl) (by decide) rfl (fun ls hl => ?_)
        refine lv_goto (tgt := 13) hx hb dX11_quiet_44 (by decide) ?_
        obtain ⟨rfl, rfl⟩ := leaf h
        exact hP0_13 rfl _ _ _ hP hS (lv_sub hl [2, 0] rfl)
      · replace h := if_t c15 h
        obtain ⟨rfl, rfl⟩ := leaf h
        exact ((hK0_13 1 rfl).2 rfl) _ _ _ hP hS (lv_sub hl [2] rfl)
  · obtain ⟨x19, μ20⟩ := q18
    try dsimp only at h
    refine ⟨fun ht => ?_, fun ht => ?_⟩
    · intro H locs ls hP hS hl
      have hP : fP w μ20 H := hP
      have hl : lv_has ls 3 [] := hl
      replace h := if_t ht h
      refine lv_bipush (v := (-2)) hx hb dX11_quiet_47 (by decide) ?_
      exact r_iret C hr hP hS h dX11_quiet_49
    · intro H locs ls hP hS hl
      have hP : fP w μ20 H := hP
      have hl : lv_has ls 3 [(1, .int x19)] := hl
      replace h := if_f (by rw [ht]; decide) h
      refine lv_iload_n hx hb dX11_quiet_39 rfl (lv_at hl 0 rfl) ?_
      exact r_iret C hr hP hS h dX11_quiet_40

def f_X11_leastMoved_j106 (v0 : Nat) (v1 : Int32) (v2 : Int32) (v3 : Int32) (v6 : Int32) (v7 : Int32) (μ : fMem) : Option (Nat × (Int32 × Int32 × Int32 × fMem)) :=
  vl (v6 + (1 : Int32)) fun x29 => some (0, (v6, v7, x29, μ))
def f_X11_leastMoved_L44 (v0 : Nat) (v1 : Int32) (v2 : Int32) (v3 : Int32) (v4 : Int32) (v5 : Int32) (v6 : Int32) (μ : fMem) : Option (Nat × (Int32 × Int32 × Int32 × fMem)) :=
  if (μ.1 (v0 + 2) 0) ≤ v6 then some (1, (v4, v5, v6, μ)) else bd (f_X11_copies v0 (1 : Int32) (0 : Int32) μ) fun r12 μ11 => gd (ixo ((8 : Int32) + v1) 184) (vl (sI μ11 (v0 + 25) (Int32.toNatClampNeg ((8 : Int32) + v1)) v6) fun μ14 => bd (f_X11_goesOn v0 v2 μ14) fun r17 μ16 => bd (f_X11_stirs v0 (1 : Int32) μ16) fun r20 μ19 => bd (f_X11_stirs v0 (0 : Int32) μ19) fun r23 μ22 => vl (r20 - r23) fun x25 => if v4 = (-1 : Int32) then f_X11_leastMoved_j106 v0 v1 v2 v3 v6 x25 μ22 else if x25 < v5 then f_X11_leastMoved_j106 v0 v1 v2 v3 v6 x25 μ22 else vl (v6 + (1 : Int32)) fun x28 => some (0, (v4, v5, x28, μ22)))
def f_X11_leastMoved (v0 : Nat) (v1 : Int32) (v2 : Int32) (v3 : Int32) (μ : fMem) : Option (Int32 × fMem) :=
  vl (sI μ v0 0 (0 : Int32)) fun μ1 => bd (f_X11_isThing v0 v1 μ1) fun r3 μ2 => if r3 = 0 then some ((-1 : Int32), μ2) else if v2 < (1 : Int32) then some ((-1 : Int32), μ2) else if (60 : Int32) < v2 then some ((-1 : Int32), μ2) else if v3 < 0 then some ((-1 : Int32), μ2) else if v3 ≤ (1 : Int32) then bd (lpn (fun (q : Int32 × Int32 × Int32 × fMem) => f_X11_leastMoved_L44 v0 v1 v2 v3 q.1 q.2.1 q.2.2.1 q.2.2.2) fuel ((-1 : Int32), (0 : Int32), (0 : Int32), μ2)) fun t30 q31 => (fun (x32 : Int32) (x33 : Int32) (x34 : Int32) (μ35 : fMem) => if v3 = 0 then some (x32, μ35) else some (x33, μ35)) q31.1 q31.2.1 q31.2.2.1 q31.2.2.2 else some ((-1 : Int32), μ2)
def rm_X11_leastMoved : Room := { frames := 10, cells := 0, slots := 0, locals := 298 }
set_option maxHeartbeats 4000000 in
set_option maxRecDepth 100000 in
theorem m_X11_leastMoved (l : Launch) (w : fW) (hJ : fJ w) (hw : w.2.2.2 = sd 1) (v0 : Nat) (v1 : Int32) (v2 : Int32) (v3 : Int32) (hk0 : kd v0 = (4, 11)) (μ : fMem) {r : Int32} {μr : fMem} (h : f_X11_leastMoved v0 v1 v2 v3 μ = some (r, μr)) : Met l yX11_leastMoved (.code yX11_leastMoved cX11_leastMoved 8 (some .int) :: gw) rm_X11_leastMoved (fPc w [.ref (w.2.2.1 v0), .int v1, .int v2, .int v3] μ) (fQi w r μr) 0 0 (fA w) := by
  refine met_of hJ (by decide) ?_ (Nat.le_of_ble_eq_true rfl)
  generalize ([.ref (w.2.2.1 v0), .int v1, .int v2, .int v3] : List Value).toArray = args
  intro p e s m below meth c ls C hr hP hl hS
  obtain ⟨hx, hb, hml, hown, hts, hK, -, hlk, hT⟩ := id C
  have hl : lv_has ls 8 [(0, .ref (w.2.2.1 v0)), (1, .int v1), (2, .int v2), (3, .int v3)] := hl
  unfold f_X11_leastMoved at h
  refine lv_aload_n hx hb dX11_leastMoved_0 rfl (lv_at hl 0 rfl) ?_
  refine lv_iconst (v := (0)) hx hb dX11_leastMoved_1 (by decide) ?_
  refine r_putI C hP hS (iw hw (fi_11 hk0)) hk0 fp_X11_148 rfl dX11_leastMoved_2 (fun H locs hP hS => ?_)
  obtain ⟨μ1, eμ1, h⟩ := vl_ex h
  have hP : fP w μ1 H := by rw [eμ1]; exact hP
  refine lv_aload_n hx hb dX11_leastMoved_5 rfl (lv_at hl 0 rfl) ?_
  refine lv_iload_n hx hb dX11_leastMoved_6 rfl (lv_at hl 1 rfl) ?_
  obtain ⟨r3, μ2, h4, h⟩ := bd_ok h
  refine go_i (callV_run (As := [.int v1]) (rest := []) C hl hP (hS.wide hJ).2.1 (iw hw (fi_11 hk0)) hk0 (m_X11_isThing l w hJ hw v0 v1 hk0 μ1 h4) mv_X11_416 ⟨rfl, rfl, by decide, by decide⟩ rfl rfl (Nat.le_of_ble_eq_true rfl) ⟨Nat.zero_le _, Nat.zero_le _⟩ dX11_leastMoved_7) hS (fun H locs hP hS => ?_)
  refine lv_if_eq (tgt := 33) hx hb dX11_leastMoved_10 (by decide) (fun c5 => ?_) (fun c5 => ?_)
  · replace h := if_t c5 h
    refine lv_iconst (v := (-1)) hx hb dX11_leastMoved_33 (by decide) ?_
    exact r_iret C hr hP hS h dX11_leastMoved_34
  · replace h := if_f c5 h
    refine lv_iload_n hx hb dX11_leastMoved_13 rfl (lv_at hl 2 rfl) ?_
    refine lv_iconst (v := (1)) hx hb dX11_leastMoved_14 (by decide) ?_
    refine lv_icmp_lt (tgt := 33) hx hb dX11_leastMoved_15 (by decide) (fun c6 => ?_) (fun c6 => ?_)
    · replace h := if_t c6 h
      refine lv_iconst (v := (-1)) hx hb dX11_leastMoved_33 (by decide) ?_
      exact r_iret C hr hP hS h dX11_leastMoved_34
    · replace h := if_f c6 h
      refine lv_iload_n hx hb dX11_leastMoved_18 rfl (lv_at hl 2 rfl) ?_
      refine lv_bipush (v := (60)) hx hb dX11_leastMoved_19 (by decide) ?_
      refine lv_icmp_gt (tgt := 33) hx hb dX11_leastMoved_21 (by decide) (fun c7 => ?_) (fun c7 => ?_)
      · replace h := if_t c7 h
        refine lv_iconst (v := (-1)) hx hb dX11_leastMoved_33 (by decide) ?_
        exact r_iret C hr hP hS h dX11_leastMoved_34
      · replace h := if_f c7 h
        refine lv_iload_n hx hb dX11_leastMoved_24 rfl (lv_at hl 3 rfl) ?_
        refine lv_if_lt (tgt := 33) hx hb dX11_leastMoved_25 (by decide) (fun c8 => ?_) (fun c8 => ?_)
        · replace h := if_t c8 h
          refine lv_iconst (v := (-1)) hx hb dX11_leastMoved_33 (by decide) ?_
          exact r_iret C hr hP hS h dX11_leastMoved_34
        · replace h := if_f c8 h
          refine lv_iload_n hx hb dX11_leastMoved_28 rfl (lv_at hl 3 rfl) ?_
          refine lv_iconst (v := (1)) hx hb dX11_leastMoved_29 (by decide) ?_
          refine lv_icmp_le (tgt := 35) hx hb dX11_leastMoved_30 (by decide) (fun c9 => ?_) (fun c9 => ?_)
          · replace h := if_t c9 h
            refine lv_iconst (v := (-1)) hx hb dX11_leastMoved_35 (by decide) ?_
            refine lv_istore (lv' := [(4, .int (-1 : Int32)), (0, .ref (w.2.2.1 v0)), (1, .int v1), (2, .int v2), (3, .int v3)]) hx hb dX11_leastMoved_36 hl (by decide) rfl (fun ls hl => ?_)
            refine lv_iconst (v := (0)) hx hb dX11_leastMoved_38 (by decide) ?_
            refine lv_istore (lv' := [(5, .int (0 : Int32)), (4, .int (-1 : Int32)), (0, .ref (w.2.2.1 v0)), (1, .int v1), (2, .int v2), (3, .int v3)]) hx hb dX11_leastMoved_39 hl (by decide) rfl (fun ls hl => ?_)
            refine lv_iconst (v := (0)) hx hb dX11_leastMoved_41 (by decide) ?_
            refine lv_istore (lv' := [(6, .int (0 : Int32)), (5, .int (0 : Int32)), (4, .int (-1 : Int32)), (0, .ref (w.2.2.1 v0)), (1, .int v1), (2, .int v2), (3, .int v3)]) hx hb dX11_leastMoved_42 hl (by decide) rfl (fun ls hl => ?_)
            obtain ⟨t30, q31, h37, h⟩ := bd_ok h
            refine lpn_ind (b := (fun (q : Int32 × Int32 × Int32 × fMem) => f_X11_leastMoved_L44 v0 v1 v2 v3 q.1 q.2.1 q.2.2.1 q.2.2.2)) (P := fun (q : Int32 × Int32 × Int32 × fMem) => WW p l e rm_X11_leastMoved s m args below meth c (MQ below (fQi w r μr) args s 0 0 (fA w)) w q.2.2.2 8 44 [] [(0, .ref (w.2.2.1 v0)), (1, .int v1), (2, .int v2), (3, .int v3), (4, .int q.1), (5, .int q.2.1), (6, .int q.2.2.1)]) (K := fun _ (q : Int32 × Int32 × Int32 × fMem) => WW p l e rm_X11_leastMoved s m args below meth c (MQ below (fQi w r μr) args s 0 0 (fA w)) w q.2.2.2 8 120 [] [(3, .int v3), (4, .int q.1), (5, .int q.2.1)]) ?_ fuel ((-1 : Int32), (0 : Int32), (0 : Int32), μ2) t30 q31 h37 ?_ _ _ _ hP hS (lv_sub hl [3, 4, 5, 6, 2, 1, 0] rfl)
            · intro q tz44 sz44 h hP0_44 hK0_44 H locs ls hP hS hl
              obtain ⟨v4, v5, v6, μ⟩ := q
              have hP : fP w μ H := hP
              have hl : lv_has ls 8 [(0, .ref (w.2.2.1 v0)), (1, .int v1), (2, .int v2), (3, .int v3), (4, .int v4), (5, .int v5), (6, .int v6)] := hl
              have h : f_X11_leastMoved_L44 v0 v1 v2 v3 v4 v5 v6 μ = some (tz44, sz44) := h
              unfold f_X11_leastMoved_L44 at h
              have J106 : ∀ (v6 : Int32) (v7 : Int32) (μ : fMem), f_X11_leastMoved_j106 v0 v1 v2 v3 v6 v7 μ = some (tz44, sz44) → WW p l e rm_X11_leastMoved s m args below meth c (MQ below (fQi w r μr) args s 0 0 (fA w)) w μ 8 106 [] [(0, .ref (w.2.2.1 v0)), (1, .int v1), (2, .int v2), (3, .int v3), (6, .int v6), (7, .int v7)] := by
                intro v6 v7 μ  h H locs ls hP hS hl
                unfold f_X11_leastMoved_j106 at h
                refine lv_iload hx hb dX11_leastMoved_106 (lv_at hl 4 rfl) ?_
                refine lv_istore (lv' := [(4, .int v6), (0, .ref (w.2.2.1 v0)), (1, .int v1), (2, .int v2), (3, .int v3), (6, .int v6), (7, .int v7)]) hx hb dX11_leastMoved_108 hl (by decide) rfl (fun ls hl => ?_)
                refine lv_iload hx hb dX11_leastMoved_110 (lv_at hl 6 rfl) ?_
                refine lv_istore (lv' := [(5, .int v7), (4, .int v6), (0, .ref (w.2.2.1 v0)), (1, .int v1), (2, .int v2), (3, .int v3), (6, .int v6), (7, .int v7)]) hx hb dX11_leastMoved_112 hl (by decide) rfl (fun ls hl => ?_)
                obtain ⟨x29, ex29⟩ : ∃ y : Int32, y = (v6 + (1 : Int32)) := ⟨_, rfl⟩
                replace h := vl_ok ex29 h
                refine lv_iinc (v := x29) (lv' := [(6, .int x29), (5, .int v7), (4, .int v6), (0, .ref (w.2.2.1 v0)), (1, .int v1), (2, .int v2), (3, .int v3), (7, .int v7)]) hx hb dX11_leastMoved_114 hl (k := 6) rfl (by rw [ex29]; rfl) (by decide) rfl (fun ls hl => ?_)
                refine lv_goto (tgt := 44) hx hb dX11_leastMoved_117 (by decide) ?_
                obtain ⟨rfl, rfl⟩ := leaf h
                exact hP0_44 rfl _ _ _ hP hS (lv_sub hl [3, 4, 5, 6, 2, 1, 0] rfl)
              refine lv_iload hx hb dX11_leastMoved_44 (lv_at hl 6 rfl) ?_
              refine lv_aload_n hx hb dX11_leastMoved_46 rfl (lv_at hl 0 rfl) ?_
              refine r_getF (off := 2) C hP (iw hw (fi_11 hk0)) hk0 fl_X11_13 rfl rfl (zw hw) dX11_leastMoved_47 ?_
              refine lv_iconst (v := (0)) hx hb dX11_leastMoved_50 (by decide) ?_
              refine n_iald (j := 0) C hP (iw hw (ff_11_3 hk0).2) (ff_11_3 hk0).1 (by decide) (by decide) dX11_leastMoved_51 ?_
              refine lv_icmp_ge (tgt := 120) hx hb dX11_leastMoved_52 (by decide) (fun c10 => ?_) (fun c10 => ?_)
              · replace h := if_t c10 h
                obtain ⟨rfl, rfl⟩ := leaf h
                exact (hK0_44 0 rfl) _ _ _ hP hS (lv_sub hl [3, 4, 5] rfl)
              · replace h := if_f c10 h
                refine lv_aload_n hx hb dX11_leastMoved_55 rfl (lv_at hl 0 rfl) ?_
                refine lv_iconst (v := (1)) hx hb dX11_leastMoved_56 (by decide) ?_
                refine lv_iconst (v := (0)) hx hb dX11_leastMoved_57 (by decide) ?_
                obtain ⟨r12, μ11, h13, h⟩ := bd_ok h
                refine go_v (callV_run (As := [.int (1 : Int32), .int (0 : Int32)]) (rest := []) C hl hP (hS.wide hJ).2.1 (iw hw (fi_11 hk0)) hk0 (m_X11_copies l w hJ hw v0 (1 : Int32) (0 : Int32) hk0 μ h13) mv_X11_403 ⟨rfl, rfl, by decide, by decide⟩ rfl rfl (Nat.le_of_ble_eq_true rfl) ⟨Nat.zero_le _, Nat.zero_le _⟩ dX11_leastMoved_58) hS (fun H locs hP hS => ?_)
                refine lv_aload_n hx hb dX11_leastMoved_61 rfl (lv_at hl 0 rfl) ?_
                refine r_getF (off := 25) C hP (iw hw (fi_11 hk0)) hk0 fl_X11_87 rfl rfl (zw hw) dX11_leastMoved_62 ?_
                refine lv_bipush (v := (8)) hx hb dX11_leastMoved_65 (by decide) ?_
                refine lv_iload_n hx hb dX11_leastMoved_67 rfl (lv_at hl 1 rfl) ?_
                refine lv_iadd hx hb dX11_leastMoved_68 ?_
                refine lv_iload hx hb dX11_leastMoved_69 (lv_at hl 6 rfl) ?_
                obtain ⟨g15, h⟩ := gd_ok h
                refine r_iast C hP hS (iw hw (ff_11_40 hk0).2) (ff_11_40 hk0).1 g15 dX11_leastMoved_71 (fun H locs hP hS => ?_)
                obtain ⟨μ14, eμ14, h⟩ := vl_ex h
                have hP : fP w μ14 H := by rw [eμ14]; exact hP
                refine lv_aload_n hx hb dX11_leastMoved_72 rfl (lv_at hl 0 rfl) ?_
                refine lv_iload_n hx hb dX11_leastMoved_73 rfl (lv_at hl 2 rfl) ?_
                obtain ⟨r17, μ16, h18, h⟩ := bd_ok h
                refine go_v (callV_run (As := [.int v2]) (rest := []) C hl hP (hS.wide hJ).2.1 (iw hw (fi_11 hk0)) hk0 (m_X11_goesOn l w hJ hw v0 v2 hk0 μ14 h18) mv_X11_406 ⟨rfl, rfl, by decide, by decide⟩ rfl rfl (Nat.le_of_ble_eq_true rfl) ⟨Nat.zero_le _, Nat.zero_le _⟩ dX11_leastMoved_74) hS (fun H locs hP hS => ?_)
                refine lv_aload_n hx hb dX11_leastMoved_77 rfl (lv_at hl 0 rfl) ?_
                refine lv_iconst (v := (1)) hx hb dX11_leastMoved_78 (by decide) ?_
                obtain ⟨r20, μ19, h21, h⟩ := bd_ok h
                refine go_i (callV_run (As := [.int (1 : Int32)]) (rest := []) C hl hP (hS.wide hJ).2.1 (iw hw (fi_11 hk0)) hk0 (m_X11_stirs l w hJ hw v0 (1 : Int32) hk0 μ16 h21) mv_X11_444 ⟨rfl, rfl, by decide, by decide⟩ rfl rfl (Nat.le_of_ble_eq_true rfl) ⟨Nat.zero_le _, Nat.zero_le _⟩ dX11_leastMoved_79) hS (fun H locs hP hS => ?_)
                refine lv_aload_n hx hb dX11_leastMoved_82 rfl (lv_at hl 0 rfl) ?_
                refine lv_iconst (v := (0)) hx hb dX11_leastMoved_83 (by decide) ?_
                obtain ⟨r23, μ22, h24, h⟩ := bd_ok h
                refine go_i (callV_run (As := [.int (0 : Int32)]) (rest := [.int r20]) C hl hP (hS.wide hJ).2.1 (iw hw (fi_11 hk0)) hk0 (m_X11_stirs l w hJ hw v0 (0 : Int32) hk0 μ19 h24) mv_X11_444 ⟨rfl, rfl, by decide, by decide⟩ rfl rfl (Nat.le_of_ble_eq_true rfl) ⟨Nat.zero_le _, Nat.zero_le _⟩ dX11_leastMoved_84) hS (fun H locs hP hS => ?_)
                refine lv_isub hx hb dX11_leastMoved_87 ?_
                refine lv_topi (fun x25 ex25 => ?_)
                replace h := vl_ok ex25 h
                refine lv_istore (lv' := [(7, .int x25), (0, .ref (w.2.2.1 v0)), (1, .int v1), (2, .int v2), (3, .int v3), (4, .int v4), (5, .int v5), (6, .int v6)]) hx hb dX11_leastMoved_88 hl (by decide) rfl (fun ls hl => ?_)
                refine lv_iload hx hb dX11_leastMoved_90 (lv_at hl 5 rfl) ?_
                refine lv_iconst (v := (-1)) hx hb dX11_leastMoved_92 (by decide) ?_
                refine lv_icmp_eq (tgt := 106) hx hb dX11_leastMoved_93 (by decide) (fun c26 => ?_) (fun c26 => ?_)
                · replace h := if_t c26 h
                  exact J106 v6 x25 μ22  h _ _ _ hP hS (lv_sub hl [1, 2, 3, 4, 7, 0] rfl)
                · replace h := if_f c26 h
                  refine lv_iload hx hb dX11_leastMoved_96 (lv_at hl 0 rfl) ?_
                  refine lv_iload hx hb dX11_leastMoved_98 (lv_at hl 6 rfl) ?_
                  refine lv_icmp_lt (tgt := 106) hx hb dX11_leastMoved_100 (by decide) (fun c27 => ?_) (fun c27 => ?_)
                  · replace h := if_t c27 h
                    exact J106 v6 x25 μ22  h _ _ _ hP hS (lv_sub hl [1, 2, 3, 4, 7, 0] rfl)
                  · replace h := if_f c27 h
                    refine lv_goto (tgt := 114) hx hb dX11_leastMoved_103 (by decide) ?_
                    obtain ⟨x28, ex28⟩ : ∃ y : Int32, y = (v6 + (1 : Int32)) := ⟨_, rfl⟩
                    replace h := vl_ok ex28 h
                    refine lv_iinc (v := x28) (lv' := [(6, .int x28), (7, .int x25), (0, .ref (w.2.2.1 v0)), (1, .int v1), (2, .int v2), (3, .int v3), (4, .int v4), (5, .int v5)]) hx hb dX11_leastMoved_114 hl (k := 7) rfl (by rw [ex28]; rfl) (by decide) rfl (fun ls hl => ?_)
                    refine lv_goto (tgt := 44) hx hb dX11_leastMoved_117 (by decide) ?_
                    obtain ⟨rfl, rfl⟩ := leaf h
                    exact hP0_44 rfl _ _ _ hP hS (lv_sub hl [2, 3, 4, 5, 6, 7, 0] rfl)
            · obtain ⟨x32, x33, x34, μ35⟩ := q31
              intro H locs ls hP hS hl
              have hP : fP w μ35 H := hP
              have hl : lv_has ls 8 [(3, .int v3), (4, .int x32), (5, .int x33)] := hl
              try dsimp only at h
              refine lv_iload_n hx hb dX11_leastMoved_120 rfl (lv_at hl 0 rfl) ?_
              refine lv_if_ne (tgt := 129) hx hb dX11_leastMoved_121 (by decide) (fun c36 => ?_) (fun c36 => ?_)
              · replace h := if_f c36 h
                refine lv_iload hx hb dX11_leastMoved_129 (lv_at hl 2 rfl) ?_
                exact r_iret C hr hP hS h dX11_leastMoved_131
              · replace h := if_t c36 h
                refine lv_iload hx hb dX11_leastMoved_124 (lv_at hl 1 rfl) ?_
                refine lv_goto (tgt := 131) hx hb dX11_leastMoved_126 (by decide) ?_
                exact r_iret C hr hP hS h dX11_leastMoved_131
          · replace h := if_f c9 h
            refine lv_iconst (v := (-1)) hx hb dX11_leastMoved_33 (by decide) ?_
            exact r_iret C hr hP hS h dX11_leastMoved_34

def f_X11_likingWhereAllSit_L4 (v0 : Nat) (v1 : Int32) (v2 : Int32) (μ : fMem) : Option (Nat × (Int32 × Int32 × fMem)) :=
  if (μ.1 (v0 + 2) 3) ≤ v2 then some (1, (v1, v2, μ)) else bd (f_X11_seatOf v0 (1 : Int32) v2 μ) fun r3 μ2 => if r3 = (-1 : Int32) then vl (v1 + (0 : Int32)) fun x11 => vl (v2 + (1 : Int32)) fun x12 => some (0, (x11, x12, μ2)) else bd (f_X11_likingFor v0 (1 : Int32) v2 r3 μ2) fun r7 μ6 => vl (v1 + r7) fun x9 => vl (v2 + (1 : Int32)) fun x10 => some (0, (x9, x10, μ6))
def f_X11_likingWhereAllSit (v0 : Nat) (μ : fMem) : Option (Int32 × fMem) :=
  bd (lpn (fun (q : Int32 × Int32 × fMem) => f_X11_likingWhereAllSit_L4 v0 q.1 q.2.1 q.2.2) fuel ((0 : Int32), (0 : Int32), μ)) fun t13 q14 => (fun (x15 : Int32) (x16 : Int32) (μ17 : fMem) => some (x15, μ17)) q14.1 q14.2.1 q14.2.2
def rm_X11_likingWhereAllSit : Room := { frames := 7, cells := 0, slots := 0, locals := 227 }
set_option maxHeartbeats 4000000 in
set_option maxRecDepth 100000 in
theorem m_X11_likingWhereAllSit (l : Launch) (w : fW) (hJ : fJ w) (hw : w.2.2.2 = sd 1) (v0 : Nat) (hk0 : kd v0 = (4, 11)) (μ : fMem) {r : Int32} {μr : fMem} (h : f_X11_likingWhereAllSit v0 μ = some (r, μr)) : Met l yX11_likingWhereAllSit (.code yX11_likingWhereAllSit cX11_likingWhereAllSit 4 (some .int) :: gw) rm_X11_likingWhereAllSit (fPc w [.ref (w.2.2.1 v0)] μ) (fQi w r μr) 0 0 (fA w) := by
  refine met_of hJ (by decide) ?_ (Nat.le_of_ble_eq_true rfl)
  generalize ([.ref (w.2.2.1 v0)] : List Value).toArray = args
  intro p e s m below meth c ls C hr hP hl hS
  obtain ⟨hx, hb, hml, hown, hts, hK, -, hlk, hT⟩ := id C
  have hl : lv_has ls 4 [(0, .ref (w.2.2.1 v0))] := hl
  unfold f_X11_likingWhereAllSit at h
  refine lv_iconst (v := (0)) hx hb dX11_likingWhereAllSit_0 (by decide) ?_
  refine lv_istore_n (lv' := [(1, .int (0 : Int32)), (0, .ref (w.2.2.1 v0))]) hx hb dX11_likingWhereAllSit_1 rfl hl (by decide) rfl (fun ls hl => ?_)
  refine lv_iconst (v := (0)) hx hb dX11_likingWhereAllSit_2 (by decide) ?_
  refine lv_istore_n (lv' := [(2, .int (0 : Int32)), (1, .int (0 : Int32)), (0, .ref (w.2.2.1 v0))]) hx hb dX11_likingWhereAllSit_3 rfl hl (by decide) rfl (fun ls hl => ?_)
  obtain ⟨t13, q14, h18, h⟩ := bd_ok h
  refine lpn_ind (b := (fun (q : Int32 × Int32 × fMem) => f_X11_likingWhereAllSit_L4 v0 q.1 q.2.1 q.2.2)) (P := fun (q : Int32 × Int32 × fMem) => WW p l e rm_X11_likingWhereAllSit s m args below meth c (MQ below (fQi w r μr) args s 0 0 (fA w)) w q.2.2 4 4 [] [(0, .ref (w.2.2.1 v0)), (1, .int q.1), (2, .int q.2.1)]) (K := fun _ (q : Int32 × Int32 × fMem) => WW p l e rm_X11_likingWhereAllSit s m args below meth c (MQ below (fQi w r μr) args s 0 0 (fA w)) w q.2.2 4 46 [] [(1, .int q.1)]) ?_ fuel ((0 : Int32), (0 : Int32), μ) t13 q14 h18 ?_ _ _ _ hP hS (lv_sub hl [2, 1, 0] rfl)
  · intro q tz4 sz4 h hP0_4 hK0_4 H locs ls hP hS hl
    obtain ⟨v1, v2, μ⟩ := q
    have hP : fP w μ H := hP
    have hl : lv_has ls 4 [(0, .ref (w.2.2.1 v0)), (1, .int v1), (2, .int v2)] := hl
    have h : f_X11_likingWhereAllSit_L4 v0 v1 v2 μ = some (tz4, sz4) := h
    unfold f_X11_likingWhereAllSit_L4 at h
    refine lv_iload_n hx hb dX11_likingWhereAllSit_4 rfl (lv_at hl 2 rfl) ?_
    refine lv_aload_n hx hb dX11_likingWhereAllSit_5 rfl (lv_at hl 0 rfl) ?_
    refine r_getF (off := 2) C hP (iw hw (fi_11 hk0)) hk0 fl_X11_13 rfl rfl (zw hw) dX11_likingWhereAllSit_6 ?_
    refine lv_iconst (v := (3)) hx hb dX11_likingWhereAllSit_9 (by decide) ?_
    refine n_iald (j := 3) C hP (iw hw (ff_11_3 hk0).2) (ff_11_3 hk0).1 (by decide) (by decide) dX11_likingWhereAllSit_10 ?_
    refine lv_icmp_ge (tgt := 46) hx hb dX11_likingWhereAllSit_11 (by decide) (fun c1 => ?_) (fun c1 => ?_)
    · replace h := if_t c1 h
      obtain ⟨rfl, rfl⟩ := leaf h
      exact (hK0_4 0 rfl) _ _ _ hP hS (lv_sub hl [1] rfl)
    · replace h := if_f c1 h
      refine lv_aload_n hx hb dX11_likingWhereAllSit_14 rfl (lv_at hl 0 rfl) ?_
      refine lv_iconst (v := (1)) hx hb dX11_likingWhereAllSit_15 (by decide) ?_
      refine lv_iload_n hx hb dX11_likingWhereAllSit_16 rfl (lv_at hl 2 rfl) ?_
      obtain ⟨r3, μ2, h4, h⟩ := bd_ok h
      refine go_i (callV_run (As := [.int (1 : Int32), .int v2]) (rest := []) C hl hP (hS.wide hJ).2.1 (iw hw (fi_11 hk0)) hk0 (m_X11_seatOf l w hJ hw v0 (1 : Int32) v2 hk0 μ h4) mv_X11_391 ⟨rfl, rfl, by decide, by decide⟩ rfl rfl (Nat.le_of_ble_eq_true rfl) ⟨Nat.zero_le _, Nat.zero_le _⟩ dX11_likingWhereAllSit_17) hS (fun H locs hP hS => ?_)
      refine lv_istore_n (lv' := [(3, .int r3), (0, .ref (w.2.2.1 v0)), (1, .int v1), (2, .int v2)]) hx hb dX11_likingWhereAllSit_20 rfl hl (by decide) rfl (fun ls hl => ?_)
      refine lv_iload_n hx hb dX11_likingWhereAllSit_21 rfl (lv_at hl 2 rfl) ?_
      refine lv_iload_n hx hb dX11_likingWhereAllSit_22 rfl (lv_at hl 0 rfl) ?_
      refine lv_iconst (v := (-1)) hx hb dX11_likingWhereAllSit_23 (by decide) ?_
      refine lv_icmp_ne (tgt := 31) hx hb dX11_likingWhereAllSit_24 (by decide) (fun c5 => ?_) (fun c5 => ?_)
      · replace h := if_f c5 h
        refine lv_aload_n hx hb dX11_likingWhereAllSit_31 rfl (lv_at hl 1 rfl) ?_
        refine lv_iconst (v := (1)) hx hb dX11_likingWhereAllSit_32 (by decide) ?_
        refine lv_iload_n hx hb dX11_likingWhereAllSit_33 rfl (lv_at hl 3 rfl) ?_
        refine lv_iload_n hx hb dX11_likingWhereAllSit_34 rfl (lv_at hl 0 rfl) ?_
        obtain ⟨r7, μ6, h8, h⟩ := bd_ok h
        refine go_i (callV_run (As := [.int (1 : Int32), .int v2, .int r3]) (rest := [.int v1]) C hl hP (hS.wide hJ).2.1 (iw hw (fi_11 hk0)) hk0 (m_X11_likingFor l w hJ hw v0 (1 : Int32) v2 r3 hk0 μ2 h8) mv_X11_385 ⟨rfl, rfl, by decide, by decide⟩ rfl rfl (Nat.le_of_ble_eq_true rfl) ⟨Nat.zero_le _, Nat.zero_le _⟩ dX11_likingWhereAllSit_35) hS (fun H locs hP hS => ?_)
        refine lv_iadd hx hb dX11_likingWhereAllSit_38 ?_
        refine lv_topi (fun x9 ex9 => ?_)
        replace h := vl_ok ex9 h
        refine lv_istore_n (lv' := [(1, .int x9), (3, .int r3), (0, .ref (w.2.2.1 v0)), (2, .int v2)]) hx hb dX11_likingWhereAllSit_39 rfl hl (by decide) rfl (fun ls hl => ?_)
        obtain ⟨x10, ex10⟩ : ∃ y : Int32, y = (v2 + (1 : Int32)) := ⟨_, rfl⟩
        replace h := vl_ok ex10 h
        refine lv_iinc (v := x10) (lv' := [(2, .int x10), (1, .int x9), (3, .int r3), (0, .ref (w.2.2.1 v0))]) hx hb dX11_likingWhereAllSit_40 hl (k := 3) rfl (by rw [ex10]; rfl) (by decide) rfl (fun ls hl => ?_)
        refine lv_goto (tgt := 4) hx hb dX11_likingWhereAllSit_43 (by decide) ?_
        obtain ⟨rfl, rfl⟩ := leaf h
        exact hP0_4 rfl _ _ _ hP hS (lv_sub hl [3, 1, 0] rfl)
      · replace h := if_t c5 h
        refine lv_iconst (v := (0)) hx hb dX11_likingWhereAllSit_27 (by decide) ?_
        refine lv_goto (tgt := 38) hx hb dX11_likingWhereAllSit_28 (by decide) ?_
        refine lv_iadd hx hb dX11_likingWhereAllSit_38 ?_
        refine lv_topi (fun x11 ex11 => ?_)
        replace h := vl_ok ex11 h
        refine lv_istore_n (lv' := [(1, .int x11), (3, .int r3), (0, .ref (w.2.2.1 v0)), (2, .int v2)]) hx hb dX11_likingWhereAllSit_39 rfl hl (by decide) rfl (fun ls hl => ?_)
        obtain ⟨x12, ex12⟩ : ∃ y : Int32, y = (v2 + (1 : Int32)) := ⟨_, rfl⟩
        replace h := vl_ok ex12 h
        refine lv_iinc (v := x12) (lv' := [(2, .int x12), (1, .int x11), (3, .int r3), (0, .ref (w.2.2.1 v0))]) hx hb dX11_likingWhereAllSit_40 hl (k := 3) rfl (by rw [ex12]; rfl) (by decide) rfl (fun ls hl => ?_)
        refine lv_goto (tgt := 4) hx hb dX11_likingWhereAllSit_43 (by decide) ?_
        obtain ⟨rfl, rfl⟩ := leaf h
        exact hP0_4 rfl _ _ _ hP hS (lv_sub hl [3, 1, 0] rfl)
  · obtain ⟨x15, x16, μ17⟩ := q14
    intro H locs ls hP hS hl
    have hP : fP w μ17 H := hP
    have hl : lv_has ls 4 [(1, .int x15)] := hl
    try dsimp only at h
    refine lv_iload_n hx hb dX11_likingWhereAllSit_46 rfl (lv_at hl 0 rfl) ?_
    exact r_iret C hr hP hS h dX11_likingWhereAllSit_47

def f_X11_hangs_L64 (F_X11_hangs : Nat → Int32 → Int32 → fMem → Option (Unit × fMem)) (v0 : Nat) (v2 : Int32) (v4 : Int32) (μ : fMem) : Option (Nat × (Int32 × fMem)) :=
  if v2 ≤ v4 then some (1, (v4, μ)) else gd (ixo ((8 : Int32) + v4) 184) (gd (ixo v4 4) (vl (sI μ (v0 + 30) (Int32.toNatClampNeg v4) (μ.1 (v0 + 25) (Int32.toNatClampNeg ((8 : Int32) + v4)))) fun μ9 => vl (v4 + (1 : Int32)) fun x11 => some (0, (x11, μ9))))
def f_X11_hangs_L7 (F_X11_hangs : Nat → Int32 → Int32 → fMem → Option (Unit × fMem)) (v0 : Nat) (v1 : Int32) (v2 : Int32) (v3 : Int32) (μ : fMem) : Option (Nat × (Int32 × fMem)) :=
  if (μ.1 (v0 + 2) 0) ≤ v3 then some (1, (v3, μ)) else gd (ixo ((8 : Int32) + v1) 184) (vl (sI μ (v0 + 25) (Int32.toNatClampNeg ((8 : Int32) + v1)) v3) fun μ18 => bd (F_X11_hangs v0 (v1 + (1 : Int32)) v2 μ18) fun r21 μ20 => vl (v3 + (1 : Int32)) fun x23 => some (0, (x23, μ20)))
def f_X11_hangs_b (F_X11_hangs : Nat → Int32 → Int32 → fMem → Option (Unit × fMem)) (v0 : Nat) (v1 : Int32) (v2 : Int32) (μ : fMem) : Option (Unit × fMem) :=
  if v2 ≤ v1 then bd (f_X11_likingWhereAllSit v0 μ) fun r3 μ2 => if (μ2.1 v0 53) < r3 then vl (sI μ2 v0 53 r3) fun μ6 => bd (lpn (fun (q : Int32 × fMem) => f_X11_hangs_L64 F_X11_hangs v0 v2 q.1 q.2) fuel ((0 : Int32), μ6)) fun t12 q13 => (fun (x14 : Int32) (μ15 : fMem) => some ((), μ15)) q13.1 q13.2 else some ((), μ2) else bd (lpn (fun (q : Int32 × fMem) => f_X11_hangs_L7 F_X11_hangs v0 v1 v2 q.1 q.2) fuel ((0 : Int32), μ)) fun t24 q25 => (fun (x26 : Int32) (μ27 : fMem) => some ((), μ27)) q25.1 q25.2
set_option maxHeartbeats 4000000 in
set_option maxRecDepth 100000 in
theorem mb_X11_hangs (l : Launch) (w : fW) (hJ : fJ w) (hw : w.2.2.2 = sd 1) (R : Room) (hR : 8 ≤ R.frames ∧ 250 ≤ R.locals) {F_X11_hangs : Nat → Int32 → Int32 → fMem → Option (Unit × fMem)} {R_X11_hangs : Room} (hF_X11_hangs : ∀ (v0 : Nat) (v1 : Int32) (v2 : Int32) (_ : kd v0 = (4, 11)) (μ : fMem) (r : Unit) (μr : fMem), F_X11_hangs v0 v1 v2 μ = some (r, μr) → Met l yX11_hangs (.code yX11_hangs cX11_hangs 5 none :: gw) R_X11_hangs (fPc w [.ref (w.2.2.1 v0), .int v1, .int v2] μ) (fQv w μr) 0 0 (fA w)) (hR_X11_hangs : rmo R R_X11_hangs 5) (v0 : Nat) (v1 : Int32) (v2 : Int32) (hk0 : kd v0 = (4, 11)) (μ : fMem) {r : Unit} {μr : fMem} (h : f_X11_hangs_b F_X11_hangs v0 v1 v2 μ = some (r, μr)) : Met l yX11_hangs (.code yX11_hangs cX11_hangs 5 none :: gw) R (fPc w [.ref (w.2.2.1 v0), .int v1, .int v2] μ) (fQv w μr) 0 0 (fA w) := by
  refine met_of hJ (by decide) ?_ (Nat.le_of_ble_eq_true rfl)
  generalize ([.ref (w.2.2.1 v0), .int v1, .int v2] : List Value).toArray = args
  intro p e s m below meth c ls C hr hP hl hS
  obtain ⟨hx, hb, hml, hown, hts, hK, -, hlk, hT⟩ := id C
  have hl : lv_has ls 5 [(0, .ref (w.2.2.1 v0)), (1, .int v1), (2, .int v2)] := hl
  unfold f_X11_hangs_b at h
  refine lv_iload_n hx hb dX11_hangs_0 rfl (lv_at hl 1 rfl) ?_
  refine lv_iload_n hx hb dX11_hangs_1 rfl (lv_at hl 2 rfl) ?_
  refine lv_icmp_ge (tgt := 42) hx hb dX11_hangs_2 (by decide) (fun c1 => ?_) (fun c1 => ?_)
  · replace h := if_t c1 h
    refine lv_aload_n hx hb dX11_hangs_42 rfl (lv_at hl 0 rfl) ?_
    obtain ⟨r3, μ2, h4, h⟩ := bd_ok h
    refine go_i (callV_run (As := []) (rest := []) C hl hP (hS.wide hJ).2.1 (iw hw (fi_11 hk0)) hk0 (m_X11_likingWhereAllSit l w hJ hw v0 hk0 μ h4) mv_X11_450 ⟨rfl, rfl, Nat.le_trans (by decide) hR.1, Nat.le_trans (by decide) hR.2⟩ rfl rfl (Nat.le_of_ble_eq_true rfl) ⟨Nat.zero_le _, Nat.zero_le _⟩ dX11_hangs_43) hS (fun H locs hP hS => ?_)
    refine lv_istore_n (lv' := [(3, .int r3), (0, .ref (w.2.2.1 v0)), (1, .int v1), (2, .int v2)]) hx hb dX11_hangs_46 rfl hl (by decide) rfl (fun ls hl => ?_)
    refine lv_iload_n hx hb dX11_hangs_47 rfl (lv_at hl 0 rfl) ?_
    refine lv_aload_n hx hb dX11_hangs_48 rfl (lv_at hl 1 rfl) ?_
    refine r_getI C hP (iw hw (fi_11 hk0)) hk0 fl_X11_453 (Or.inl rfl) dX11_hangs_49 ?_
    refine lv_icmp_gt (tgt := 56) hx hb dX11_hangs_52 (by decide) (fun c5 => ?_) (fun c5 => ?_)
    · replace h := if_t c5 h
      refine lv_aload_n hx hb dX11_hangs_56 rfl (lv_at hl 1 rfl) ?_
      refine lv_iload_n hx hb dX11_hangs_57 rfl (lv_at hl 0 rfl) ?_
      refine r_putI C hP hS (iw hw (fi_11 hk0)) hk0 fp_X11_453 rfl dX11_hangs_58 (fun H locs hP hS => ?_)
      obtain ⟨μ6, eμ6, h⟩ := vl_ex h
      have hP : fP w μ6 H := by rw [eμ6]; exact hP
      refine lv_iconst (v := (0)) hx hb dX11_hangs_61 (by decide) ?_
      refine lv_istore (lv' := [(4, .int (0 : Int32)), (3, .int r3), (0, .ref (w.2.2.1 v0)), (1, .int v1), (2, .int v2)]) hx hb dX11_hangs_62 hl (by decide) rfl (fun ls hl => ?_)
      obtain ⟨t12, q13, h16, h⟩ := bd_ok h
      refine lpn_ind (b := (fun (q : Int32 × fMem) => f_X11_hangs_L64 F_X11_hangs v0 v2 q.1 q.2)) (P := fun (q : Int32 × fMem) => WW p l e R s m args below meth c (MQ below (fQv w μr) args s 0 0 (fA w)) w q.2 5 64 [] [(0, .ref (w.2.2.1 v0)), (2, .int v2), (4, .int q.1)]) (K := fun _ (q : Int32 × fMem) => WW p l e R s m args below meth c (MQ below (fQv w μr) args s 0 0 (fA w)) w q.2 5 93 [] []) ?_ fuel ((0 : Int32), μ6) t12 q13 h16 ?_ _ _ _ hP hS (lv_sub hl [2, 4, 0] rfl)
      · intro q tz64 sz64 h hP0_64 hK0_64 H locs ls hP hS hl
        obtain ⟨v4, μ⟩ := q
        have hP : fP w μ H := hP
        have hl : lv_has ls 5 [(0, .ref (w.2.2.1 v0)), (2, .int v2), (4, .int v4)] := hl
        have h : f_X11_hangs_L64 F_X11_hangs v0 v2 v4 μ = some (tz64, sz64) := h
        unfold f_X11_hangs_L64 at h
        refine lv_iload hx hb dX11_hangs_64 (lv_at hl 2 rfl) ?_
        refine lv_iload_n hx hb dX11_hangs_66 rfl (lv_at hl 1 rfl) ?_
        refine lv_icmp_ge (tgt := 93) hx hb dX11_hangs_67 (by decide) (fun c7 => ?_) (fun c7 => ?_)
        · replace h := if_t c7 h
          obtain ⟨rfl, rfl⟩ := leaf h
          exact (hK0_64 0 rfl) _ _ _ hP hS (lv_sub hl [] rfl)
        · replace h := if_f c7 h
          refine lv_aload_n hx hb dX11_hangs_70 rfl (lv_at hl 0 rfl) ?_
          refine r_getF (off := 30) C hP (iw hw (fi_11 hk0)) hk0 fl_X11_111 rfl rfl (zw hw) dX11_hangs_71 ?_
          refine lv_iload hx hb dX11_hangs_74 (lv_at hl 2 rfl) ?_
          refine lv_aload_n hx hb dX11_hangs_76 rfl (lv_at hl 0 rfl) ?_
          refine r_getF (off := 25) C hP (iw hw (fi_11 hk0)) hk0 fl_X11_87 rfl rfl (zw hw) dX11_hangs_77 ?_
          refine lv_bipush (v := (8)) hx hb dX11_hangs_80 (by decide) ?_
          refine lv_iload hx hb dX11_hangs_82 (lv_at hl 2 rfl) ?_
          refine lv_iadd hx hb dX11_hangs_84 ?_
          obtain ⟨g8, h⟩ := gd_ok h
          refine r_iald C hP (iw hw (ff_11_40 hk0).2) (ff_11_40 hk0).1 g8 dX11_hangs_85 ?_
          obtain ⟨g10, h⟩ := gd_ok h
          refine r_iast C hP hS (iw hw (ff_11_52 hk0).2) (ff_11_52 hk0).1 g10 dX11_hangs_86 (fun H locs hP hS => ?_)
          obtain ⟨μ9, eμ9, h⟩ := vl_ex h
          have hP : fP w μ9 H := by rw [eμ9]; exact hP
          obtain ⟨x11, ex11⟩ : ∃ y : Int32, y = (v4 + (1 : Int32)) := ⟨_, rfl⟩
          replace h := vl_ok ex11 h
          refine lv_iinc (v := x11) (lv' := [(4, .int x11), (0, .ref (w.2.2.1 v0)), (2, .int v2)]) hx hb dX11_hangs_87 hl (k := 2) rfl (by rw [ex11]; rfl) (by decide) rfl (fun ls hl => ?_)
          refine lv_goto (tgt := 64) hx hb dX11_hangs_90 (by decide) ?_
          obtain ⟨rfl, rfl⟩ := leaf h
          exact hP0_64 rfl _ _ _ hP hS (lv_sub hl [1, 2, 0] rfl)
      · obtain ⟨x14, μ15⟩ := q13
        intro H locs ls hP hS hl
        have hP : fP w μ15 H := hP
        have hl : lv_has ls 5 [] := hl
        try dsimp only at h
        exact r_vret C hr hP hS h dX11_hangs_93
    · replace h := if_f c5 h
      exact r_vret C hr hP hS h dX11_hangs_55
  · replace h := if_f c1 h
    refine lv_iconst (v := (0)) hx hb dX11_hangs_5 (by decide) ?_
    refine lv_istore_n (lv' := [(3, .int (0 : Int32)), (0, .ref (w.2.2.1 v0)), (1, .int v1), (2, .int v2)]) hx hb dX11_hangs_6 rfl hl (by decide) rfl (fun ls hl => ?_)
    obtain ⟨t24, q25, h28, h⟩ := bd_ok h
    refine lpn_ind (b := (fun (q : Int32 × fMem) => f_X11_hangs_L7 F_X11_hangs v0 v1 v2 q.1 q.2)) (P := fun (q : Int32 × fMem) => WW p l e R s m args below meth c (MQ below (fQv w μr) args s 0 0 (fA w)) w q.2 5 7 [] [(0, .ref (w.2.2.1 v0)), (1, .int v1), (2, .int v2), (3, .int q.1)]) (K := fun _ (q : Int32 × fMem) => WW p l e R s m args below meth c (MQ below (fQv w μr) args s 0 0 (fA w)) w q.2 5 41 [] []) ?_ fuel ((0 : Int32), μ) t24 q25 h28 ?_ _ _ _ hP hS (lv_sub hl [1, 2, 3, 0] rfl)
    · intro q tz7 sz7 h hP0_7 hK0_7 H locs ls hP hS hl
      obtain ⟨v3, μ⟩ := q
      have hP : fP w μ H := hP
      have hl : lv_has ls 5 [(0, .ref (w.2.2.1 v0)), (1, .int v1), (2, .int v2), (3, .int v3)] := hl
      have h : f_X11_hangs_L7 F_X11_hangs v0 v1 v2 v3 μ = some (tz7, sz7) := h
      unfold f_X11_hangs_L7 at h
      refine lv_iload_n hx hb dX11_hangs_7 rfl (lv_at hl 3 rfl) ?_
      refine lv_aload_n hx hb dX11_hangs_8 rfl (lv_at hl 0 rfl) ?_
      refine r_getF (off := 2) C hP (iw hw (fi_11 hk0)) hk0 fl_X11_13 rfl rfl (zw hw) dX11_hangs_9 ?_
      refine lv_iconst (v := (0)) hx hb dX11_hangs_12 (by decide) ?_
      refine n_iald (j := 0) C hP (iw hw (ff_11_3 hk0).2) (ff_11_3 hk0).1 (by decide) (by decide) dX11_hangs_13 ?_
      refine lv_icmp_ge (tgt := 41) hx hb dX11_hangs_14 (by decide) (fun c17 => ?_) (fun c17 => ?_)
      · replace h := if_t c17 h
        obtain ⟨rfl, rfl⟩ := leaf h
        exact (hK0_7 0 rfl) _ _ _ hP hS (lv_sub hl [] rfl)
      · replace h := if_f c17 h
        refine lv_aload_n hx hb dX11_hangs_17 rfl (lv_at hl 0 rfl) ?_
        refine r_getF (off := 25) C hP (iw hw (fi_11 hk0)) hk0 fl_X11_87 rfl rfl (zw hw) dX11_hangs_18 ?_
        refine lv_bipush (v := (8)) hx hb dX11_hangs_21 (by decide) ?_
        refine lv_iload_n hx hb dX11_hangs_23 rfl (lv_at hl 1 rfl) ?_
        refine lv_iadd hx hb dX11_hangs_24 ?_
        refine lv_iload_n hx hb dX11_hangs_25 rfl (lv_at hl 3 rfl) ?_
        obtain ⟨g19, h⟩ := gd_ok h
        refine r_iast C hP hS (iw hw (ff_11_40 hk0).2) (ff_11_40 hk0).1 g19 dX11_hangs_26 (fun H locs hP hS => ?_)
        obtain ⟨μ18, eμ18, h⟩ := vl_ex h
        have hP : fP w μ18 H := by rw [eμ18]; exact hP
        refine lv_aload_n hx hb dX11_hangs_27 rfl (lv_at hl 0 rfl) ?_
        refine lv_iload_n hx hb dX11_hangs_28 rfl (lv_at hl 1 rfl) ?_
        refine lv_iconst (v := (1)) hx hb dX11_hangs_29 (by decide) ?_
        refine lv_iadd hx hb dX11_hangs_30 ?_
        refine lv_iload_n hx hb dX11_hangs_31 rfl (lv_at hl 2 rfl) ?_
        obtain ⟨r21, μ20, h22, h⟩ := bd_ok h
        refine go_v (callV_run (As := [.int (v1 + (1 : Int32)), .int v2]) (rest := []) C hl hP (hS.wide hJ).2.1 (iw hw (fi_11 hk0)) hk0 (hF_X11_hangs v0 (v1 + (1 : Int32)) v2 hk0 μ18 _ _ h22) mv_X11_447 hR_X11_hangs rfl rfl (Nat.le_of_ble_eq_true rfl) ⟨Nat.zero_le _, Nat.zero_le _⟩ dX11_hangs_32) hS (fun H locs hP hS => ?_)
        obtain ⟨x23, ex23⟩ : ∃ y : Int32, y = (v3 + (1 : Int32)) := ⟨_, rfl⟩
        replace h := vl_ok ex23 h
        refine lv_iinc (v := x23) (lv' := [(3, .int x23), (0, .ref (w.2.2.1 v0)), (1, .int v1), (2, .int v2)]) hx hb dX11_hangs_35 hl (k := 3) rfl (by rw [ex23]; rfl) (by decide) rfl (fun ls hl => ?_)
        refine lv_goto (tgt := 7) hx hb dX11_hangs_38 (by decide) ?_
        obtain ⟨rfl, rfl⟩ := leaf h
        exact hP0_7 rfl _ _ _ hP hS (lv_sub hl [1, 2, 3, 0] rfl)
    · obtain ⟨x26, μ27⟩ := q25
      intro H locs ls hP hS hl
      have hP : fP w μ27 H := hP
      have hl : lv_has ls 5 [] := hl
      try dsimp only at h
      exact r_vret C hr hP hS h dX11_hangs_41
def fr_X11_hangs : Nat → Nat → Int32 → Int32 → fMem → Option (Unit × fMem)
  | 0 => fun _ _ _ _ => none
  | n + 1 => f_X11_hangs_b (fr_X11_hangs n)
def rr_X11_hangs (n : Nat) : Room := { frames := 8 + n, cells := 0, slots := 0, locals := 250 + 24 * n }
theorem mr_X11_hangs (l : Launch) (w : fW) (hJ : fJ w) (hw : w.2.2.2 = sd 1) : ∀ n : Nat, ∀ (v0 : Nat) (v1 : Int32) (v2 : Int32) (_ : kd v0 = (4, 11)) (μ : fMem) (r : Unit) (μr : fMem), fr_X11_hangs n v0 v1 v2 μ = some (r, μr) → Met l yX11_hangs (.code yX11_hangs cX11_hangs 5 none :: gw) (rr_X11_hangs n) (fPc w [.ref (w.2.2.1 v0), .int v1, .int v2] μ) (fQv w μr) 0 0 (fA w)
  | 0, _, _, _, _, _, _, _, h => by cases h
  | n + 1, v0, v1, v2, h0, μ, r, μr, h => mb_X11_hangs l w hJ hw (rr_X11_hangs (n + 1)) ⟨by simp only [rr_X11_hangs]; omega, by simp only [rr_X11_hangs]; omega⟩ (mr_X11_hangs l w hJ hw n) ⟨rfl, rfl, by simp only [rr_X11_hangs]; omega, by simp only [rr_X11_hangs]; omega⟩ v0 v1 v2 h0 μ h
def f_X11_hangs (v0 : Nat) (v1 : Int32) (v2 : Int32) (μ : fMem) : Option (Unit × fMem) := fr_X11_hangs 8 v0 v1 v2 μ
def rm_X11_hangs : Room := rr_X11_hangs 8
theorem m_X11_hangs (l : Launch) (w : fW) (hJ : fJ w) (hw : w.2.2.2 = sd 1) (v0 : Nat) (v1 : Int32) (v2 : Int32) (h0 : kd v0 = (4, 11)) (μ : fMem) {r : Unit} {μr : fMem} (h : f_X11_hangs v0 v1 v2 μ = some (r, μr)) : Met l yX11_hangs (.code yX11_hangs cX11_hangs 5 none :: gw) rm_X11_hangs (fPc w [.ref (w.2.2.1 v0), .int v1, .int v2] μ) (fQv w μr) 0 0 (fA w) := mr_X11_hangs l w hJ hw 8 v0 v1 v2 h0 μ _ _ h

def f_X11_hanging (v0 : Nat) (v1 : Int32) (μ : fMem) : Option (Int32 × fMem) :=
  vl (sI μ v0 0 (0 : Int32)) fun μ1 => if v1 < 0 then some ((-1 : Int32), μ1) else if (4 : Int32) < v1 then some ((-1 : Int32), μ1) else if (μ1.1 (v0 + 2) 0) = 0 then some ((-1 : Int32), μ1) else vl (imn (4 : Int32) (μ1.1 (v0 + 2) 2)) fun x5 => bd (f_X11_copies v0 (1 : Int32) (0 : Int32) μ1) fun r7 μ6 => vl (sI μ6 v0 53 (-1 : Int32)) fun μ9 => bd (f_X11_hangs v0 (0 : Int32) x5 μ9) fun r11 μ10 => if v1 = (4 : Int32) then some ((μ10.1 v0 53), μ10) else if x5 ≤ v1 then some ((-2 : Int32), μ10) else gd (ixo v1 4) (some ((μ10.1 (v0 + 30) (Int32.toNatClampNeg v1)), μ10))
def rm_X11_hanging : Room := { frames := 17, cells := 0, slots := 0, locals := 466 }
set_option maxHeartbeats 4000000 in
set_option maxRecDepth 100000 in
theorem m_X11_hanging (l : Launch) (w : fW) (hJ : fJ w) (hw : w.2.2.2 = sd 1) (v0 : Nat) (v1 : Int32) (hk0 : kd v0 = (4, 11)) (μ : fMem) {r : Int32} {μr : fMem} (h : f_X11_hanging v0 v1 μ = some (r, μr)) : Met l yX11_hanging (.code yX11_hanging cX11_hanging 3 (some .int) :: gw) rm_X11_hanging (fPc w [.ref (w.2.2.1 v0), .int v1] μ) (fQi w r μr) 0 0 (fA w) := by
  refine met_of hJ (by decide) ?_ (Nat.le_of_ble_eq_true rfl)
  generalize ([.ref (w.2.2.1 v0), .int v1] : List Value).toArray = args
  intro p e s m below meth c ls C hr hP hl hS
  obtain ⟨hx, hb, hml, hown, hts, hK, -, hlk, hT⟩ := id C
  have hl : lv_has ls 3 [(0, .ref (w.2.2.1 v0)), (1, .int v1)] := hl
  unfold f_X11_hanging at h
  refine lv_aload_n hx hb dX11_hanging_0 rfl (lv_at hl 0 rfl) ?_
  refine lv_iconst (v := (0)) hx hb dX11_hanging_1 (by decide) ?_
  refine r_putI C hP hS (iw hw (fi_11 hk0)) hk0 fp_X11_148 rfl dX11_hanging_2 (fun H locs hP hS => ?_)
  obtain ⟨μ1, eμ1, h⟩ := vl_ex h
  have hP : fP w μ1 H := by rw [eμ1]; exact hP
  refine lv_iload_n hx hb dX11_hanging_5 rfl (lv_at hl 1 rfl) ?_
  refine lv_if_lt (tgt := 23) hx hb dX11_hanging_6 (by decide) (fun c2 => ?_) (fun c2 => ?_)
  · replace h := if_t c2 h
    refine lv_iconst (v := (-1)) hx hb dX11_hanging_23 (by decide) ?_
    exact r_iret C hr hP hS h dX11_hanging_24
  · replace h := if_f c2 h
    refine lv_iload_n hx hb dX11_hanging_9 rfl (lv_at hl 1 rfl) ?_
    refine lv_iconst (v := (4)) hx hb dX11_hanging_10 (by decide) ?_
    refine lv_icmp_gt (tgt := 23) hx hb dX11_hanging_11 (by decide) (fun c3 => ?_) (fun c3 => ?_)
    · replace h := if_t c3 h
      refine lv_iconst (v := (-1)) hx hb dX11_hanging_23 (by decide) ?_
      exact r_iret C hr hP hS h dX11_hanging_24
    · replace h := if_f c3 h
      refine lv_aload_n hx hb dX11_hanging_14 rfl (lv_at hl 0 rfl) ?_
      refine r_getF (off := 2) C hP (iw hw (fi_11 hk0)) hk0 fl_X11_13 rfl rfl (zw hw) dX11_hanging_15 ?_
      refine lv_iconst (v := (0)) hx hb dX11_hanging_18 (by decide) ?_
      refine n_iald (j := 0) C hP (iw hw (ff_11_3 hk0).2) (ff_11_3 hk0).1 (by decide) (by decide) dX11_hanging_19 ?_
      refine lv_if_ne (tgt := 25) hx hb dX11_hanging_20 (by decide) (fun c4 => ?_) (fun c4 => ?_)
      · replace h := if_f c4 h
        refine lv_iconst (v := (4)) hx hb dX11_hanging_25 (by decide) ?_
        refine lv_aload_n hx hb dX11_hanging_26 rfl (lv_at hl 0 rfl) ?_
        refine r_getF (off := 2) C hP (iw hw (fi_11 hk0)) hk0 fl_X11_13 rfl rfl (zw hw) dX11_hanging_27 ?_
        refine lv_iconst (v := (2)) hx hb dX11_hanging_30 (by decide) ?_
        refine n_iald (j := 2) C hP (iw hw (ff_11_3 hk0).2) (ff_11_3 hk0).1 (by decide) (by decide) dX11_hanging_31 ?_
        refine b_mmin (rest := []) C hl mm_X11_456 (by decide) (Nat.le_of_ble_eq_true rfl) dX11_hanging_32 ?_
        refine lv_topi (fun x5 ex5 => ?_)
        replace h := vl_ok ex5 h
        refine lv_istore_n (lv' := [(2, .int x5), (0, .ref (w.2.2.1 v0)), (1, .int v1)]) hx hb dX11_hanging_35 rfl hl (by decide) rfl (fun ls hl => ?_)
        refine lv_aload_n hx hb dX11_hanging_36 rfl (lv_at hl 1 rfl) ?_
        refine lv_iconst (v := (1)) hx hb dX11_hanging_37 (by decide) ?_
        refine lv_iconst (v := (0)) hx hb dX11_hanging_38 (by decide) ?_
        obtain ⟨r7, μ6, h8, h⟩ := bd_ok h
        refine go_v (callV_run (As := [.int (1 : Int32), .int (0 : Int32)]) (rest := []) C hl hP (hS.wide hJ).2.1 (iw hw (fi_11 hk0)) hk0 (m_X11_copies l w hJ hw v0 (1 : Int32) (0 : Int32) hk0 μ1 h8) mv_X11_403 ⟨rfl, rfl, by decide, by decide⟩ rfl rfl (Nat.le_of_ble_eq_true rfl) ⟨Nat.zero_le _, Nat.zero_le _⟩ dX11_hanging_39) hS (fun H locs hP hS => ?_)
        refine lv_aload_n hx hb dX11_hanging_42 rfl (lv_at hl 1 rfl) ?_
        refine lv_iconst (v := (-1)) hx hb dX11_hanging_43 (by decide) ?_
        refine r_putI C hP hS (iw hw (fi_11 hk0)) hk0 fp_X11_453 rfl dX11_hanging_44 (fun H locs hP hS => ?_)
        obtain ⟨μ9, eμ9, h⟩ := vl_ex h
        have hP : fP w μ9 H := by rw [eμ9]; exact hP
        refine lv_aload_n hx hb dX11_hanging_47 rfl (lv_at hl 1 rfl) ?_
        refine lv_iconst (v := (0)) hx hb dX11_hanging_48 (by decide) ?_
        refine lv_iload_n hx hb dX11_hanging_49 rfl (lv_at hl 0 rfl) ?_
        obtain ⟨r11, μ10, h12, h⟩ := bd_ok h
        refine go_v (callV_run (As := [.int (0 : Int32), .int x5]) (rest := []) C hl hP (hS.wide hJ).2.1 (iw hw (fi_11 hk0)) hk0 (m_X11_hangs l w hJ hw v0 (0 : Int32) x5 hk0 μ9 h12) mv_X11_447 ⟨rfl, rfl, by decide, by decide⟩ rfl rfl (Nat.le_of_ble_eq_true rfl) ⟨Nat.zero_le _, Nat.zero_le _⟩ dX11_hanging_50) hS (fun H locs hP hS => ?_)
        refine lv_iload_n hx hb dX11_hanging_53 rfl (lv_at hl 2 rfl) ?_
        refine lv_iconst (v := (4)) hx hb dX11_hanging_54 (by decide) ?_
        refine lv_icmp_ne (tgt := 65) hx hb dX11_hanging_55 (by decide) (fun c13 => ?_) (fun c13 => ?_)
        · replace h := if_f c13 h
          refine lv_iload_n hx hb dX11_hanging_65 rfl (lv_at hl 2 rfl) ?_
          refine lv_iload_n hx hb dX11_hanging_66 rfl (lv_at hl 0 rfl) ?_
          refine lv_icmp_ge (tgt := 79) hx hb dX11_hanging_67 (by decide) (fun c14 => ?_) (fun c14 => ?_)
          · replace h := if_t c14 h
            refine lv_bipush (v := (-2)) hx hb dX11_hanging_79 (by decide) ?_
            exact r_iret C hr hP hS h dX11_hanging_81
          · replace h := if_f c14 h
            refine lv_aload_n hx hb dX11_hanging_70 rfl (lv_at hl 1 rfl) ?_
            refine r_getF (off := 30) C hP (iw hw (fi_11 hk0)) hk0 fl_X11_111 rfl rfl (zw hw) dX11_hanging_71 ?_
            refine lv_iload_n hx hb dX11_hanging_74 rfl (lv_at hl 2 rfl) ?_
            obtain ⟨g15, h⟩ := gd_ok h
            refine r_iald C hP (iw hw (ff_11_52 hk0).2) (ff_11_52 hk0).1 g15 dX11_hanging_75 ?_
            refine lv_goto (tgt := 81) hx hb dX11_hanging_76 (by decide) ?_
            exact r_iret C hr hP hS h dX11_hanging_81
        · replace h := if_t c13 h
          refine lv_aload_n hx hb dX11_hanging_58 rfl (lv_at hl 1 rfl) ?_
          refine r_getI C hP (iw hw (fi_11 hk0)) hk0 fl_X11_453 (Or.inl rfl) dX11_hanging_59 ?_
          refine lv_goto (tgt := 81) hx hb dX11_hanging_62 (by decide) ?_
          exact r_iret C hr hP hS h dX11_hanging_81
      · replace h := if_t c4 h
        refine lv_iconst (v := (-1)) hx hb dX11_hanging_23 (by decide) ?_
        exact r_iret C hr hP hS h dX11_hanging_24

def f_X11_steer_L28 (v0 : Nat) (v1 : Int32) (v2 : Int32) (v3 : Int32) (v4 : Int32) (μ : fMem) : Option (Nat × (Int32 × Int32 × fMem)) :=
  if (μ.1 (v0 + 2) 2) ≤ v4 then some (1, (v3, v4, μ)) else gd (ixo v4 184) (if (μ.1 (v0 + 25) (Int32.toNatClampNeg v4)) = v2 then vl (v3 ||| (0 : Int32)) fun x15 => vl (v4 + (1 : Int32)) fun x16 => some (0, (x15, x16, μ)) else vl (v3 ||| (shl (1 : Int32) v4)) fun x13 => vl (v4 + (1 : Int32)) fun x14 => some (0, (x13, x14, μ)))
def f_X11_steer_L119 (v0 : Nat) (v1 : Int32) (v2 : Int32) (x19 : Int32) (v4 : Int32) (v5 : Int32) (v6 : Int32) (μ : fMem) : Option (Nat × (Int32 × fMem)) :=
  if (μ.1 (v0 + 2) 2) ≤ v6 then some (1, (v6, μ)) else if ((shr v5 v6) &&& (1 : Int32)) = (1 : Int32) then gd (ixo ((8 : Int32) + v6) 184) (vl (sI μ (v0 + 25) (Int32.toNatClampNeg ((8 : Int32) + v6)) v2) fun μ40 => vl (v6 + (1 : Int32)) fun x42 => some (0, (x42, μ40))) else vl (v6 + (1 : Int32)) fun x39 => some (0, (x39, μ))
def f_X11_steer_j110 (v0 : Nat) (v1 : Int32) (v2 : Int32) (x19 : Int32) (v4 : Int32) (v5 : Int32) (μ : fMem) : Option (Nat × (Int32 × Int32 × fMem)) :=
  bd (f_X11_copies v0 (1 : Int32) (0 : Int32) μ) fun r35 μ34 => bd (lpn (fun (q : Int32 × fMem) => f_X11_steer_L119 v0 v1 v2 x19 v4 v5 q.1 q.2) fuel ((0 : Int32), μ34)) fun t43 q44 => (fun (x45 : Int32) (μ46 : fMem) => bd (f_X11_seatOf v0 (1 : Int32) v1 μ46) fun r48 μ47 => if r48 = v2 then vl (v5 + (1 : Int32)) fun x52 => some (0, (v5, x52, μ47)) else vl (v5 + (1 : Int32)) fun x51 => some (0, (v4, x51, μ47))) q44.1 q44.2
def f_X11_steer_L74 (v0 : Nat) (v1 : Int32) (v2 : Int32) (x19 : Int32) (v4 : Int32) (v5 : Int32) (μ : fMem) : Option (Nat × (Int32 × Int32 × fMem)) :=
  if x19 < v5 then some (1, (v4, v5, μ)) else if (v5 &&& (x19 ^^^ (-1 : Int32))) = 0 then if v4 < 0 then f_X11_steer_j110 v0 v1 v2 x19 v4 v5 μ else bd (f_X11_bitsOf v5 μ) fun r27 μ26 => bd (f_X11_bitsOf v4 μ26) fun r30 μ29 => if r27 < r30 then f_X11_steer_j110 v0 v1 v2 x19 v4 v5 μ29 else vl (v5 + (1 : Int32)) fun x33 => some (0, (v4, x33, μ29)) else vl (v5 + (1 : Int32)) fun x24 => some (0, (v4, x24, μ))
def f_X11_steer (v0 : Nat) (v1 : Int32) (v2 : Int32) (μ : fMem) : Option (Int32 × fMem) :=
  vl (sI μ v0 0 (0 : Int32)) fun μ1 => bd (f_X11_isDead v0 v1 μ1) fun r3 μ2 => if r3 = 0 then some ((-1 : Int32), μ2) else bd (f_X11_isRoom v0 v2 μ2) fun r7 μ6 => if r7 = 0 then some ((-1 : Int32), μ6) else bd (lpn (fun (q : Int32 × Int32 × fMem) => f_X11_steer_L28 v0 v1 v2 q.1 q.2.1 q.2.2) fuel ((0 : Int32), (0 : Int32), μ6)) fun t17 q18 => (fun (x19 : Int32) (x20 : Int32) (μ21 : fMem) => bd (lpn (fun (q : Int32 × Int32 × fMem) => f_X11_steer_L74 v0 v1 v2 x19 q.1 q.2.1 q.2.2) fuel ((-2 : Int32), (0 : Int32), μ21)) fun t54 q55 => (fun (x56 : Int32) (x57 : Int32) (μ58 : fMem) => some (x56, μ58)) q55.1 q55.2.1 q55.2.2) q18.1 q18.2.1 q18.2.2
def rm_X11_steer : Room := { frames := 7, cells := 0, slots := 0, locals := 227 }
set_option maxHeartbeats 4000000 in
set_option maxRecDepth 100000 in
theorem m_X11_steer (l : Launch) (w : fW) (hJ : fJ w) (hw : w.2.2.2 = sd 1) (v0 : Nat) (v1 : Int32) (v2 : Int32) (hk0 : kd v0 = (4, 11)) (μ : fMem) {r : Int32} {μr : fMem} (h : f_X11_steer v0 v1 v2 μ = some (r, μr)) : Met l yX11_steer (.code yX11_steer cX11_steer 7 (some .int) :: gw) rm_X11_steer (fPc w [.ref (w.2.2.1 v0), .int v1, .int v2] μ) (fQi w r μr) 0 0 (fA w) := by
  refine met_of hJ (by decide) ?_ (Nat.le_of_ble_eq_true rfl)
  generalize ([.ref (w.2.2.1 v0), .int v1, .int v2] : List Value).toArray = args
  intro p e s m below meth c ls C hr hP hl hS
  obtain ⟨hx, hb, hml, hown, hts, hK, -, hlk, hT⟩ := id C
  have hl : lv_has ls 7 [(0, .ref (w.2.2.1 v0)), (1, .int v1), (2, .int v2)] := hl
  unfold f_X11_steer at h
  refine lv_aload_n hx hb dX11_steer_0 rfl (lv_at hl 0 rfl) ?_
  refine lv_iconst (v := (0)) hx hb dX11_steer_1 (by decide) ?_
  refine r_putI C hP hS (iw hw (fi_11 hk0)) hk0 fp_X11_148 rfl dX11_steer_2 (fun H locs hP hS => ?_)
  obtain ⟨μ1, eμ1, h⟩ := vl_ex h
  have hP : fP w μ1 H := by rw [eμ1]; exact hP
  refine lv_aload_n hx hb dX11_steer_5 rfl (lv_at hl 0 rfl) ?_
  refine lv_iload_n hx hb dX11_steer_6 rfl (lv_at hl 1 rfl) ?_
  obtain ⟨r3, μ2, h4, h⟩ := bd_ok h
  refine go_i (callV_run (As := [.int v1]) (rest := []) C hl hP (hS.wide hJ).2.1 (iw hw (fi_11 hk0)) hk0 (m_X11_isDead l w hJ hw v0 v1 hk0 μ1 h4) mv_X11_428 ⟨rfl, rfl, by decide, by decide⟩ rfl rfl (Nat.le_of_ble_eq_true rfl) ⟨Nat.zero_le _, Nat.zero_le _⟩ dX11_steer_7) hS (fun H locs hP hS => ?_)
  refine lv_if_eq (tgt := 21) hx hb dX11_steer_10 (by decide) (fun c5 => ?_) (fun c5 => ?_)
  · replace h := if_t c5 h
    refine lv_iconst (v := (-1)) hx hb dX11_steer_21 (by decide) ?_
    exact r_iret C hr hP hS h dX11_steer_22
  · replace h := if_f c5 h
    refine lv_aload_n hx hb dX11_steer_13 rfl (lv_at hl 0 rfl) ?_
    refine lv_iload_n hx hb dX11_steer_14 rfl (lv_at hl 2 rfl) ?_
    obtain ⟨r7, μ6, h8, h⟩ := bd_ok h
    refine go_i (callV_run (As := [.int v2]) (rest := []) C hl hP (hS.wide hJ).2.1 (iw hw (fi_11 hk0)) hk0 (m_X11_isRoom l w hJ hw v0 v2 hk0 μ2 h8) mv_X11_419 ⟨rfl, rfl, by decide, by decide⟩ rfl rfl (Nat.le_of_ble_eq_true rfl) ⟨Nat.zero_le _, Nat.zero_le _⟩ dX11_steer_15) hS (fun H locs hP hS => ?_)
    refine lv_if_ne (tgt := 23) hx hb dX11_steer_18 (by decide) (fun c9 => ?_) (fun c9 => ?_)
    · replace h := if_f c9 h
      refine lv_iconst (v := (0)) hx hb dX11_steer_23 (by decide) ?_
      refine lv_istore_n (lv' := [(3, .int (0 : Int32)), (0, .ref (w.2.2.1 v0)), (1, .int v1), (2, .int v2)]) hx hb dX11_steer_24 rfl hl (by decide) rfl (fun ls hl => ?_)
      refine lv_iconst (v := (0)) hx hb dX11_steer_25 (by decide) ?_
      refine lv_istore (lv' := [(4, .int (0 : Int32)), (3, .int (0 : Int32)), (0, .ref (w.2.2.1 v0)), (1, .int v1), (2, .int v2)]) hx hb dX11_steer_26 hl (by decide) rfl (fun ls hl => ?_)
      obtain ⟨t17, q18, h60, h⟩ := bd_ok h
      refine lpn_ind (b := (fun (q : Int32 × Int32 × fMem) => f_X11_steer_L28 v0 v1 v2 q.1 q.2.1 q.2.2)) (P := fun (q : Int32 × Int32 × fMem) => WW p l e rm_X11_steer s m args below meth c (MQ below (fQi w r μr) args s 0 0 (fA w)) w q.2.2 7 28 [] [(0, .ref (w.2.2.1 v0)), (1, .int v1), (2, .int v2), (3, .int q.1), (4, .int q.2.1)]) (K := fun _ (q : Int32 × Int32 × fMem) => WW p l e rm_X11_steer s m args below meth c (MQ below (fQi w r μr) args s 0 0 (fA w)) w q.2.2 7 67 [] [(0, .ref (w.2.2.1 v0)), (1, .int v1), (2, .int v2), (3, .int q.1)]) ?_ fuel ((0 : Int32), (0 : Int32), μ6) t17 q18 h60 ?_ _ _ _ hP hS (lv_sub hl [2, 3, 4, 1, 0] rfl)
      · intro q tz28 sz28 h hP0_28 hK0_28 H locs ls hP hS hl
        obtain ⟨v3, v4, μ⟩ := q
        have hP : fP w μ H := hP
        have hl : lv_has ls 7 [(0, .ref (w.2.2.1 v0)), (1, .int v1), (2, .int v2), (3, .int v3), (4, .int v4)] := hl
        have h : f_X11_steer_L28 v0 v1 v2 v3 v4 μ = some (tz28, sz28) := h
        unfold f_X11_steer_L28 at h
        refine lv_iload hx hb dX11_steer_28 (lv_at hl 4 rfl) ?_
        refine lv_aload_n hx hb dX11_steer_30 rfl (lv_at hl 0 rfl) ?_
        refine r_getF (off := 2) C hP (iw hw (fi_11 hk0)) hk0 fl_X11_13 rfl rfl (zw hw) dX11_steer_31 ?_
        refine lv_iconst (v := (2)) hx hb dX11_steer_34 (by decide) ?_
        refine n_iald (j := 2) C hP (iw hw (ff_11_3 hk0).2) (ff_11_3 hk0).1 (by decide) (by decide) dX11_steer_35 ?_
        refine lv_icmp_ge (tgt := 67) hx hb dX11_steer_36 (by decide) (fun c10 => ?_) (fun c10 => ?_)
        · replace h := if_t c10 h
          obtain ⟨rfl, rfl⟩ := leaf h
          exact (hK0_28 0 rfl) _ _ _ hP hS (lv_sub hl [0, 1, 2, 3] rfl)
        · replace h := if_f c10 h
          refine lv_iload_n hx hb dX11_steer_39 rfl (lv_at hl 3 rfl) ?_
          refine lv_aload_n hx hb dX11_steer_40 rfl (lv_at hl 0 rfl) ?_
          refine r_getF (off := 25) C hP (iw hw (fi_11 hk0)) hk0 fl_X11_87 rfl rfl (zw hw) dX11_steer_41 ?_
          refine lv_iload hx hb dX11_steer_44 (lv_at hl 4 rfl) ?_
          obtain ⟨g11, h⟩ := gd_ok h
          refine r_iald C hP (iw hw (ff_11_40 hk0).2) (ff_11_40 hk0).1 g11 dX11_steer_46 ?_
          refine lv_iload_n hx hb dX11_steer_47 rfl (lv_at hl 2 rfl) ?_
          refine lv_icmp_ne (tgt := 55) hx hb dX11_steer_48 (by decide) (fun c12 => ?_) (fun c12 => ?_)
          · replace h := if_f c12 h
            refine lv_iconst (v := (1)) hx hb dX11_steer_55 (by decide) ?_
            refine lv_iload hx hb dX11_steer_56 (lv_at hl 4 rfl) ?_
            refine r_ishl hx hb dX11_steer_58 ?_
            refine lv_ior hx hb dX11_steer_59 ?_
            refine lv_topi (fun x13 ex13 => ?_)
            replace h := vl_ok ex13 h
            refine lv_istore_n (lv' := [(3, .int x13), (0, .ref (w.2.2.1 v0)), (1, .int v1), (2, .int v2), (4, .int v4)]) hx hb dX11_steer_60 rfl hl (by decide) rfl (fun ls hl => ?_)
            obtain ⟨x14, ex14⟩ : ∃ y : Int32, y = (v4 + (1 : Int32)) := ⟨_, rfl⟩
            replace h := vl_ok ex14 h
            refine lv_iinc (v := x14) (lv' := [(4, .int x14), (3, .int x13), (0, .ref (w.2.2.1 v0)), (1, .int v1), (2, .int v2)]) hx hb dX11_steer_61 hl (k := 4) rfl (by rw [ex14]; rfl) (by decide) rfl (fun ls hl => ?_)
            refine lv_goto (tgt := 28) hx hb dX11_steer_64 (by decide) ?_
            obtain ⟨rfl, rfl⟩ := leaf h
            exact hP0_28 rfl _ _ _ hP hS (lv_sub hl [2, 3, 4, 1, 0] rfl)
          · replace h := if_t c12 h
            refine lv_iconst (v := (0)) hx hb dX11_steer_51 (by decide) ?_
            refine lv_goto (tgt := 59) hx hb dX11_steer_52 (by decide) ?_
            refine lv_ior hx hb dX11_steer_59 ?_
            refine lv_topi (fun x15 ex15 => ?_)
            replace h := vl_ok ex15 h
            refine lv_istore_n (lv' := [(3, .int x15), (0, .ref (w.2.2.1 v0)), (1, .int v1), (2, .int v2), (4, .int v4)]) hx hb dX11_steer_60 rfl hl (by decide) rfl (fun ls hl => ?_)
            obtain ⟨x16, ex16⟩ : ∃ y : Int32, y = (v4 + (1 : Int32)) := ⟨_, rfl⟩
            replace h := vl_ok ex16 h
            refine lv_iinc (v := x16) (lv' := [(4, .int x16), (3, .int x15), (0, .ref (w.2.2.1 v0)), (1, .int v1), (2, .int v2)]) hx hb dX11_steer_61 hl (k := 4) rfl (by rw [ex16]; rfl) (by decide) rfl (fun ls hl => ?_)
            refine lv_goto (tgt := 28) hx hb dX11_steer_64 (by decide) ?_
            obtain ⟨rfl, rfl⟩ := leaf h
            exact hP0_28 rfl _ _ _ hP hS (lv_sub hl [2, 3, 4, 1, 0] rfl)
      · obtain ⟨x19, x20, μ21⟩ := q18
        intro H locs ls hP hS hl
        have hP : fP w μ21 H := hP
        have hl : lv_has ls 7 [(0, .ref (w.2.2.1 v0)), (1, .int v1), (2, .int v2), (3, .int x19)] := hl
        try dsimp only at h
        refine lv_bipush (v := (-2)) hx hb dX11_steer_67 (by decide) ?_
        refine lv_istore (lv' := [(4, .int (-2 : Int32)), (0, .ref (w.2.2.1 v0)), (1, .int v1), (2, .int v2), (3, .int x19)]) hx hb dX11_steer_69 hl (by decide) rfl (fun ls hl => ?_)
        refine lv_iconst (v := (0)) hx hb dX11_steer_71 (by decide) ?_
        refine lv_istore (lv' := [(5, .int (0 : Int32)), (4, .int (-2 : Int32)), (0, .ref (w.2.2.1 v0)), (1, .int v1), (2, .int v2), (3, .int x19)]) hx hb dX11_steer_72 hl (by decide) rfl (fun ls hl => ?_)
        obtain ⟨t54, q55, h59, h⟩ := bd_ok h
        refine lpn_ind (b := (fun (q : Int32 × Int32 × fMem) => f_X11_steer_L74 v0 v1 v2 x19 q.1 q.2.1 q.2.2)) (P := fun (q : Int32 × Int32 × fMem) => WW p l e rm_X11_steer s m args below meth c (MQ below (fQi w r μr) args s 0 0 (fA w)) w q.2.2 7 74 [] [(0, .ref (w.2.2.1 v0)), (1, .int v1), (2, .int v2), (3, .int x19), (4, .int q.1), (5, .int q.2.1)]) (K := fun _ (q : Int32 × Int32 × fMem) => WW p l e rm_X11_steer s m args below meth c (MQ below (fQi w r μr) args s 0 0 (fA w)) w q.2.2 7 178 [] [(4, .int q.1)]) ?_ fuel ((-2 : Int32), (0 : Int32), μ21) t54 q55 h59 ?_ _ _ _ hP hS (lv_sub hl [2, 3, 4, 5, 1, 0] rfl)
        · intro q tz74 sz74 h hP0_74 hK0_74 H locs ls hP hS hl
          obtain ⟨v4, v5, μ⟩ := q
          have hP : fP w μ H := hP
          have hl : lv_has ls 7 [(0, .ref (w.2.2.1 v0)), (1, .int v1), (2, .int v2), (3, .int x19), (4, .int v4), (5, .int v5)] := hl
          have h : f_X11_steer_L74 v0 v1 v2 x19 v4 v5 μ = some (tz74, sz74) := h
          unfold f_X11_steer_L74 at h
          have J110 : ∀ (v4 : Int32) (v5 : Int32) (μ : fMem), f_X11_steer_j110 v0 v1 v2 x19 v4 v5 μ = some (tz74, sz74) → WW p l e rm_X11_steer s m args below meth c (MQ below (fQi w r μr) args s 0 0 (fA w)) w μ 7 110 [] [(0, .ref (w.2.2.1 v0)), (1, .int v1), (2, .int v2), (3, .int x19), (4, .int v4), (5, .int v5)] := by
            intro v4 v5 μ  h H locs ls hP hS hl
            unfold f_X11_steer_j110 at h
            refine lv_aload_n hx hb dX11_steer_110 rfl (lv_at hl 0 rfl) ?_
            refine lv_iconst (v := (1)) hx hb dX11_steer_111 (by decide) ?_
            refine lv_iconst (v := (0)) hx hb dX11_steer_112 (by decide) ?_
            obtain ⟨r35, μ34, h36, h⟩ := bd_ok h
            refine go_v (callV_run (As := [.int (1 : Int32), .int (0 : Int32)]) (rest := []) C hl hP (hS.wide hJ).2.1 (iw hw (fi_11 hk0)) hk0 (m_X11_copies l w hJ hw v0 (1 : Int32) (0 : Int32) hk0 μ h36) mv_X11_403 ⟨rfl, rfl, by decide, by decide⟩ rfl rfl (Nat.le_of_ble_eq_true rfl) ⟨Nat.zero_le _, Nat.zero_le _⟩ dX11_steer_113) hS (fun H locs hP hS => ?_)
            refine lv_iconst (v := (0)) hx hb dX11_steer_116 (by decide) ?_
            refine lv_istore (lv' := [(6, .int (0 : Int32)), (0, .ref (w.2.2.1 v0)), (1, .int v1), (2, .int v2), (3, .int x19), (4, .int v4), (5, .int v5)]) hx hb dX11_steer_117 hl (by decide) rfl (fun ls hl => ?_)
            obtain ⟨t43, q44, h53, h⟩ := bd_ok h
            refine lpn_ind (b := (fun (q : Int32 × fMem) => f_X11_steer_L119 v0 v1 v2 x19 v4 v5 q.1 q.2)) (P := fun (q : Int32 × fMem) => WW p l e rm_X11_steer s m args below meth c (MQ below (fQi w r μr) args s 0 0 (fA w)) w q.2 7 119 [] [(0, .ref (w.2.2.1 v0)), (1, .int v1), (2, .int v2), (3, .int x19), (4, .int v4), (5, .int v5), (6, .int q.1)]) (K := fun _ (q : Int32 × fMem) => WW p l e rm_X11_steer s m args below meth c (MQ below (fQi w r μr) args s 0 0 (fA w)) w q.2 7 158 [] [(0, .ref (w.2.2.1 v0)), (1, .int v1), (2, .int v2), (3, .int x19), (4, .int v4), (5, .int v5)]) ?_ fuel ((0 : Int32), μ34) t43 q44 h53 ?_ _ _ _ hP hS (lv_sub hl [1, 2, 3, 4, 5, 6, 0] rfl)
            · intro q tz119 sz119 h hP0_119 hK0_119 H locs ls hP hS hl
              obtain ⟨v6, μ⟩ := q
              have hP : fP w μ H := hP
              have hl : lv_has ls 7 [(0, .ref (w.2.2.1 v0)), (1, .int v1), (2, .int v2), (3, .int x19), (4, .int v4), (5, .int v5), (6, .int v6)] := hl
              have h : f_X11_steer_L119 v0 v1 v2 x19 v4 v5 v6 μ = some (tz119, sz119) := h
              unfold f_X11_steer_L119 at h
              refine lv_iload hx hb dX11_steer_119 (lv_at hl 6 rfl) ?_
              refine lv_aload_n hx hb dX11_steer_121 rfl (lv_at hl 0 rfl) ?_
              refine r_getF (off := 2) C hP (iw hw (fi_11 hk0)) hk0 fl_X11_13 rfl rfl (zw hw) dX11_steer_122 ?_
              refine lv_iconst (v := (2)) hx hb dX11_steer_125 (by decide) ?_
              refine n_iald (j := 2) C hP (iw hw (ff_11_3 hk0).2) (ff_11_3 hk0).1 (by decide) (by decide) dX11_steer_126 ?_
              refine lv_icmp_ge (tgt := 158) hx hb dX11_steer_127 (by decide) (fun c37 => ?_) (fun c37 => ?_)
              · replace h := if_t c37 h
                obtain ⟨rfl, rfl⟩ := leaf h
                exact (hK0_119 0 rfl) _ _ _ hP hS (lv_sub hl [0, 1, 2, 3, 4, 5] rfl)
              · replace h := if_f c37 h
                refine lv_iload hx hb dX11_steer_130 (lv_at hl 5 rfl) ?_
                refine lv_iload hx hb dX11_steer_132 (lv_at hl 6 rfl) ?_
                refine r_ishr hx hb dX11_steer_134 ?_
                refine lv_iconst (v := (1)) hx hb dX11_steer_135 (by decide) ?_
                refine lv_iand hx hb dX11_steer_136 ?_
                refine lv_iconst (v := (1)) hx hb dX11_steer_137 (by decide) ?_
                refine lv_icmp_ne (tgt := 152) hx hb dX11_steer_138 (by decide) (fun c38 => ?_) (fun c38 => ?_)
                · replace h := if_f c38 h
                  obtain ⟨x39, ex39⟩ : ∃ y : Int32, y = (v6 + (1 : Int32)) := ⟨_, rfl⟩
                  replace h := vl_ok ex39 h
                  refine lv_iinc (v := x39) (lv' := [(6, .int x39), (0, .ref (w.2.2.1 v0)), (1, .int v1), (2, .int v2), (3, .int x19), (4, .int v4), (5, .int v5)]) hx hb dX11_steer_152 hl (k := 6) rfl (by rw [ex39]; rfl) (by decide) rfl (fun ls hl => ?_)
                  refine lv_goto (tgt := 119) hx hb dX11_steer_155 (by decide) ?_
                  obtain ⟨rfl, rfl⟩ := leaf h
                  exact hP0_119 rfl _ _ _ hP hS (lv_sub hl [1, 2, 3, 4, 5, 6, 0] rfl)
                · replace h := if_t c38 h
                  refine lv_aload_n hx hb dX11_steer_141 rfl (lv_at hl 0 rfl) ?_
                  refine r_getF (off := 25) C hP (iw hw (fi_11 hk0)) hk0 fl_X11_87 rfl rfl (zw hw) dX11_steer_142 ?_
                  refine lv_bipush (v := (8)) hx hb dX11_steer_145 (by decide) ?_
                  refine lv_iload hx hb dX11_steer_147 (lv_at hl 6 rfl) ?_
                  refine lv_iadd hx hb dX11_steer_149 ?_
                  refine lv_iload_n hx hb dX11_steer_150 rfl (lv_at hl 2 rfl) ?_
                  obtain ⟨g41, h⟩ := gd_ok h
                  refine r_iast C hP hS (iw hw (ff_11_40 hk0).2) (ff_11_40 hk0).1 g41 dX11_steer_151 (fun H locs hP hS => ?_)
                  obtain ⟨μ40, eμ40, h⟩ := vl_ex h
                  have hP : fP w μ40 H := by rw [eμ40]; exact hP
                  obtain ⟨x42, ex42⟩ : ∃ y : Int32, y = (v6 + (1 : Int32)) := ⟨_, rfl⟩
                  replace h := vl_ok ex42 h
                  refine lv_iinc (v := x42) (lv' := [(6, .int x42), (0, .ref (w.2.2.1 v0)), (1, .int v1), (2, .int v2), (3, .int x19), (4, .int v4), (5, .int v5)]) hx hb dX11_steer_152 hl (k := 6) rfl (by rw [ex42]; rfl) (by decide) rfl (fun ls hl => ?_)
                  refine lv_goto (tgt := 119) hx hb dX11_steer_155 (by decide) ?_
                  obtain ⟨rfl, rfl⟩ := leaf h
                  exact hP0_119 rfl _ _ _ hP hS (lv_sub hl [1, 2, 3, 4, 5, 6, 0] rfl)
            · obtain ⟨x45, μ46⟩ := q44
              intro H locs ls hP hS hl
              have hP : fP w μ46 H := hP
              have hl : lv_has ls 7 [(0, .ref (w.2.2.1 v0)), (1, .int v1), (2, .int v2), (3, .int x19), (4, .int v4), (5, .int v5)] := hl
              try dsimp only at h
              refine lv_aload_n hx hb dX11_steer_158 rfl (lv_at hl 0 rfl) ?_
              refine lv_iconst (v := (1)) hx hb dX11_steer_159 (by decide) ?_
              refine lv_iload_n hx hb dX11_steer_160 rfl (lv_at hl 1 rfl) ?_
              obtain ⟨r48, μ47, h49, h⟩ := bd_ok h
              refine go_i (callV_run (As := [.int (1 : Int32), .int v1]) (rest := []) C hl hP (hS.wide hJ).2.1 (iw hw (fi_11 hk0)) hk0 (m_X11_seatOf l w hJ hw v0 (1 : Int32) v1 hk0 μ46 h49) mv_X11_391 ⟨rfl, rfl, by decide, by decide⟩ rfl rfl (Nat.le_of_ble_eq_true rfl) ⟨Nat.zero_le _, Nat.zero_le _⟩ dX11_steer_161) hS (fun H locs hP hS => ?_)
              refine lv_iload_n hx hb dX11_steer_164 rfl (lv_at hl 2 rfl) ?_
              refine lv_icmp_ne (tgt := 172) hx hb dX11_steer_165 (by decide) (fun c50 => ?_) (fun c50 => ?_)
              · replace h := if_f c50 h
                obtain ⟨x51, ex51⟩ : ∃ y : Int32, y = (v5 + (1 : Int32)) := ⟨_, rfl⟩
                replace h := vl_ok ex51 h
                refine lv_iinc (v := x51) (lv' := [(5, .int x51), (0, .ref (w.2.2.1 v0)), (1, .int v1), (2, .int v2), (3, .int x19), (4, .int v4)]) hx hb dX11_steer_172 hl (k := 5) rfl (by rw [ex51]; rfl) (by decide) rfl (fun ls hl => ?_)
                refine lv_goto (tgt := 74) hx hb dX11_steer_175 (by decide) ?_
                obtain ⟨rfl, rfl⟩ := leaf h
                exact hP0_74 rfl _ _ _ hP hS (lv_sub hl [1, 2, 3, 4, 5, 0] rfl)
              · replace h := if_t c50 h
                refine lv_iload hx hb dX11_steer_168 (lv_at hl 5 rfl) ?_
                refine lv_istore (lv' := [(4, .int v5), (0, .ref (w.2.2.1 v0)), (1, .int v1), (2, .int v2), (3, .int x19), (5, .int v5)]) hx hb dX11_steer_170 hl (by decide) rfl (fun ls hl => ?_)
                obtain ⟨x52, ex52⟩ : ∃ y : Int32, y = (v5 + (1 : Int32)) := ⟨_, rfl⟩
                replace h := vl_ok ex52 h
                refine lv_iinc (v := x52) (lv' := [(5, .int x52), (4, .int v5), (0, .ref (w.2.2.1 v0)), (1, .int v1), (2, .int v2), (3, .int x19)]) hx hb dX11_steer_172 hl (k := 5) rfl (by rw [ex52]; rfl) (by decide) rfl (fun ls hl => ?_)
                refine lv_goto (tgt := 74) hx hb dX11_steer_175 (by decide) ?_
                obtain ⟨rfl, rfl⟩ := leaf h
                exact hP0_74 rfl _ _ _ hP hS (lv_sub hl [2, 3, 4, 5, 1, 0] rfl)
          refine lv_iload hx hb dX11_steer_74 (lv_at hl 5 rfl) ?_
          refine lv_iload_n hx hb dX11_steer_76 rfl (lv_at hl 3 rfl) ?_
          refine lv_icmp_gt (tgt := 178) hx hb dX11_steer_77 (by decide) (fun c22 => ?_) (fun c22 => ?_)
          · replace h := if_t c22 h
            obtain ⟨rfl, rfl⟩ := leaf h
            exact (hK0_74 0 rfl) _ _ _ hP hS (lv_sub hl [4] rfl)
          · replace h := if_f c22 h
            refine lv_iload hx hb dX11_steer_80 (lv_at hl 5 rfl) ?_
            refine lv_iload_n hx hb dX11_steer_82 rfl (lv_at hl 3 rfl) ?_
            refine lv_iconst (v := (-1)) hx hb dX11_steer_83 (by decide) ?_
            refine lv_ixor hx hb dX11_steer_84 ?_
            refine lv_iand hx hb dX11_steer_85 ?_
            refine lv_if_ne (tgt := 172) hx hb dX11_steer_86 (by decide) (fun c23 => ?_) (fun c23 => ?_)
            · replace h := if_f c23 h
              obtain ⟨x24, ex24⟩ : ∃ y : Int32, y = (v5 + (1 : Int32)) := ⟨_, rfl⟩
              replace h := vl_ok ex24 h
              refine lv_iinc (v := x24) (lv' := [(5, .int x24), (0, .ref (w.2.2.1 v0)), (1, .int v1), (2, .int v2), (3, .int x19), (4, .int v4)]) hx hb dX11_steer_172 hl (k := 5) rfl (by rw [ex24]; rfl) (by decide) rfl (fun ls hl => ?_)
              refine lv_goto (tgt := 74) hx hb dX11_steer_175 (by decide) ?_
              obtain ⟨rfl, rfl⟩ := leaf h
              exact hP0_74 rfl _ _ _ hP hS (lv_sub hl [1, 2, 3, 4, 5, 0] rfl)
            · replace h := if_t c23 h
              refine lv_iload hx hb dX11_steer_89 (lv_at hl 4 rfl) ?_
              refine lv_if_lt (tgt := 110) hx hb dX11_steer_91 (by decide) (fun c25 => ?_) (fun c25 => ?_)
              · replace h := if_t c25 h
                exact J110 v4 v5 μ  h _ _ _ hP hS (lv_sub hl [0, 1, 2, 3, 4, 5] rfl)
              · replace h := if_f c25 h
                refine lv_iload hx hb dX11_steer_94 (lv_at hl 5 rfl) ?_
                obtain ⟨r27, μ26, h28, h⟩ := bd_ok h
                refine go_i (callS_run (As := [.int v5]) (rest := []) C hl hP (hS.wide hJ).2.1 (m_X11_bitsOf l w hJ hw v5  μ h28) ms_X11_425 ⟨rfl, rfl, by decide, by decide⟩ rfl rfl (Nat.le_of_ble_eq_true rfl) ⟨Nat.zero_le _, Nat.zero_le _⟩ dX11_steer_96) hS (fun H locs hP hS => ?_)
                refine lv_iload hx hb dX11_steer_99 (lv_at hl 4 rfl) ?_
                obtain ⟨r30, μ29, h31, h⟩ := bd_ok h
                refine go_i (callS_run (As := [.int v4]) (rest := [.int r27]) C hl hP (hS.wide hJ).2.1 (m_X11_bitsOf l w hJ hw v4  μ26 h31) ms_X11_425 ⟨rfl, rfl, by decide, by decide⟩ rfl rfl (Nat.le_of_ble_eq_true rfl) ⟨Nat.zero_le _, Nat.zero_le _⟩ dX11_steer_101) hS (fun H locs hP hS => ?_)
                refine lv_icmp_lt (tgt := 110) hx hb dX11_steer_104 (by decide) (fun c32 => ?_) (fun c32 => ?_)
                · replace h := if_t c32 h
                  exact J110 v4 v5 μ29  h _ _ _ hP hS (lv_sub hl [0, 1, 2, 3, 4, 5] rfl)
                · replace h := if_f c32 h
                  refine lv_goto (tgt := 172) hx hb dX11_steer_107 (by decide) ?_
                  obtain ⟨x33, ex33⟩ : ∃ y : Int32, y = (v5 + (1 : Int32)) := ⟨_, rfl⟩
                  replace h := vl_ok ex33 h
                  refine lv_iinc (v := x33) (lv' := [(5, .int x33), (0, .ref (w.2.2.1 v0)), (1, .int v1), (2, .int v2), (3, .int x19), (4, .int v4)]) hx hb dX11_steer_172 hl (k := 5) rfl (by rw [ex33]; rfl) (by decide) rfl (fun ls hl => ?_)
                  refine lv_goto (tgt := 74) hx hb dX11_steer_175 (by decide) ?_
                  obtain ⟨rfl, rfl⟩ := leaf h
                  exact hP0_74 rfl _ _ _ hP hS (lv_sub hl [1, 2, 3, 4, 5, 0] rfl)
        · obtain ⟨x56, x57, μ58⟩ := q55
          intro H locs ls hP hS hl
          have hP : fP w μ58 H := hP
          have hl : lv_has ls 7 [(4, .int x56)] := hl
          try dsimp only at h
          refine lv_iload hx hb dX11_steer_178 (lv_at hl 0 rfl) ?_
          exact r_iret C hr hP hS h dX11_steer_180
    · replace h := if_t c9 h
      refine lv_iconst (v := (-1)) hx hb dX11_steer_21 (by decide) ?_
      exact r_iret C hr hP hS h dX11_steer_22

def f_X11_hasOf (v0 : Nat) (v1 : Int32) (v2 : Int32) (v3 : Int32) (μ : fMem) : Option (Int32 × fMem) :=
  gd (ixo (((6 : Int32) * v1) + v2) 12) (vl (μ.1 (v0 + 31) (Int32.toNatClampNeg (((6 : Int32) * v1) + v2))) fun x2 => if v2 = v3 then bd (f_X11_thingsIn v0 (0 : Int32) v2 μ) fun r5 μ4 => bd (f_X11_bitsOf r5 μ4) fun r8 μ7 => some ((x2 - ((10 : Int32) * r8)), μ7) else some (x2, μ))
def rm_X11_hasOf : Room := { frames := 1, cells := 0, slots := 0, locals := 24 }
set_option maxHeartbeats 4000000 in
set_option maxRecDepth 100000 in
theorem m_X11_hasOf (l : Launch) (w : fW) (hJ : fJ w) (hw : w.2.2.2 = sd 1) (v0 : Nat) (v1 : Int32) (v2 : Int32) (v3 : Int32) (hk0 : kd v0 = (4, 11)) (μ : fMem) {r : Int32} {μr : fMem} (h : f_X11_hasOf v0 v1 v2 v3 μ = some (r, μr)) : Met l yX11_hasOf (.code yX11_hasOf cX11_hasOf 5 (some .int) :: gw) rm_X11_hasOf (fPc w [.ref (w.2.2.1 v0), .int v1, .int v2, .int v3] μ) (fQi w r μr) 0 0 (fA w) := by
  refine met_of hJ (by decide) ?_ (Nat.le_of_ble_eq_true rfl)
  generalize ([.ref (w.2.2.1 v0), .int v1, .int v2, .int v3] : List Value).toArray = args
  intro p e s m below meth c ls C hr hP hl hS
  obtain ⟨hx, hb, hml, hown, hts, hK, -, hlk, hT⟩ := id C
  have hl : lv_has ls 5 [(0, .ref (w.2.2.1 v0)), (1, .int v1), (2, .int v2), (3, .int v3)] := hl
  unfold f_X11_hasOf at h
  refine lv_aload_n hx hb dX11_hasOf_0 rfl (lv_at hl 0 rfl) ?_
  refine r_getF (off := 31) C hP (iw hw (fi_11 hk0)) hk0 fl_X11_114 rfl rfl (zw hw) dX11_hasOf_1 ?_
  refine lv_bipush (v := (6)) hx hb dX11_hasOf_4 (by decide) ?_
  refine lv_iload_n hx hb dX11_hasOf_6 rfl (lv_at hl 1 rfl) ?_
  refine lv_imul hx hb dX11_hasOf_7 ?_
  refine lv_iload_n hx hb dX11_hasOf_8 rfl (lv_at hl 2 rfl) ?_
  refine lv_iadd hx hb dX11_hasOf_9 ?_
  obtain ⟨g1, h⟩ := gd_ok h
  refine r_iald C hP (iw hw (ff_11_54 hk0).2) (ff_11_54 hk0).1 g1 dX11_hasOf_10 ?_
  refine lv_topi (fun x2 ex2 => ?_)
  replace h := vl_ok ex2 h
  refine lv_istore (lv' := [(4, .int x2), (0, .ref (w.2.2.1 v0)), (1, .int v1), (2, .int v2), (3, .int v3)]) hx hb dX11_hasOf_11 hl (by decide) rfl (fun ls hl => ?_)
  refine lv_iload_n hx hb dX11_hasOf_13 rfl (lv_at hl 3 rfl) ?_
  refine lv_iload_n hx hb dX11_hasOf_14 rfl (lv_at hl 4 rfl) ?_
  refine lv_icmp_ne (tgt := 36) hx hb dX11_hasOf_15 (by decide) (fun c3 => ?_) (fun c3 => ?_)
  · replace h := if_f c3 h
    refine lv_iload hx hb dX11_hasOf_36 (lv_at hl 0 rfl) ?_
    exact r_iret C hr hP hS h dX11_hasOf_38
  · replace h := if_t c3 h
    refine lv_iload hx hb dX11_hasOf_18 (lv_at hl 0 rfl) ?_
    refine lv_bipush (v := (10)) hx hb dX11_hasOf_20 (by decide) ?_
    refine lv_aload_n hx hb dX11_hasOf_22 rfl (lv_at hl 1 rfl) ?_
    refine lv_iconst (v := (0)) hx hb dX11_hasOf_23 (by decide) ?_
    refine lv_iload_n hx hb dX11_hasOf_24 rfl (lv_at hl 3 rfl) ?_
    obtain ⟨r5, μ4, h6, h⟩ := bd_ok h
    refine go_i (callV_run (As := [.int (0 : Int32), .int v2]) (rest := [.int (10 : Int32), .int x2]) C hl hP (hS.wide hJ).2.1 (iw hw (fi_11 hk0)) hk0 (m_X11_thingsIn l w hJ hw v0 (0 : Int32) v2 hk0 μ h6) mv_X11_422 ⟨rfl, rfl, by decide, by decide⟩ rfl rfl (Nat.le_of_ble_eq_true rfl) ⟨Nat.zero_le _, Nat.zero_le _⟩ dX11_hasOf_25) hS (fun H locs hP hS => ?_)
    obtain ⟨r8, μ7, h9, h⟩ := bd_ok h
    refine go_i (callS_run (As := [.int r5]) (rest := [.int (10 : Int32), .int x2]) C hl hP (hS.wide hJ).2.1 (m_X11_bitsOf l w hJ hw r5  μ4 h9) ms_X11_425 ⟨rfl, rfl, by decide, by decide⟩ rfl rfl (Nat.le_of_ble_eq_true rfl) ⟨Nat.zero_le _, Nat.zero_le _⟩ dX11_hasOf_28) hS (fun H locs hP hS => ?_)
    refine lv_imul hx hb dX11_hasOf_31 ?_
    refine lv_isub hx hb dX11_hasOf_32 ?_
    refine lv_goto (tgt := 38) hx hb dX11_hasOf_33 (by decide) ?_
    exact r_iret C hr hP hS h dX11_hasOf_38

def f_X11_isRest_L2 (v0 : Nat) (v1 : Int32) (v2 : Int32) (v3 : Int32) (μ : fMem) : Option (Nat × (Int32 × fMem)) :=
  if (μ.1 (v0 + 2) 0) ≤ v3 then some (1, (v3, μ)) else bd (f_X11_hasOf v0 (0 : Int32) v3 v2 μ) fun r3 μ2 => bd (f_X11_hasOf v0 (0 : Int32) v1 v2 μ2) fun r6 μ5 => if r6 < r3 then some (2, (v3, μ5)) else bd (f_X11_hasOf v0 (1 : Int32) v3 v1 μ5) fun r10 μ9 => bd (f_X11_hasOf v0 (1 : Int32) v2 v1 μ9) fun r13 μ12 => if r10 ≤ r13 then vl (v3 + (1 : Int32)) fun x16 => some (0, (x16, μ12)) else some (2, (v3, μ12))
def f_X11_isRest (v0 : Nat) (v1 : Int32) (v2 : Int32) (μ : fMem) : Option (Int32 × fMem) :=
  bd (lpn (fun (q : Int32 × fMem) => f_X11_isRest_L2 v0 v1 v2 q.1 q.2) fuel ((0 : Int32), μ)) fun t17 q18 => (fun (x19 : Int32) (μ20 : fMem) => if t17 = 0 then gd (bl (1 : Int32)) (some ((1 : Int32), μ20)) else gd (bl (0 : Int32)) (some ((0 : Int32), μ20))) q18.1 q18.2
def rm_X11_isRest : Room := { frames := 2, cells := 0, slots := 0, locals := 48 }
set_option maxHeartbeats 4000000 in
set_option maxRecDepth 100000 in
theorem m_X11_isRest (l : Launch) (w : fW) (hJ : fJ w) (hw : w.2.2.2 = sd 1) (v0 : Nat) (v1 : Int32) (v2 : Int32) (hk0 : kd v0 = (4, 11)) (μ : fMem) {r : Int32} {μr : fMem} (h : f_X11_isRest v0 v1 v2 μ = some (r, μr)) : Met l yX11_isRest (.code yX11_isRest cX11_isRest 4 (some .boolean) :: gw) rm_X11_isRest (fPc w [.ref (w.2.2.1 v0), .int v1, .int v2] μ) (fQi w r μr) 0 0 (fA w) := by
  refine met_of hJ (by decide) ?_ (Nat.le_of_ble_eq_true rfl)
  generalize ([.ref (w.2.2.1 v0), .int v1, .int v2] : List Value).toArray = args
  intro p e s m below meth c ls C hr hP hl hS
  obtain ⟨hx, hb, hml, hown, hts, hK, -, hlk, hT⟩ := id C
  have hl : lv_has ls 4 [(0, .ref (w.2.2.1 v0)), (1, .int v1), (2, .int v2)] := hl
  unfold f_X11_isRest at h
  refine lv_iconst (v := (0)) hx hb dX11_isRest_0 (by decide) ?_
  refine lv_istore_n (lv' := [(3, .int (0 : Int32)), (0, .ref (w.2.2.1 v0)), (1, .int v1), (2, .int v2)]) hx hb dX11_isRest_1 rfl hl (by decide) rfl (fun ls hl => ?_)
  obtain ⟨t17, q18, h21, h⟩ := bd_ok h
  refine lpn_ind (b := (fun (q : Int32 × fMem) => f_X11_isRest_L2 v0 v1 v2 q.1 q.2)) (P := fun (q : Int32 × fMem) => WW p l e rm_X11_isRest s m args below meth c (MQ below (fQi w r μr) args s 0 0 (fA w)) w q.2 4 2 [] [(0, .ref (w.2.2.1 v0)), (1, .int v1), (2, .int v2), (3, .int q.1)]) (K := fun t (q : Int32 × fMem) => (t = 0 → WW p l e rm_X11_isRest s m args below meth c (MQ below (fQi w r μr) args s 0 0 (fA w)) w q.2 4 54 [] []) ∧ (t = 1 → WW p l e rm_X11_isRest s m args below meth c (MQ below (fQi w r μr) args s 0 0 (fA w)) w q.2 4 46 [] [])) ?_ fuel ((0 : Int32), μ) t17 q18 h21 ?_ _ _ _ hP hS (lv_sub hl [1, 2, 3, 0] rfl)
  · intro q tz2 sz2 h hP0_2 hK0_2 H locs ls hP hS hl
    obtain ⟨v3, μ⟩ := q
    have hP : fP w μ H := hP
    have hl : lv_has ls 4 [(0, .ref (w.2.2.1 v0)), (1, .int v1), (2, .int v2), (3, .int v3)] := hl
    have h : f_X11_isRest_L2 v0 v1 v2 v3 μ = some (tz2, sz2) := h
    unfold f_X11_isRest_L2 at h
    refine lv_iload_n hx hb dX11_isRest_2 rfl (lv_at hl 3 rfl) ?_
    refine lv_aload_n hx hb dX11_isRest_3 rfl (lv_at hl 0 rfl) ?_
    refine r_getF (off := 2) C hP (iw hw (fi_11 hk0)) hk0 fl_X11_13 rfl rfl (zw hw) dX11_isRest_4 ?_
    refine lv_iconst (v := (0)) hx hb dX11_isRest_7 (by decide) ?_
    refine n_iald (j := 0) C hP (iw hw (ff_11_3 hk0).2) (ff_11_3 hk0).1 (by decide) (by decide) dX11_isRest_8 ?_
    refine lv_icmp_ge (tgt := 54) hx hb dX11_isRest_9 (by decide) (fun c1 => ?_) (fun c1 => ?_)
    · replace h := if_t c1 h
      obtain ⟨rfl, rfl⟩ := leaf h
      exact ((hK0_2 0 rfl).1 rfl) _ _ _ hP hS (lv_sub hl [] rfl)
    · replace h := if_f c1 h
      refine lv_aload_n hx hb dX11_isRest_12 rfl (lv_at hl 0 rfl) ?_
      refine lv_iconst (v := (0)) hx hb dX11_isRest_13 (by decide) ?_
      refine lv_iload_n hx hb dX11_isRest_14 rfl (lv_at hl 3 rfl) ?_
      refine lv_iload_n hx hb dX11_isRest_15 rfl (lv_at hl 2 rfl) ?_
      obtain ⟨r3, μ2, h4, h⟩ := bd_ok h
      refine go_i (callV_run (As := [.int (0 : Int32), .int v3, .int v2]) (rest := []) C hl hP (hS.wide hJ).2.1 (iw hw (fi_11 hk0)) hk0 (m_X11_hasOf l w hJ hw v0 (0 : Int32) v3 v2 hk0 μ h4) mv_X11_458 ⟨rfl, rfl, by decide, by decide⟩ rfl rfl (Nat.le_of_ble_eq_true rfl) ⟨Nat.zero_le _, Nat.zero_le _⟩ dX11_isRest_16) hS (fun H locs hP hS => ?_)
      refine lv_aload_n hx hb dX11_isRest_19 rfl (lv_at hl 0 rfl) ?_
      refine lv_iconst (v := (0)) hx hb dX11_isRest_20 (by decide) ?_
      refine lv_iload_n hx hb dX11_isRest_21 rfl (lv_at hl 1 rfl) ?_
      refine lv_iload_n hx hb dX11_isRest_22 rfl (lv_at hl 2 rfl) ?_
      obtain ⟨r6, μ5, h7, h⟩ := bd_ok h
      refine go_i (callV_run (As := [.int (0 : Int32), .int v1, .int v2]) (rest := [.int r3]) C hl hP (hS.wide hJ).2.1 (iw hw (fi_11 hk0)) hk0 (m_X11_hasOf l w hJ hw v0 (0 : Int32) v1 v2 hk0 μ2 h7) mv_X11_458 ⟨rfl, rfl, by decide, by decide⟩ rfl rfl (Nat.le_of_ble_eq_true rfl) ⟨Nat.zero_le _, Nat.zero_le _⟩ dX11_isRest_23) hS (fun H locs hP hS => ?_)
      refine lv_icmp_gt (tgt := 46) hx hb dX11_isRest_26 (by decide) (fun c8 => ?_) (fun c8 => ?_)
      · replace h := if_t c8 h
        obtain ⟨rfl, rfl⟩ := leaf h
        exact ((hK0_2 1 rfl).2 rfl) _ _ _ hP hS (lv_sub hl [] rfl)
      · replace h := if_f c8 h
        refine lv_aload_n hx hb dX11_isRest_29 rfl (lv_at hl 0 rfl) ?_
        refine lv_iconst (v := (1)) hx hb dX11_isRest_30 (by decide) ?_
        refine lv_iload_n hx hb dX11_isRest_31 rfl (lv_at hl 3 rfl) ?_
        refine lv_iload_n hx hb dX11_isRest_32 rfl (lv_at hl 1 rfl) ?_
        obtain ⟨r10, μ9, h11, h⟩ := bd_ok h
        refine go_i (callV_run (As := [.int (1 : Int32), .int v3, .int v1]) (rest := []) C hl hP (hS.wide hJ).2.1 (iw hw (fi_11 hk0)) hk0 (m_X11_hasOf l w hJ hw v0 (1 : Int32) v3 v1 hk0 μ5 h11) mv_X11_458 ⟨rfl, rfl, by decide, by decide⟩ rfl rfl (Nat.le_of_ble_eq_true rfl) ⟨Nat.zero_le _, Nat.zero_le _⟩ dX11_isRest_33) hS (fun H locs hP hS => ?_)
        refine lv_aload_n hx hb dX11_isRest_36 rfl (lv_at hl 0 rfl) ?_
        refine lv_iconst (v := (1)) hx hb dX11_isRest_37 (by decide) ?_
        refine lv_iload_n hx hb dX11_isRest_38 rfl (lv_at hl 2 rfl) ?_
        refine lv_iload_n hx hb dX11_isRest_39 rfl (lv_at hl 1 rfl) ?_
        obtain ⟨r13, μ12, h14, h⟩ := bd_ok h
        refine go_i (callV_run (As := [.int (1 : Int32), .int v2, .int v1]) (rest := [.int r10]) C hl hP (hS.wide hJ).2.1 (iw hw (fi_11 hk0)) hk0 (m_X11_hasOf l w hJ hw v0 (1 : Int32) v2 v1 hk0 μ9 h14) mv_X11_458 ⟨rfl, rfl, by decide, by decide⟩ rfl rfl (Nat.le_of_ble_eq_true rfl) ⟨Nat.zero_le _, Nat.zero_le _⟩ dX11_isRest_40) hS (fun H locs hP hS => ?_)
        refine lv_icmp_le (tgt := 48) hx hb dX11_isRest_43 (by decide) (fun c15 => ?_) (fun c15 => ?_)
        · replace h := if_t c15 h
          obtain ⟨x16, ex16⟩ : ∃ y : Int32, y = (v3 + (1 : Int32)) := ⟨_, rfl⟩
          replace h := vl_ok ex16 h
          refine lv_iinc (v := x16) (lv' := [(3, .int x16), (0, .ref (w.2.2.1 v0)), (1, .int v1), (2, .int v2)]) hx hb dX11_isRest_48 hl (k := 3) rfl (by rw [ex16]; rfl) (by decide) rfl (fun ls hl => ?_)
          refine lv_goto (tgt := 2) hx hb dX11_isRest_51 (by decide) ?_
          obtain ⟨rfl, rfl⟩ := leaf h
          exact hP0_2 rfl _ _ _ hP hS (lv_sub hl [1, 2, 3, 0] rfl)
        · replace h := if_f c15 h
          obtain ⟨rfl, rfl⟩ := leaf h
          exact ((hK0_2 1 rfl).2 rfl) _ _ _ hP hS (lv_sub hl [] rfl)
  · obtain ⟨x19, μ20⟩ := q18
    try dsimp only at h
    refine ⟨fun ht => ?_, fun ht => ?_⟩
    · intro H locs ls hP hS hl
      have hP : fP w μ20 H := hP
      have hl : lv_has ls 4 [] := hl
      replace h := if_t ht h
      refine lv_iconst (v := (1)) hx hb dX11_isRest_54 (by decide) ?_
      exact r_zret C hr hP hS h dX11_isRest_55
    · intro H locs ls hP hS hl
      have hP : fP w μ20 H := hP
      have hl : lv_has ls 4 [] := hl
      replace h := if_f (by rw [ht]; decide) h
      refine lv_iconst (v := (0)) hx hb dX11_isRest_46 (by decide) ?_
      exact r_zret C hr hP hS h dX11_isRest_47

def f_X11_restOf_L2 (v0 : Nat) (v1 : Int32) (v2 : Int32) (μ : fMem) : Option (Nat × (Int32 × fMem)) :=
  if (12 : Int32) ≤ v2 then some (1, (v2, μ)) else gd (ixo v2 12) (vl (sI μ (v0 + 31) (Int32.toNatClampNeg v2) (0 : Int32)) fun μ2 => vl (v2 + (1 : Int32)) fun x4 => some (0, (x4, μ2)))
def f_X11_restOf_L35 (v0 : Nat) (v1 : Int32) (v2 : Int32) (v3 : Int32) (μ : fMem) : Option (Nat × (Int32 × fMem)) :=
  if (μ.1 (v0 + 2) 0) ≤ v3 then some (1, (v3, μ)) else gd (ixo v2 12) (gd (ixo (((6 : Int32) * (μ.1 (v0 + 13) (Int32.toNatClampNeg v2))) + v3) 12) (bd (f_X11_likingFor v0 (0 : Int32) v2 v3 μ) fun r14 μ13 => gd (ixo (((6 : Int32) * (μ.1 (v0 + 13) (Int32.toNatClampNeg v2))) + v3) 12) (vl (sI μ13 (v0 + 31) (Int32.toNatClampNeg (((6 : Int32) * (μ.1 (v0 + 13) (Int32.toNatClampNeg v2))) + v3)) ((μ.1 (v0 + 31) (Int32.toNatClampNeg (((6 : Int32) * (μ.1 (v0 + 13) (Int32.toNatClampNeg v2))) + v3))) + r14)) fun μ16 => vl (v3 + (1 : Int32)) fun x18 => some (0, (x18, μ16)))))
def f_X11_restOf_L23 (v0 : Nat) (v1 : Int32) (v2 : Int32) (μ : fMem) : Option (Nat × (Int32 × fMem)) :=
  if (μ.1 (v0 + 2) 3) ≤ v2 then some (1, (v2, μ)) else bd (lpn (fun (q : Int32 × fMem) => f_X11_restOf_L35 v0 v1 v2 q.1 q.2) fuel ((0 : Int32), μ)) fun t19 q20 => (fun (x21 : Int32) (μ22 : fMem) => vl (v2 + (1 : Int32)) fun x23 => some (0, (x23, μ22))) q20.1 q20.2
def f_X11_restOf_L100 (v0 : Nat) (v1 : Int32) (v3 : Int32) (v2 : Int32) (v4 : Int32) (μ : fMem) : Option (Nat × (Int32 × Int32 × fMem)) :=
  if (μ.1 (v0 + 2) 0) ≤ v4 then some (1, (v2, v4, μ)) else bd (f_X11_isRest v0 v3 v4 μ) fun r32 μ31 => if r32 = 0 then vl (v4 + (1 : Int32)) fun x38 => some (0, (v2, x38, μ31)) else if v2 = v1 then some (2, (v2, v4, μ31)) else vl (v2 + (1 : Int32)) fun x36 => vl (v4 + (1 : Int32)) fun x37 => some (0, (x36, x37, μ31))
def f_X11_restOf_L87 (v0 : Nat) (v1 : Int32) (v2 : Int32) (v3 : Int32) (v4 : Int32) (μ : fMem) : Option (Nat × (Int32 × Int32 × Int32 × fMem)) :=
  if (μ.1 (v0 + 2) 0) ≤ v3 then some (1, (v2, v3, (0 : Int32), μ)) else bd (lpn (fun (q : Int32 × Int32 × fMem) => f_X11_restOf_L100 v0 v1 v3 q.1 q.2.1 q.2.2) fuel (v2, (0 : Int32), μ)) fun t39 q40 => (fun (x41 : Int32) (x42 : Int32) (μ43 : fMem) => if t39 = 0 then vl (v3 + (1 : Int32)) fun x44 => some (0, (x41, x44, x42, μ43)) else some (2, (x41, v3, x42, μ43))) q40.1 q40.2.1 q40.2.2
def f_X11_restOf (v0 : Nat) (v1 : Int32) (μ : fMem) : Option (Int32 × fMem) :=
  bd (lpn (fun (q : Int32 × fMem) => f_X11_restOf_L2 v0 v1 q.1 q.2) fuel ((0 : Int32), μ)) fun t5 q6 => (fun (x7 : Int32) (μ8 : fMem) => bd (lpn (fun (q : Int32 × fMem) => f_X11_restOf_L23 v0 v1 q.1 q.2) fuel ((0 : Int32), μ8)) fun t25 q26 => (fun (x27 : Int32) (μ28 : fMem) => bd (lpn (fun (q : Int32 × Int32 × Int32 × fMem) => f_X11_restOf_L87 v0 v1 q.1 q.2.1 q.2.2.1 q.2.2.2) fuel ((0 : Int32), (0 : Int32), (0 : Int32), μ28)) fun t46 q47 => (fun (x48 : Int32) (x49 : Int32) (x50 : Int32) (μ51 : fMem) => if t46 = 0 then if v1 = (-1 : Int32) then some (x48, μ51) else some ((-2 : Int32), μ51) else some ((((10 : Int32) * x49) + x50), μ51)) q47.1 q47.2.1 q47.2.2.1 q47.2.2.2) q26.1 q26.2) q6.1 q6.2
def rm_X11_restOf : Room := { frames := 6, cells := 0, slots := 0, locals := 201 }
set_option maxHeartbeats 4000000 in
set_option maxRecDepth 100000 in
theorem m_X11_restOf (l : Launch) (w : fW) (hJ : fJ w) (hw : w.2.2.2 = sd 1) (v0 : Nat) (v1 : Int32) (hk0 : kd v0 = (4, 11)) (μ : fMem) {r : Int32} {μr : fMem} (h : f_X11_restOf v0 v1 μ = some (r, μr)) : Met l yX11_restOf (.code yX11_restOf cX11_restOf 5 (some .int) :: gw) rm_X11_restOf (fPc w [.ref (w.2.2.1 v0), .int v1] μ) (fQi w r μr) 0 0 (fA w) := by
  refine met_of hJ (by decide) ?_ (Nat.le_of_ble_eq_true rfl)
  generalize ([.ref (w.2.2.1 v0), .int v1] : List Value).toArray = args
  intro p e s m below meth c ls C hr hP hl hS
  obtain ⟨hx, hb, hml, hown, hts, hK, -, hlk, hT⟩ := id C
  have hl : lv_has ls 5 [(0, .ref (w.2.2.1 v0)), (1, .int v1)] := hl
  unfold f_X11_restOf at h
  refine lv_iconst (v := (0)) hx hb dX11_restOf_0 (by decide) ?_
  refine lv_istore_n (lv' := [(2, .int (0 : Int32)), (0, .ref (w.2.2.1 v0)), (1, .int v1)]) hx hb dX11_restOf_1 rfl hl (by decide) rfl (fun ls hl => ?_)
  obtain ⟨t5, q6, h55, h⟩ := bd_ok h
  refine lpn_ind (b := (fun (q : Int32 × fMem) => f_X11_restOf_L2 v0 v1 q.1 q.2)) (P := fun (q : Int32 × fMem) => WW p l e rm_X11_restOf s m args below meth c (MQ below (fQi w r μr) args s 0 0 (fA w)) w q.2 5 2 [] [(0, .ref (w.2.2.1 v0)), (1, .int v1), (2, .int q.1)]) (K := fun _ (q : Int32 × fMem) => WW p l e rm_X11_restOf s m args below meth c (MQ below (fQi w r μr) args s 0 0 (fA w)) w q.2 5 21 [] [(0, .ref (w.2.2.1 v0)), (1, .int v1)]) ?_ fuel ((0 : Int32), μ) t5 q6 h55 ?_ _ _ _ hP hS (lv_sub hl [1, 2, 0] rfl)
  · intro q tz2 sz2 h hP0_2 hK0_2 H locs ls hP hS hl
    obtain ⟨v2, μ⟩ := q
    have hP : fP w μ H := hP
    have hl : lv_has ls 5 [(0, .ref (w.2.2.1 v0)), (1, .int v1), (2, .int v2)] := hl
    have h : f_X11_restOf_L2 v0 v1 v2 μ = some (tz2, sz2) := h
    unfold f_X11_restOf_L2 at h
    refine lv_iload_n hx hb dX11_restOf_2 rfl (lv_at hl 2 rfl) ?_
    refine lv_bipush (v := (12)) hx hb dX11_restOf_3 (by decide) ?_
    refine lv_icmp_ge (tgt := 21) hx hb dX11_restOf_5 (by decide) (fun c1 => ?_) (fun c1 => ?_)
    · replace h := if_t c1 h
      obtain ⟨rfl, rfl⟩ := leaf h
      exact (hK0_2 0 rfl) _ _ _ hP hS (lv_sub hl [0, 1] rfl)
    · replace h := if_f c1 h
      refine lv_aload_n hx hb dX11_restOf_8 rfl (lv_at hl 0 rfl) ?_
      refine r_getF (off := 31) C hP (iw hw (fi_11 hk0)) hk0 fl_X11_114 rfl rfl (zw hw) dX11_restOf_9 ?_
      refine lv_iload_n hx hb dX11_restOf_12 rfl (lv_at hl 2 rfl) ?_
      refine lv_iconst (v := (0)) hx hb dX11_restOf_13 (by decide) ?_
      obtain ⟨g3, h⟩ := gd_ok h
      refine r_iast C hP hS (iw hw (ff_11_54 hk0).2) (ff_11_54 hk0).1 g3 dX11_restOf_14 (fun H locs hP hS => ?_)
      obtain ⟨μ2, eμ2, h⟩ := vl_ex h
      have hP : fP w μ2 H := by rw [eμ2]; exact hP
      obtain ⟨x4, ex4⟩ : ∃ y : Int32, y = (v2 + (1 : Int32)) := ⟨_, rfl⟩
      replace h := vl_ok ex4 h
      refine lv_iinc (v := x4) (lv' := [(2, .int x4), (0, .ref (w.2.2.1 v0)), (1, .int v1)]) hx hb dX11_restOf_15 hl (k := 2) rfl (by rw [ex4]; rfl) (by decide) rfl (fun ls hl => ?_)
      refine lv_goto (tgt := 2) hx hb dX11_restOf_18 (by decide) ?_
      obtain ⟨rfl, rfl⟩ := leaf h
      exact hP0_2 rfl _ _ _ hP hS (lv_sub hl [1, 2, 0] rfl)
  · obtain ⟨x7, μ8⟩ := q6
    intro H locs ls hP hS hl
    have hP : fP w μ8 H := hP
    have hl : lv_has ls 5 [(0, .ref (w.2.2.1 v0)), (1, .int v1)] := hl
    try dsimp only at h
    refine lv_iconst (v := (0)) hx hb dX11_restOf_21 (by decide) ?_
    refine lv_istore_n (lv' := [(2, .int (0 : Int32)), (0, .ref (w.2.2.1 v0)), (1, .int v1)]) hx hb dX11_restOf_22 rfl hl (by decide) rfl (fun ls hl => ?_)
    obtain ⟨t25, q26, h54, h⟩ := bd_ok h
    refine lpn_ind (b := (fun (q : Int32 × fMem) => f_X11_restOf_L23 v0 v1 q.1 q.2)) (P := fun (q : Int32 × fMem) => WW p l e rm_X11_restOf s m args below meth c (MQ below (fQi w r μr) args s 0 0 (fA w)) w q.2 5 23 [] [(0, .ref (w.2.2.1 v0)), (1, .int v1), (2, .int q.1)]) (K := fun _ (q : Int32 × fMem) => WW p l e rm_X11_restOf s m args below meth c (MQ below (fQi w r μr) args s 0 0 (fA w)) w q.2 5 83 [] [(0, .ref (w.2.2.1 v0)), (1, .int v1)]) ?_ fuel ((0 : Int32), μ8) t25 q26 h54 ?_ _ _ _ hP hS (lv_sub hl [1, 2, 0] rfl)
    · intro q tz23 sz23 h hP0_23 hK0_23 H locs ls hP hS hl
      obtain ⟨v2, μ⟩ := q
      have hP : fP w μ H := hP
      have hl : lv_has ls 5 [(0, .ref (w.2.2.1 v0)), (1, .int v1), (2, .int v2)] := hl
      have h : f_X11_restOf_L23 v0 v1 v2 μ = some (tz23, sz23) := h
      unfold f_X11_restOf_L23 at h
      refine lv_iload_n hx hb dX11_restOf_23 rfl (lv_at hl 2 rfl) ?_
      refine lv_aload_n hx hb dX11_restOf_24 rfl (lv_at hl 0 rfl) ?_
      refine r_getF (off := 2) C hP (iw hw (fi_11 hk0)) hk0 fl_X11_13 rfl rfl (zw hw) dX11_restOf_25 ?_
      refine lv_iconst (v := (3)) hx hb dX11_restOf_28 (by decide) ?_
      refine n_iald (j := 3) C hP (iw hw (ff_11_3 hk0).2) (ff_11_3 hk0).1 (by decide) (by decide) dX11_restOf_29 ?_
      refine lv_icmp_ge (tgt := 83) hx hb dX11_restOf_30 (by decide) (fun c9 => ?_) (fun c9 => ?_)
      · replace h := if_t c9 h
        obtain ⟨rfl, rfl⟩ := leaf h
        exact (hK0_23 0 rfl) _ _ _ hP hS (lv_sub hl [0, 1] rfl)
      · replace h := if_f c9 h
        refine lv_iconst (v := (0)) hx hb dX11_restOf_33 (by decide) ?_
        refine lv_istore_n (lv' := [(3, .int (0 : Int32)), (0, .ref (w.2.2.1 v0)), (1, .int v1), (2, .int v2)]) hx hb dX11_restOf_34 rfl hl (by decide) rfl (fun ls hl => ?_)
        obtain ⟨t19, q20, h24, h⟩ := bd_ok h
        refine lpn_ind (b := (fun (q : Int32 × fMem) => f_X11_restOf_L35 v0 v1 v2 q.1 q.2)) (P := fun (q : Int32 × fMem) => WW p l e rm_X11_restOf s m args below meth c (MQ below (fQi w r μr) args s 0 0 (fA w)) w q.2 5 35 [] [(0, .ref (w.2.2.1 v0)), (1, .int v1), (2, .int v2), (3, .int q.1)]) (K := fun _ (q : Int32 × fMem) => WW p l e rm_X11_restOf s m args below meth c (MQ below (fQi w r μr) args s 0 0 (fA w)) w q.2 5 77 [] [(0, .ref (w.2.2.1 v0)), (1, .int v1), (2, .int v2)]) ?_ fuel ((0 : Int32), μ) t19 q20 h24 ?_ _ _ _ hP hS (lv_sub hl [1, 2, 3, 0] rfl)
        · intro q tz35 sz35 h hP0_35 hK0_35 H locs ls hP hS hl
          obtain ⟨v3, μ⟩ := q
          have hP : fP w μ H := hP
          have hl : lv_has ls 5 [(0, .ref (w.2.2.1 v0)), (1, .int v1), (2, .int v2), (3, .int v3)] := hl
          have h : f_X11_restOf_L35 v0 v1 v2 v3 μ = some (tz35, sz35) := h
          unfold f_X11_restOf_L35 at h
          refine lv_iload_n hx hb dX11_restOf_35 rfl (lv_at hl 3 rfl) ?_
          refine lv_aload_n hx hb dX11_restOf_36 rfl (lv_at hl 0 rfl) ?_
          refine r_getF (off := 2) C hP (iw hw (fi_11 hk0)) hk0 fl_X11_13 rfl rfl (zw hw) dX11_restOf_37 ?_
          refine lv_iconst (v := (0)) hx hb dX11_restOf_40 (by decide) ?_
          refine n_iald (j := 0) C hP (iw hw (ff_11_3 hk0).2) (ff_11_3 hk0).1 (by decide) (by decide) dX11_restOf_41 ?_
          refine lv_icmp_ge (tgt := 77) hx hb dX11_restOf_42 (by decide) (fun c10 => ?_) (fun c10 => ?_)
          · replace h := if_t c10 h
            obtain ⟨rfl, rfl⟩ := leaf h
            exact (hK0_35 0 rfl) _ _ _ hP hS (lv_sub hl [0, 1, 2] rfl)
          · replace h := if_f c10 h
            refine lv_aload_n hx hb dX11_restOf_45 rfl (lv_at hl 0 rfl) ?_
            refine r_getF (off := 31) C hP (iw hw (fi_11 hk0)) hk0 fl_X11_114 rfl rfl (zw hw) dX11_restOf_46 ?_
            refine lv_bipush (v := (6)) hx hb dX11_restOf_49 (by decide) ?_
            refine lv_aload_n hx hb dX11_restOf_51 rfl (lv_at hl 0 rfl) ?_
            refine r_getF (off := 13) C hP (iw hw (fi_11 hk0)) hk0 fl_X11_46 rfl rfl (zw hw) dX11_restOf_52 ?_
            refine lv_iload_n hx hb dX11_restOf_55 rfl (lv_at hl 2 rfl) ?_
            obtain ⟨g11, h⟩ := gd_ok h
            refine r_iald C hP (iw hw (ff_11_14 hk0).2) (ff_11_14 hk0).1 g11 dX11_restOf_56 ?_
            refine lv_imul hx hb dX11_restOf_57 ?_
            refine lv_iload_n hx hb dX11_restOf_58 rfl (lv_at hl 3 rfl) ?_
            refine lv_iadd hx hb dX11_restOf_59 ?_
            refine lv_dup2_11 hx hb dX11_restOf_60 rfl rfl ?_
            obtain ⟨g12, h⟩ := gd_ok h
            refine r_iald C hP (iw hw (ff_11_54 hk0).2) (ff_11_54 hk0).1 g12 dX11_restOf_61 ?_
            refine lv_aload_n hx hb dX11_restOf_62 rfl (lv_at hl 0 rfl) ?_
            refine lv_iconst (v := (0)) hx hb dX11_restOf_63 (by decide) ?_
            refine lv_iload_n hx hb dX11_restOf_64 rfl (lv_at hl 2 rfl) ?_
            refine lv_iload_n hx hb dX11_restOf_65 rfl (lv_at hl 3 rfl) ?_
            obtain ⟨r14, μ13, h15, h⟩ := bd_ok h
            refine go_i (callV_run (As := [.int (0 : Int32), .int v2, .int v3]) (rest := [.int (μ.1 (v0 + 31) (Int32.toNatClampNeg (((6 : Int32) * (μ.1 (v0 + 13) (Int32.toNatClampNeg v2))) + v3))), .int (((6 : Int32) * (μ.1 (v0 + 13) (Int32.toNatClampNeg v2))) + v3), .ref (w.2.2.1 (v0 + 31))]) C hl hP (hS.wide hJ).2.1 (iw hw (fi_11 hk0)) hk0 (m_X11_likingFor l w hJ hw v0 (0 : Int32) v2 v3 hk0 μ h15) mv_X11_385 ⟨rfl, rfl, by decide, by decide⟩ rfl rfl (Nat.le_of_ble_eq_true rfl) ⟨Nat.zero_le _, Nat.zero_le _⟩ dX11_restOf_66) hS (fun H locs hP hS => ?_)
            refine lv_iadd hx hb dX11_restOf_69 ?_
            obtain ⟨g17, h⟩ := gd_ok h
            refine r_iast C hP hS (iw hw (ff_11_54 hk0).2) (ff_11_54 hk0).1 g17 dX11_restOf_70 (fun H locs hP hS => ?_)
            obtain ⟨μ16, eμ16, h⟩ := vl_ex h
            have hP : fP w μ16 H := by rw [eμ16]; exact hP
            obtain ⟨x18, ex18⟩ : ∃ y : Int32, y = (v3 + (1 : Int32)) := ⟨_, rfl⟩
            replace h := vl_ok ex18 h
            refine lv_iinc (v := x18) (lv' := [(3, .int x18), (0, .ref (w.2.2.1 v0)), (1, .int v1), (2, .int v2)]) hx hb dX11_restOf_71 hl (k := 3) rfl (by rw [ex18]; rfl) (by decide) rfl (fun ls hl => ?_)
            refine lv_goto (tgt := 35) hx hb dX11_restOf_74 (by decide) ?_
            obtain ⟨rfl, rfl⟩ := leaf h
            exact hP0_35 rfl _ _ _ hP hS (lv_sub hl [1, 2, 3, 0] rfl)
        · obtain ⟨x21, μ22⟩ := q20
          intro H locs ls hP hS hl
          have hP : fP w μ22 H := hP
          have hl : lv_has ls 5 [(0, .ref (w.2.2.1 v0)), (1, .int v1), (2, .int v2)] := hl
          try dsimp only at h
          obtain ⟨x23, ex23⟩ : ∃ y : Int32, y = (v2 + (1 : Int32)) := ⟨_, rfl⟩
          replace h := vl_ok ex23 h
          refine lv_iinc (v := x23) (lv' := [(2, .int x23), (0, .ref (w.2.2.1 v0)), (1, .int v1)]) hx hb dX11_restOf_77 hl (k := 2) rfl (by rw [ex23]; rfl) (by decide) rfl (fun ls hl => ?_)
          refine lv_goto (tgt := 23) hx hb dX11_restOf_80 (by decide) ?_
          obtain ⟨rfl, rfl⟩ := leaf h
          exact hP0_23 rfl _ _ _ hP hS (lv_sub hl [1, 2, 0] rfl)
    · obtain ⟨x27, μ28⟩ := q26
      intro H locs ls hP hS hl
      have hP : fP w μ28 H := hP
      have hl : lv_has ls 5 [(0, .ref (w.2.2.1 v0)), (1, .int v1)] := hl
      try dsimp only at h
      refine lv_iconst (v := (0)) hx hb dX11_restOf_83 (by decide) ?_
      refine lv_istore_n (lv' := [(2, .int (0 : Int32)), (0, .ref (w.2.2.1 v0)), (1, .int v1)]) hx hb dX11_restOf_84 rfl hl (by decide) rfl (fun ls hl => ?_)
      refine lv_iconst (v := (0)) hx hb dX11_restOf_85 (by decide) ?_
      refine lv_istore_n (lv' := [(3, .int (0 : Int32)), (2, .int (0 : Int32)), (0, .ref (w.2.2.1 v0)), (1, .int v1)]) hx hb dX11_restOf_86 rfl hl (by decide) rfl (fun ls hl => ?_)
      obtain ⟨t46, q47, h53, h⟩ := bd_ok h
      refine lpn_ind (b := (fun (q : Int32 × Int32 × Int32 × fMem) => f_X11_restOf_L87 v0 v1 q.1 q.2.1 q.2.2.1 q.2.2.2)) (P := fun (q : Int32 × Int32 × Int32 × fMem) => WW p l e rm_X11_restOf s m args below meth c (MQ below (fQi w r μr) args s 0 0 (fA w)) w q.2.2.2 5 87 [] [(0, .ref (w.2.2.1 v0)), (1, .int v1), (2, .int q.1), (3, .int q.2.1)]) (K := fun t (q : Int32 × Int32 × Int32 × fMem) => (t = 0 → WW p l e rm_X11_restOf s m args below meth c (MQ below (fQi w r μr) args s 0 0 (fA w)) w q.2.2.2 5 152 [] [(1, .int v1), (2, .int q.1)]) ∧ (t = 1 → WW p l e rm_X11_restOf s m args below meth c (MQ below (fQi w r μr) args s 0 0 (fA w)) w q.2.2.2 5 129 [] [(3, .int q.2.1), (4, .int q.2.2.1)])) ?_ fuel ((0 : Int32), (0 : Int32), (0 : Int32), μ28) t46 q47 h53 ?_ _ _ _ hP hS (lv_sub hl [2, 3, 1, 0] rfl)
      · intro q tz87 sz87 h hP0_87 hK0_87 H locs ls hP hS hl
        obtain ⟨v2, v3, v4, μ⟩ := q
        have hP : fP w μ H := hP
        have hl : lv_has ls 5 [(0, .ref (w.2.2.1 v0)), (1, .int v1), (2, .int v2), (3, .int v3)] := hl
        have h : f_X11_restOf_L87 v0 v1 v2 v3 v4 μ = some (tz87, sz87) := h
        unfold f_X11_restOf_L87 at h
        refine lv_iload_n hx hb dX11_restOf_87 rfl (lv_at hl 3 rfl) ?_
        refine lv_aload_n hx hb dX11_restOf_88 rfl (lv_at hl 0 rfl) ?_
        refine r_getF (off := 2) C hP (iw hw (fi_11 hk0)) hk0 fl_X11_13 rfl rfl (zw hw) dX11_restOf_89 ?_
        refine lv_iconst (v := (0)) hx hb dX11_restOf_92 (by decide) ?_
        refine n_iald (j := 0) C hP (iw hw (ff_11_3 hk0).2) (ff_11_3 hk0).1 (by decide) (by decide) dX11_restOf_93 ?_
        refine lv_icmp_ge (tgt := 152) hx hb dX11_restOf_94 (by decide) (fun c29 => ?_) (fun c29 => ?_)
        · replace h := if_t c29 h
          obtain ⟨rfl, rfl⟩ := leaf h
          exact ((hK0_87 0 rfl).1 rfl) _ _ _ hP hS (lv_sub hl [1, 2] rfl)
        · replace h := if_f c29 h
          refine lv_iconst (v := (0)) hx hb dX11_restOf_97 (by decide) ?_
          refine lv_istore (lv' := [(4, .int (0 : Int32)), (0, .ref (w.2.2.1 v0)), (1, .int v1), (2, .int v2), (3, .int v3)]) hx hb dX11_restOf_98 hl (by decide) rfl (fun ls hl => ?_)
          obtain ⟨t39, q40, h45, h⟩ := bd_ok h
          refine lpn_ind (b := (fun (q : Int32 × Int32 × fMem) => f_X11_restOf_L100 v0 v1 v3 q.1 q.2.1 q.2.2)) (P := fun (q : Int32 × Int32 × fMem) => WW p l e rm_X11_restOf s m args below meth c (MQ below (fQi w r μr) args s 0 0 (fA w)) w q.2.2 5 100 [] [(0, .ref (w.2.2.1 v0)), (1, .int v1), (2, .int q.1), (3, .int v3), (4, .int q.2.1)]) (K := fun t (q : Int32 × Int32 × fMem) => (t = 0 → WW p l e rm_X11_restOf s m args below meth c (MQ below (fQi w r μr) args s 0 0 (fA w)) w q.2.2 5 146 [] [(0, .ref (w.2.2.1 v0)), (1, .int v1), (2, .int q.1), (3, .int v3)]) ∧ (t = 1 → WW p l e rm_X11_restOf s m args below meth c (MQ below (fQi w r μr) args s 0 0 (fA w)) w q.2.2 5 129 [] [(3, .int v3), (4, .int q.2.1)])) ?_ fuel (v2, (0 : Int32), μ) t39 q40 h45 ?_ _ _ _ hP hS (lv_sub hl [1, 2, 3, 4, 0] rfl)
          · intro q tz100 sz100 h hP0_100 hK0_100 H locs ls hP hS hl
            obtain ⟨v2, v4, μ⟩ := q
            have hP : fP w μ H := hP
            have hl : lv_has ls 5 [(0, .ref (w.2.2.1 v0)), (1, .int v1), (2, .int v2), (3, .int v3), (4, .int v4)] := hl
            have h : f_X11_restOf_L100 v0 v1 v3 v2 v4 μ = some (tz100, sz100) := h
            unfold f_X11_restOf_L100 at h
            refine lv_iload hx hb dX11_restOf_100 (lv_at hl 4 rfl) ?_
            refine lv_aload_n hx hb dX11_restOf_102 rfl (lv_at hl 0 rfl) ?_
            refine r_getF (off := 2) C hP (iw hw (fi_11 hk0)) hk0 fl_X11_13 rfl rfl (zw hw) dX11_restOf_103 ?_
            refine lv_iconst (v := (0)) hx hb dX11_restOf_106 (by decide) ?_
            refine n_iald (j := 0) C hP (iw hw (ff_11_3 hk0).2) (ff_11_3 hk0).1 (by decide) (by decide) dX11_restOf_107 ?_
            refine lv_icmp_ge (tgt := 146) hx hb dX11_restOf_108 (by decide) (fun c30 => ?_) (fun c30 => ?_)
            · replace h := if_t c30 h
              obtain ⟨rfl, rfl⟩ := leaf h
              exact ((hK0_100 0 rfl).1 rfl) _ _ _ hP hS (lv_sub hl [0, 1, 2, 3] rfl)
            · replace h := if_f c30 h
              refine lv_aload_n hx hb dX11_restOf_111 rfl (lv_at hl 0 rfl) ?_
              refine lv_iload_n hx hb dX11_restOf_112 rfl (lv_at hl 3 rfl) ?_
              refine lv_iload hx hb dX11_restOf_113 (lv_at hl 4 rfl) ?_
              obtain ⟨r32, μ31, h33, h⟩ := bd_ok h
              refine go_i (callV_run (As := [.int v3, .int v4]) (rest := []) C hl hP (hS.wide hJ).2.1 (iw hw (fi_11 hk0)) hk0 (m_X11_isRest l w hJ hw v0 v3 v4 hk0 μ h33) mv_X11_461 ⟨rfl, rfl, by decide, by decide⟩ rfl rfl (Nat.le_of_ble_eq_true rfl) ⟨Nat.zero_le _, Nat.zero_le _⟩ dX11_restOf_115) hS (fun H locs hP hS => ?_)
              refine lv_if_ne (tgt := 124) hx hb dX11_restOf_118 (by decide) (fun c34 => ?_) (fun c34 => ?_)
              · replace h := if_f c34 h
                refine lv_iload_n hx hb dX11_restOf_124 rfl (lv_at hl 2 rfl) ?_
                refine lv_iload_n hx hb dX11_restOf_125 rfl (lv_at hl 1 rfl) ?_
                refine lv_icmp_ne (tgt := 137) hx hb dX11_restOf_126 (by decide) (fun c35 => ?_) (fun c35 => ?_)
                · replace h := if_f c35 h
                  obtain ⟨x36, ex36⟩ : ∃ y : Int32, y = (v2 + (1 : Int32)) := ⟨_, rfl⟩
                  replace h := vl_ok ex36 h
                  refine lv_iinc (v := x36) (lv' := [(2, .int x36), (0, .ref (w.2.2.1 v0)), (1, .int v1), (3, .int v3), (4, .int v4)]) hx hb dX11_restOf_137 hl (k := 2) rfl (by rw [ex36]; rfl) (by decide) rfl (fun ls hl => ?_)
                  obtain ⟨x37, ex37⟩ : ∃ y : Int32, y = (v4 + (1 : Int32)) := ⟨_, rfl⟩
                  replace h := vl_ok ex37 h
                  refine lv_iinc (v := x37) (lv' := [(4, .int x37), (2, .int x36), (0, .ref (w.2.2.1 v0)), (1, .int v1), (3, .int v3)]) hx hb dX11_restOf_140 hl (k := 4) rfl (by rw [ex37]; rfl) (by decide) rfl (fun ls hl => ?_)
                  refine lv_goto (tgt := 100) hx hb dX11_restOf_143 (by decide) ?_
                  obtain ⟨rfl, rfl⟩ := leaf h
                  exact hP0_100 rfl _ _ _ hP hS (lv_sub hl [2, 3, 1, 4, 0] rfl)
                · replace h := if_t c35 h
                  obtain ⟨rfl, rfl⟩ := leaf h
                  exact ((hK0_100 1 rfl).2 rfl) _ _ _ hP hS (lv_sub hl [3, 4] rfl)
              · replace h := if_t c34 h
                refine lv_goto (tgt := 140) hx hb dX11_restOf_121 (by decide) ?_
                obtain ⟨x38, ex38⟩ : ∃ y : Int32, y = (v4 + (1 : Int32)) := ⟨_, rfl⟩
                replace h := vl_ok ex38 h
                refine lv_iinc (v := x38) (lv' := [(4, .int x38), (0, .ref (w.2.2.1 v0)), (1, .int v1), (2, .int v2), (3, .int v3)]) hx hb dX11_restOf_140 hl (k := 4) rfl (by rw [ex38]; rfl) (by decide) rfl (fun ls hl => ?_)
                refine lv_goto (tgt := 100) hx hb dX11_restOf_143 (by decide) ?_
                obtain ⟨rfl, rfl⟩ := leaf h
                exact hP0_100 rfl _ _ _ hP hS (lv_sub hl [1, 2, 3, 4, 0] rfl)
          · obtain ⟨x41, x42, μ43⟩ := q40
            try dsimp only at h
            refine ⟨fun ht => ?_, fun ht => ?_⟩
            · intro H locs ls hP hS hl
              have hP : fP w μ43 H := hP
              have hl : lv_has ls 5 [(0, .ref (w.2.2.1 v0)), (1, .int v1), (2, .int x41), (3, .int v3)] := hl
              replace h := if_t ht h
              obtain ⟨x44, ex44⟩ : ∃ y : Int32, y = (v3 + (1 : Int32)) := ⟨_, rfl⟩
              replace h := vl_ok ex44 h
              refine lv_iinc (v := x44) (lv' := [(3, .int x44), (0, .ref (w.2.2.1 v0)), (1, .int v1), (2, .int x41)]) hx hb dX11_restOf_146 hl (k := 3) rfl (by rw [ex44]; rfl) (by decide) rfl (fun ls hl => ?_)
              refine lv_goto (tgt := 87) hx hb dX11_restOf_149 (by decide) ?_
              obtain ⟨rfl, rfl⟩ := leaf h
              exact hP0_87 rfl _ _ _ hP hS (lv_sub hl [1, 2, 3, 0] rfl)
            · intro H locs ls hP hS hl
              have hP : fP w μ43 H := hP
              have hl : lv_has ls 5 [(3, .int v3), (4, .int x42)] := hl
              replace h := if_f (by rw [ht]; decide) h
              obtain ⟨rfl, rfl⟩ := leaf h
              exact ((hK0_87 1 rfl).2 rfl) _ _ _ hP hS (lv_sub hl [0, 1] rfl)
      · obtain ⟨x48, x49, x50, μ51⟩ := q47
        try dsimp only at h
        refine ⟨fun ht => ?_, fun ht => ?_⟩
        · intro H locs ls hP hS hl
          have hP : fP w μ51 H := hP
          have hl : lv_has ls 5 [(1, .int v1), (2, .int x48)] := hl
          replace h := if_t ht h
          refine lv_iload_n hx hb dX11_restOf_152 rfl (lv_at hl 0 rfl) ?_
          refine lv_iconst (v := (-1)) hx hb dX11_restOf_153 (by decide) ?_
          refine lv_icmp_ne (tgt := 161) hx hb dX11_restOf_154 (by decide) (fun c52 => ?_) (fun c52 => ?_)
          · replace h := if_f c52 h
            refine lv_bipush (v := (-2)) hx hb dX11_restOf_161 (by decide) ?_
            exact r_iret C hr hP hS h dX11_restOf_163
          · replace h := if_t c52 h
            refine lv_iload_n hx hb dX11_restOf_157 rfl (lv_at hl 1 rfl) ?_
            refine lv_goto (tgt := 163) hx hb dX11_restOf_158 (by decide) ?_
            exact r_iret C hr hP hS h dX11_restOf_163
        · intro H locs ls hP hS hl
          have hP : fP w μ51 H := hP
          have hl : lv_has ls 5 [(3, .int x49), (4, .int x50)] := hl
          replace h := if_f (by rw [ht]; decide) h
          refine lv_bipush (v := (10)) hx hb dX11_restOf_129 (by decide) ?_
          refine lv_iload_n hx hb dX11_restOf_131 rfl (lv_at hl 0 rfl) ?_
          refine lv_imul hx hb dX11_restOf_132 ?_
          refine lv_iload hx hb dX11_restOf_133 (lv_at hl 1 rfl) ?_
          refine lv_iadd hx hb dX11_restOf_135 ?_
          exact r_iret C hr hP hS h dX11_restOf_136

def f_X11_rests (v0 : Nat) (μ : fMem) : Option (Int32 × fMem) :=
  vl (sI μ v0 0 (0 : Int32)) fun μ1 => if (μ1.1 (v0 + 2) 0) = 0 then some ((-1 : Int32), μ1) else bd (f_X11_restOf v0 (-1 : Int32) μ1) fun r4 μ3 => some (r4, μ3)
def rm_X11_rests : Room := { frames := 7, cells := 0, slots := 0, locals := 225 }
set_option maxHeartbeats 4000000 in
set_option maxRecDepth 100000 in
theorem m_X11_rests (l : Launch) (w : fW) (hJ : fJ w) (hw : w.2.2.2 = sd 1) (v0 : Nat) (hk0 : kd v0 = (4, 11)) (μ : fMem) {r : Int32} {μr : fMem} (h : f_X11_rests v0 μ = some (r, μr)) : Met l yX11_rests (.code yX11_rests cX11_rests 1 (some .int) :: gw) rm_X11_rests (fPc w [.ref (w.2.2.1 v0)] μ) (fQi w r μr) 0 0 (fA w) := by
  refine met_of hJ (by decide) ?_ (Nat.le_of_ble_eq_true rfl)
  generalize ([.ref (w.2.2.1 v0)] : List Value).toArray = args
  intro p e s m below meth c ls C hr hP hl hS
  obtain ⟨hx, hb, hml, hown, hts, hK, -, hlk, hT⟩ := id C
  have hl : lv_has ls 1 [(0, .ref (w.2.2.1 v0))] := hl
  unfold f_X11_rests at h
  refine lv_aload_n hx hb dX11_rests_0 rfl (lv_at hl 0 rfl) ?_
  refine lv_iconst (v := (0)) hx hb dX11_rests_1 (by decide) ?_
  refine r_putI C hP hS (iw hw (fi_11 hk0)) hk0 fp_X11_148 rfl dX11_rests_2 (fun H locs hP hS => ?_)
  obtain ⟨μ1, eμ1, h⟩ := vl_ex h
  have hP : fP w μ1 H := by rw [eμ1]; exact hP
  refine lv_aload_n hx hb dX11_rests_5 rfl (lv_at hl 0 rfl) ?_
  refine r_getF (off := 2) C hP (iw hw (fi_11 hk0)) hk0 fl_X11_13 rfl rfl (zw hw) dX11_rests_6 ?_
  refine lv_iconst (v := (0)) hx hb dX11_rests_9 (by decide) ?_
  refine n_iald (j := 0) C hP (iw hw (ff_11_3 hk0).2) (ff_11_3 hk0).1 (by decide) (by decide) dX11_rests_10 ?_
  refine lv_if_ne (tgt := 18) hx hb dX11_rests_11 (by decide) (fun c2 => ?_) (fun c2 => ?_)
  · replace h := if_f c2 h
    refine lv_aload_n hx hb dX11_rests_18 rfl (lv_at hl 0 rfl) ?_
    refine lv_iconst (v := (-1)) hx hb dX11_rests_19 (by decide) ?_
    obtain ⟨r4, μ3, h5, h⟩ := bd_ok h
    refine go_i (callV_run (As := [.int (-1 : Int32)]) (rest := []) C hl hP (hS.wide hJ).2.1 (iw hw (fi_11 hk0)) hk0 (m_X11_restOf l w hJ hw v0 (-1 : Int32) hk0 μ1 h5) mv_X11_464 ⟨rfl, rfl, by decide, by decide⟩ rfl rfl (Nat.le_of_ble_eq_true rfl) ⟨Nat.zero_le _, Nat.zero_le _⟩ dX11_rests_20) hS (fun H locs hP hS => ?_)
    exact r_iret C hr hP hS h dX11_rests_23
  · replace h := if_t c2 h
    refine lv_iconst (v := (-1)) hx hb dX11_rests_14 (by decide) ?_
    refine lv_goto (tgt := 23) hx hb dX11_rests_15 (by decide) ?_
    exact r_iret C hr hP hS h dX11_rests_23

def f_X11_rest (v0 : Nat) (v1 : Int32) (μ : fMem) : Option (Int32 × fMem) :=
  vl (sI μ v0 0 (0 : Int32)) fun μ1 => if (μ1.1 (v0 + 2) 0) = 0 then some ((-1 : Int32), μ1) else if 0 ≤ v1 then bd (f_X11_restOf v0 v1 μ1) fun r5 μ4 => some (r5, μ4) else some ((-1 : Int32), μ1)
def rm_X11_rest : Room := { frames := 7, cells := 0, slots := 0, locals := 225 }
set_option maxHeartbeats 4000000 in
set_option maxRecDepth 100000 in
theorem m_X11_rest (l : Launch) (w : fW) (hJ : fJ w) (hw : w.2.2.2 = sd 1) (v0 : Nat) (v1 : Int32) (hk0 : kd v0 = (4, 11)) (μ : fMem) {r : Int32} {μr : fMem} (h : f_X11_rest v0 v1 μ = some (r, μr)) : Met l yX11_rest (.code yX11_rest cX11_rest 2 (some .int) :: gw) rm_X11_rest (fPc w [.ref (w.2.2.1 v0), .int v1] μ) (fQi w r μr) 0 0 (fA w) := by
  refine met_of hJ (by decide) ?_ (Nat.le_of_ble_eq_true rfl)
  generalize ([.ref (w.2.2.1 v0), .int v1] : List Value).toArray = args
  intro p e s m below meth c ls C hr hP hl hS
  obtain ⟨hx, hb, hml, hown, hts, hK, -, hlk, hT⟩ := id C
  have hl : lv_has ls 2 [(0, .ref (w.2.2.1 v0)), (1, .int v1)] := hl
  unfold f_X11_rest at h
  refine lv_aload_n hx hb dX11_rest_0 rfl (lv_at hl 0 rfl) ?_
  refine lv_iconst (v := (0)) hx hb dX11_rest_1 (by decide) ?_
  refine r_putI C hP hS (iw hw (fi_11 hk0)) hk0 fp_X11_148 rfl dX11_rest_2 (fun H locs hP hS => ?_)
  obtain ⟨μ1, eμ1, h⟩ := vl_ex h
  have hP : fP w μ1 H := by rw [eμ1]; exact hP
  refine lv_aload_n hx hb dX11_rest_5 rfl (lv_at hl 0 rfl) ?_
  refine r_getF (off := 2) C hP (iw hw (fi_11 hk0)) hk0 fl_X11_13 rfl rfl (zw hw) dX11_rest_6 ?_
  refine lv_iconst (v := (0)) hx hb dX11_rest_9 (by decide) ?_
  refine n_iald (j := 0) C hP (iw hw (ff_11_3 hk0).2) (ff_11_3 hk0).1 (by decide) (by decide) dX11_rest_10 ?_
  refine lv_if_eq (tgt := 18) hx hb dX11_rest_11 (by decide) (fun c2 => ?_) (fun c2 => ?_)
  · replace h := if_t c2 h
    refine lv_iconst (v := (-1)) hx hb dX11_rest_18 (by decide) ?_
    refine lv_goto (tgt := 27) hx hb dX11_rest_19 (by decide) ?_
    exact r_iret C hr hP hS h dX11_rest_27
  · replace h := if_f c2 h
    refine lv_iload_n hx hb dX11_rest_14 rfl (lv_at hl 1 rfl) ?_
    refine lv_if_ge (tgt := 22) hx hb dX11_rest_15 (by decide) (fun c3 => ?_) (fun c3 => ?_)
    · replace h := if_t c3 h
      refine lv_aload_n hx hb dX11_rest_22 rfl (lv_at hl 0 rfl) ?_
      refine lv_iload_n hx hb dX11_rest_23 rfl (lv_at hl 1 rfl) ?_
      obtain ⟨r5, μ4, h6, h⟩ := bd_ok h
      refine go_i (callV_run (As := [.int v1]) (rest := []) C hl hP (hS.wide hJ).2.1 (iw hw (fi_11 hk0)) hk0 (m_X11_restOf l w hJ hw v0 v1 hk0 μ1 h6) mv_X11_464 ⟨rfl, rfl, by decide, by decide⟩ rfl rfl (Nat.le_of_ble_eq_true rfl) ⟨Nat.zero_le _, Nat.zero_le _⟩ dX11_rest_24) hS (fun H locs hP hS => ?_)
      exact r_iret C hr hP hS h dX11_rest_27
    · replace h := if_f c3 h
      refine lv_iconst (v := (-1)) hx hb dX11_rest_18 (by decide) ?_
      refine lv_goto (tgt := 27) hx hb dX11_rest_19 (by decide) ?_
      exact r_iret C hr hP hS h dX11_rest_27

