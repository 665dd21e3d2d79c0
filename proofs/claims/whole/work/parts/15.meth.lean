def f_X6_share (v0 : Nat) (v1 : Int32) (v2 : Int32) (v3 : Int32) (μ : fMem) : Option (Int32 × fMem) :=
  gd (ixo v1 2) (gd (ixo v2 6) (if v2 = v3 then gd (ixo v2 6) (some (((μ.1 ((v0 + 2) + 1 + (Int32.toNatClampNeg v1)) (Int32.toNatClampNeg v2)) - (μ.1 (v0 + 5) (Int32.toNatClampNeg v2))), μ)) else some (((μ.1 ((v0 + 2) + 1 + (Int32.toNatClampNeg v1)) (Int32.toNatClampNeg v2)) - (0 : Int32)), μ)))
def rm_X6_share : Room := { frames := 0, cells := 0, slots := 0, locals := 0 }
set_option maxHeartbeats 4000000 in
set_option maxRecDepth 100000 in
theorem m_X6_share (l : Launch) (w : fW) (hJ : fJ w) (hw : w.2.2.2 = sd 0) (v0 : Nat) (v1 : Int32) (v2 : Int32) (v3 : Int32) (hk0 : kd v0 = (4, 6)) (μ : fMem) {r : Int32} {μr : fMem} (h : f_X6_share v0 v1 v2 v3 μ = some (r, μr)) : Met l yX6_share (.code yX6_share cX6_share 4 (some .int) :: gw) rm_X6_share (fPc w [.ref (w.2.2.1 v0), .int v1, .int v2, .int v3] μ) (fQi w r μr) 0 0 (fA w) := by
  refine met_of hJ (by decide) ?_ (Nat.le_of_ble_eq_true rfl)
  generalize ([.ref (w.2.2.1 v0), .int v1, .int v2, .int v3] : List Value).toArray = args
  intro p e s m below meth c ls C hr hP hl hS
  obtain ⟨hx, hb, hml, hown, hts, hK, -, hlk, hT⟩ := id C
  have hl : lv_has ls 4 [(0, .ref (w.2.2.1 v0)), (1, .int v1), (2, .int v2), (3, .int v3)] := hl
  unfold f_X6_share at h
  refine lv_aload_n hx hb dX6_share_0 rfl (lv_at hl 0 rfl) ?_
  refine r_getF (off := 2) C hP (iw hw (fi_6 hk0)) hk0 fl_X6_24 rfl rfl (zw hw) dX6_share_1 ?_
  refine lv_iload_n hx hb dX6_share_4 rfl (lv_at hl 1 rfl) ?_
  obtain ⟨g1, h⟩ := gd_ok h
  refine r_aald C hP (iw hw (ff_6_3 hk0).2) (ff_6_3 hk0).1 g1 dX6_share_5 ?_
  refine lv_iload_n hx hb dX6_share_6 rfl (lv_at hl 2 rfl) ?_
  obtain ⟨g2, h⟩ := gd_ok h
  refine r_iald C hP (iw hw (fr_row (ff_6_3 hk0).1 (ixlt g1)).2) (rowkd (fr_row (ff_6_3 hk0).1 (ixlt g1)).1 (f2_6_3 hk0)) g2 dX6_share_7 ?_
  refine lv_iload_n hx hb dX6_share_8 rfl (lv_at hl 2 rfl) ?_
  refine lv_iload_n hx hb dX6_share_9 rfl (lv_at hl 3 rfl) ?_
  refine lv_icmp_ne (tgt := 22) hx hb dX6_share_10 (by decide) (fun c3 => ?_) (fun c3 => ?_)
  · replace h := if_f c3 h
    refine lv_iconst (v := (0)) hx hb dX6_share_22 (by decide) ?_
    refine lv_isub hx hb dX6_share_23 ?_
    exact r_iret C hr hP hS h dX6_share_24
  · replace h := if_t c3 h
    refine lv_aload_n hx hb dX6_share_13 rfl (lv_at hl 0 rfl) ?_
    refine r_getF (off := 5) C hP (iw hw (fi_6 hk0)) hk0 fl_X6_27 rfl rfl (zw hw) dX6_share_14 ?_
    refine lv_iload_n hx hb dX6_share_17 rfl (lv_at hl 2 rfl) ?_
    obtain ⟨g4, h⟩ := gd_ok h
    refine r_iald C hP (iw hw (ff_6_4 hk0).2) (ff_6_4 hk0).1 g4 dX6_share_18 ?_
    refine lv_goto (tgt := 23) hx hb dX6_share_19 (by decide) ?_
    refine lv_isub hx hb dX6_share_23 ?_
    exact r_iret C hr hP hS h dX6_share_24

def f_X6_isBest_L12 (v0 : Nat) (v1 : Int32) (v3 : Int32) (r2 : Int32) (v5 : Int32) (μ : fMem) : Option (Nat × (Int32 × fMem)) :=
  if (μ.1 v0 2) ≤ v5 then some (1, (v5, μ)) else bd (f_X6_share v0 v1 v5 v3 μ) fun r6 μ5 => if r6 ≤ r2 then vl (v5 + (1 : Int32)) fun x9 => some (0, (x9, μ5)) else some (2, (v5, μ5))
def f_X6_isBest (v0 : Nat) (v1 : Int32) (v2 : Int32) (v3 : Int32) (μ : fMem) : Option (Int32 × fMem) :=
  bd (f_X6_share v0 v1 v2 v3 μ) fun r2 μ1 => bd (lpn (fun (q : Int32 × fMem) => f_X6_isBest_L12 v0 v1 v3 r2 q.1 q.2) fuel ((0 : Int32), μ1)) fun t10 q11 => (fun (x12 : Int32) (μ13 : fMem) => if t10 = 0 then gd (bl (1 : Int32)) (some ((1 : Int32), μ13)) else gd (bl (0 : Int32)) (some ((0 : Int32), μ13))) q11.1 q11.2
def rm_X6_isBest : Room := { frames := 1, cells := 0, slots := 0, locals := 23 }
set_option maxHeartbeats 4000000 in
set_option maxRecDepth 100000 in
theorem m_X6_isBest (l : Launch) (w : fW) (hJ : fJ w) (hw : w.2.2.2 = sd 0) (v0 : Nat) (v1 : Int32) (v2 : Int32) (v3 : Int32) (hk0 : kd v0 = (4, 6)) (μ : fMem) {r : Int32} {μr : fMem} (h : f_X6_isBest v0 v1 v2 v3 μ = some (r, μr)) : Met l yX6_isBest (.code yX6_isBest cX6_isBest 6 (some .boolean) :: gw) rm_X6_isBest (fPc w [.ref (w.2.2.1 v0), .int v1, .int v2, .int v3] μ) (fQi w r μr) 0 0 (fA w) := by
  refine met_of hJ (by decide) ?_ (Nat.le_of_ble_eq_true rfl)
  generalize ([.ref (w.2.2.1 v0), .int v1, .int v2, .int v3] : List Value).toArray = args
  intro p e s m below meth c ls C hr hP hl hS
  obtain ⟨hx, hb, hml, hown, hts, hK, -, hlk, hT⟩ := id C
  have hl : lv_has ls 6 [(0, .ref (w.2.2.1 v0)), (1, .int v1), (2, .int v2), (3, .int v3)] := hl
  unfold f_X6_isBest at h
  refine lv_aload_n hx hb dX6_isBest_0 rfl (lv_at hl 0 rfl) ?_
  refine lv_iload_n hx hb dX6_isBest_1 rfl (lv_at hl 1 rfl) ?_
  refine lv_iload_n hx hb dX6_isBest_2 rfl (lv_at hl 2 rfl) ?_
  refine lv_iload_n hx hb dX6_isBest_3 rfl (lv_at hl 3 rfl) ?_
  obtain ⟨r2, μ1, h3, h⟩ := bd_ok h
  refine go_i (callV_run (As := [.int v1, .int v2, .int v3]) (rest := []) C hl hP (hS.wide hJ).2.1 (iw hw (fi_6 hk0)) hk0 (m_X6_share l w hJ hw v0 v1 v2 v3 hk0 μ h3) mv_X6_74 ⟨rfl, rfl, by decide, by decide⟩ rfl rfl (Nat.le_of_ble_eq_true rfl) ⟨Nat.zero_le _, Nat.zero_le _⟩ dX6_isBest_4) hS (fun H locs hP hS => ?_)
  refine lv_istore (lv' := [(4, .int r2), (0, .ref (w.2.2.1 v0)), (1, .int v1), (2, .int v2), (3, .int v3)]) hx hb dX6_isBest_7 hl (by decide) rfl (fun ls hl => ?_)
  refine lv_iconst (v := (0)) hx hb dX6_isBest_9 (by decide) ?_
  refine lv_istore (lv' := [(5, .int (0 : Int32)), (4, .int r2), (0, .ref (w.2.2.1 v0)), (1, .int v1), (2, .int v2), (3, .int v3)]) hx hb dX6_isBest_10 hl (by decide) rfl (fun ls hl => ?_)
  obtain ⟨t10, q11, h14, h⟩ := bd_ok h
  refine lpn_ind (b := (fun (q : Int32 × fMem) => f_X6_isBest_L12 v0 v1 v3 r2 q.1 q.2)) (P := fun (q : Int32 × fMem) => WW p l e rm_X6_isBest s m args below meth c (MQ below (fQi w r μr) args s 0 0 (fA w)) w q.2 6 12 [] [(0, .ref (w.2.2.1 v0)), (1, .int v1), (3, .int v3), (4, .int r2), (5, .int q.1)]) (K := fun t (q : Int32 × fMem) => (t = 0 → WW p l e rm_X6_isBest s m args below meth c (MQ below (fQi w r μr) args s 0 0 (fA w)) w q.2 6 42 [] []) ∧ (t = 1 → WW p l e rm_X6_isBest s m args below meth c (MQ below (fQi w r μr) args s 0 0 (fA w)) w q.2 6 34 [] [])) ?_ fuel ((0 : Int32), μ1) t10 q11 h14 ?_ _ _ _ hP hS (lv_sub hl [2, 3, 5, 1, 0] rfl)
  · intro q tz12 sz12 h hP0_12 hK0_12 H locs ls hP hS hl
    obtain ⟨v5, μ⟩ := q
    have hP : fP w μ H := hP
    have hl : lv_has ls 6 [(0, .ref (w.2.2.1 v0)), (1, .int v1), (3, .int v3), (4, .int r2), (5, .int v5)] := hl
    have h : f_X6_isBest_L12 v0 v1 v3 r2 v5 μ = some (tz12, sz12) := h
    unfold f_X6_isBest_L12 at h
    refine lv_iload hx hb dX6_isBest_12 (lv_at hl 4 rfl) ?_
    refine lv_aload_n hx hb dX6_isBest_14 rfl (lv_at hl 0 rfl) ?_
    refine r_getI C hP (iw hw (fi_6 hk0)) hk0 fl_X6_19 (Or.inl rfl) dX6_isBest_15 ?_
    refine lv_icmp_ge (tgt := 42) hx hb dX6_isBest_18 (by decide) (fun c4 => ?_) (fun c4 => ?_)
    · replace h := if_t c4 h
      obtain ⟨rfl, rfl⟩ := leaf h
      exact ((hK0_12 0 rfl).1 rfl) _ _ _ hP hS (lv_sub hl [] rfl)
    · replace h := if_f c4 h
      refine lv_aload_n hx hb dX6_isBest_21 rfl (lv_at hl 0 rfl) ?_
      refine lv_iload_n hx hb dX6_isBest_22 rfl (lv_at hl 1 rfl) ?_
      refine lv_iload hx hb dX6_isBest_23 (lv_at hl 4 rfl) ?_
      refine lv_iload_n hx hb dX6_isBest_25 rfl (lv_at hl 2 rfl) ?_
      obtain ⟨r6, μ5, h7, h⟩ := bd_ok h
      refine go_i (callV_run (As := [.int v1, .int v5, .int v3]) (rest := []) C hl hP (hS.wide hJ).2.1 (iw hw (fi_6 hk0)) hk0 (m_X6_share l w hJ hw v0 v1 v5 v3 hk0 μ h7) mv_X6_74 ⟨rfl, rfl, by decide, by decide⟩ rfl rfl (Nat.le_of_ble_eq_true rfl) ⟨Nat.zero_le _, Nat.zero_le _⟩ dX6_isBest_26) hS (fun H locs hP hS => ?_)
      refine lv_iload hx hb dX6_isBest_29 (lv_at hl 3 rfl) ?_
      refine lv_icmp_le (tgt := 36) hx hb dX6_isBest_31 (by decide) (fun c8 => ?_) (fun c8 => ?_)
      · replace h := if_t c8 h
        obtain ⟨x9, ex9⟩ : ∃ y : Int32, y = (v5 + (1 : Int32)) := ⟨_, rfl⟩
        replace h := vl_ok ex9 h
        refine lv_iinc (v := x9) (lv' := [(5, .int x9), (0, .ref (w.2.2.1 v0)), (1, .int v1), (3, .int v3), (4, .int r2)]) hx hb dX6_isBest_36 hl (k := 4) rfl (by rw [ex9]; rfl) (by decide) rfl (fun ls hl => ?_)
        refine lv_goto (tgt := 12) hx hb dX6_isBest_39 (by decide) ?_
        obtain ⟨rfl, rfl⟩ := leaf h
        exact hP0_12 rfl _ _ _ hP hS (lv_sub hl [1, 2, 3, 4, 0] rfl)
      · replace h := if_f c8 h
        obtain ⟨rfl, rfl⟩ := leaf h
        exact ((hK0_12 1 rfl).2 rfl) _ _ _ hP hS (lv_sub hl [] rfl)
  · obtain ⟨x12, μ13⟩ := q11
    try dsimp only at h
    refine ⟨fun ht => ?_, fun ht => ?_⟩
    · intro H locs ls hP hS hl
      have hP : fP w μ13 H := hP
      have hl : lv_has ls 6 [] := hl
      replace h := if_t ht h
      refine lv_iconst (v := (1)) hx hb dX6_isBest_42 (by decide) ?_
      exact r_zret C hr hP hS h dX6_isBest_43
    · intro H locs ls hP hS hl
      have hP : fP w μ13 H := hP
      have hl : lv_has ls 6 [] := hl
      replace h := if_f (by rw [ht]; decide) h
      refine lv_iconst (v := (0)) hx hb dX6_isBest_34 (by decide) ?_
      exact r_zret C hr hP hS h dX6_isBest_35

def f_X6_work_L41 (v0 : Nat) (v4 : Int32) (v5 : Int32) (μ : fMem) : Option (Nat × (Int32 × fMem)) :=
  if (μ.1 v0 2) ≤ v5 then some (1, (v5, μ)) else bd (f_X6_isBest v0 (0 : Int32) v4 v5 μ) fun r12 μ11 => if r12 = 0 then vl (v5 + (1 : Int32)) fun x15 => some (0, (x15, μ11)) else bd (f_X6_isBest v0 (1 : Int32) v5 v4 μ11) fun r17 μ16 => if r17 = 0 then vl (v5 + (1 : Int32)) fun x20 => some (0, (x20, μ16)) else if (36 : Int32) ≤ (μ16.1 v0 0) then vl (v5 + (1 : Int32)) fun x22 => some (0, (x22, μ16)) else gd (ixo (μ16.1 v0 0) 36) (vl (sI μ16 (v0 + 1) (Int32.toNatClampNeg (μ16.1 v0 0)) (((10 : Int32) * v4) + v5)) fun μ23 => vl (sI μ23 v0 0 ((μ23.1 v0 0) + (1 : Int32))) fun μ25 => vl (v5 + (1 : Int32)) fun x26 => some (0, (x26, μ25)))
def f_X6_work_L29 (v0 : Nat) (v4 : Int32) (μ : fMem) : Option (Nat × (Int32 × fMem)) :=
  if (μ.1 v0 2) ≤ v4 then some (1, (v4, μ)) else bd (lpn (fun (q : Int32 × fMem) => f_X6_work_L41 v0 v4 q.1 q.2) fuel ((0 : Int32), μ)) fun t27 q28 => (fun (x29 : Int32) (μ30 : fMem) => vl (v4 + (1 : Int32)) fun x31 => some (0, (x31, μ30))) q28.1 q28.2
def f_X6_work (v0 : Nat) (v1 : Nat) (v2 : Nat) (v3 : Nat) (μ : fMem) : Option (Unit × fMem) :=
  bd (f_X2_told v1 (0 : Int32) μ) fun r2 μ1 => vl (sI μ1 v0 2 (imn (6 : Int32) r2)) fun μ4 => bd (f_X6_weigh v0 v1 v2 v3 μ4) fun r6 μ5 => vl (sI μ5 v0 0 (0 : Int32)) fun μ8 => bd (lpn (fun (q : Int32 × fMem) => f_X6_work_L29 v0 q.1 q.2) fuel ((0 : Int32), μ8)) fun t33 q34 => (fun (x35 : Int32) (μ36 : fMem) => some ((), μ36)) q34.1 q34.2
def rm_X6_work : Room := { frames := 4, cells := 0, slots := 0, locals := 157 }
set_option maxHeartbeats 4000000 in
set_option maxRecDepth 100000 in
theorem m_X6_work (l : Launch) (w : fW) (hJ : fJ w) (hw : w.2.2.2 = sd 0) (v0 : Nat) (v1 : Nat) (v2 : Nat) (v3 : Nat) (hk0 : kd v0 = (4, 6)) (hk1 : kd v1 = (4, 2)) (hk2 : kd v2 = (4, 7)) (hk3 : kd v3 = (4, 0)) (μ : fMem) {r : Unit} {μr : fMem} (h : f_X6_work v0 v1 v2 v3 μ = some (r, μr)) : Met l yX6_work (.code yX6_work cX6_work 6 none :: gw) rm_X6_work (fPc w [.ref (w.2.2.1 v0), .ref (w.2.2.1 v1), .ref (w.2.2.1 v2), .ref (w.2.2.1 v3)] μ) (fQv w μr) 0 0 (fA w) := by
  refine met_of hJ (by decide) ?_ (Nat.le_of_ble_eq_true rfl)
  generalize ([.ref (w.2.2.1 v0), .ref (w.2.2.1 v1), .ref (w.2.2.1 v2), .ref (w.2.2.1 v3)] : List Value).toArray = args
  intro p e s m below meth c ls C hr hP hl hS
  obtain ⟨hx, hb, hml, hown, hts, hK, -, hlk, hT⟩ := id C
  have hl : lv_has ls 6 [(0, .ref (w.2.2.1 v0)), (1, .ref (w.2.2.1 v1)), (2, .ref (w.2.2.1 v2)), (3, .ref (w.2.2.1 v3))] := hl
  unfold f_X6_work at h
  refine lv_aload_n hx hb dX6_work_0 rfl (lv_at hl 0 rfl) ?_
  refine lv_bipush (v := (6)) hx hb dX6_work_1 (by decide) ?_
  refine lv_aload_n hx hb dX6_work_3 rfl (lv_at hl 1 rfl) ?_
  refine lv_iconst (v := (0)) hx hb dX6_work_4 (by decide) ?_
  obtain ⟨r2, μ1, h3, h⟩ := bd_ok h
  refine go_i (callV_run (As := [.int (0 : Int32)]) (rest := [.int (6 : Int32), .ref (w.2.2.1 v0)]) C hl hP (hS.wide hJ).2.1 (iw hw (fi_2 hk1)) hk1 (m_X2_told l w hJ hw v1 (0 : Int32) hk1 μ h3) mv_X6_30 ⟨rfl, rfl, by decide, by decide⟩ rfl rfl (Nat.le_of_ble_eq_true rfl) ⟨Nat.zero_le _, Nat.zero_le _⟩ dX6_work_5) hS (fun H locs hP hS => ?_)
  refine b_mmin (rest := [.ref (w.2.2.1 v0)]) C hl mm_X6_36 (by decide) (Nat.le_of_ble_eq_true rfl) dX6_work_8 ?_
  refine r_putI C hP hS (iw hw (fi_6 hk0)) hk0 fp_X6_19 rfl dX6_work_11 (fun H locs hP hS => ?_)
  obtain ⟨μ4, eμ4, h⟩ := vl_ex h
  have hP : fP w μ4 H := by rw [eμ4]; exact hP
  refine lv_aload_n hx hb dX6_work_14 rfl (lv_at hl 0 rfl) ?_
  refine lv_aload_n hx hb dX6_work_15 rfl (lv_at hl 1 rfl) ?_
  refine lv_aload_n hx hb dX6_work_16 rfl (lv_at hl 2 rfl) ?_
  refine lv_aload_n hx hb dX6_work_17 rfl (lv_at hl 3 rfl) ?_
  obtain ⟨r6, μ5, h7, h⟩ := bd_ok h
  refine go_v (callV_run (As := [.ref (w.2.2.1 v1), .ref (w.2.2.1 v2), .ref (w.2.2.1 v3)]) (rest := []) C hl hP (hS.wide hJ).2.1 (iw hw (fi_6 hk0)) hk0 (m_X6_weigh l w hJ hw v0 v1 v2 v3 hk0 hk1 hk2 hk3 μ4 h7) mv_X6_42 ⟨rfl, rfl, by decide, by decide⟩ rfl rfl (Nat.le_of_ble_eq_true rfl) ⟨Nat.zero_le _, Nat.zero_le _⟩ dX6_work_18) hS (fun H locs hP hS => ?_)
  refine lv_aload_n hx hb dX6_work_21 rfl (lv_at hl 0 rfl) ?_
  refine lv_iconst (v := (0)) hx hb dX6_work_22 (by decide) ?_
  refine r_putI C hP hS (iw hw (fi_6 hk0)) hk0 fp_X6_9 rfl dX6_work_23 (fun H locs hP hS => ?_)
  obtain ⟨μ8, eμ8, h⟩ := vl_ex h
  have hP : fP w μ8 H := by rw [eμ8]; exact hP
  refine lv_iconst (v := (0)) hx hb dX6_work_26 (by decide) ?_
  refine lv_istore (lv' := [(4, .int (0 : Int32)), (0, .ref (w.2.2.1 v0)), (1, .ref (w.2.2.1 v1)), (2, .ref (w.2.2.1 v2)), (3, .ref (w.2.2.1 v3))]) hx hb dX6_work_27 hl (by decide) rfl (fun ls hl => ?_)
  obtain ⟨t33, q34, h37, h⟩ := bd_ok h
  refine lpn_ind (b := (fun (q : Int32 × fMem) => f_X6_work_L29 v0 q.1 q.2)) (P := fun (q : Int32 × fMem) => WW p l e rm_X6_work s m args below meth c (MQ below (fQv w μr) args s 0 0 (fA w)) w q.2 6 29 [] [(0, .ref (w.2.2.1 v0)), (4, .int q.1)]) (K := fun _ (q : Int32 × fMem) => WW p l e rm_X6_work s m args below meth c (MQ below (fQv w μr) args s 0 0 (fA w)) w q.2 6 125 [] []) ?_ fuel ((0 : Int32), μ8) t33 q34 h37 ?_ _ _ _ hP hS (lv_sub hl [1, 0] rfl)
  · intro q tz29 sz29 h hP0_29 hK0_29 H locs ls hP hS hl
    obtain ⟨v4, μ⟩ := q
    have hP : fP w μ H := hP
    have hl : lv_has ls 6 [(0, .ref (w.2.2.1 v0)), (4, .int v4)] := hl
    have h : f_X6_work_L29 v0 v4 μ = some (tz29, sz29) := h
    unfold f_X6_work_L29 at h
    refine lv_iload hx hb dX6_work_29 (lv_at hl 1 rfl) ?_
    refine lv_aload_n hx hb dX6_work_31 rfl (lv_at hl 0 rfl) ?_
    refine r_getI C hP (iw hw (fi_6 hk0)) hk0 fl_X6_19 (Or.inl rfl) dX6_work_32 ?_
    refine lv_icmp_ge (tgt := 125) hx hb dX6_work_35 (by decide) (fun c9 => ?_) (fun c9 => ?_)
    · replace h := if_t c9 h
      obtain ⟨rfl, rfl⟩ := leaf h
      exact (hK0_29 0 rfl) _ _ _ hP hS (lv_sub hl [] rfl)
    · replace h := if_f c9 h
      refine lv_iconst (v := (0)) hx hb dX6_work_38 (by decide) ?_
      refine lv_istore (lv' := [(5, .int (0 : Int32)), (0, .ref (w.2.2.1 v0)), (4, .int v4)]) hx hb dX6_work_39 hl (by decide) rfl (fun ls hl => ?_)
      obtain ⟨t27, q28, h32, h⟩ := bd_ok h
      refine lpn_ind (b := (fun (q : Int32 × fMem) => f_X6_work_L41 v0 v4 q.1 q.2)) (P := fun (q : Int32 × fMem) => WW p l e rm_X6_work s m args below meth c (MQ below (fQv w μr) args s 0 0 (fA w)) w q.2 6 41 [] [(0, .ref (w.2.2.1 v0)), (4, .int v4), (5, .int q.1)]) (K := fun _ (q : Int32 × fMem) => WW p l e rm_X6_work s m args below meth c (MQ below (fQv w μr) args s 0 0 (fA w)) w q.2 6 119 [] [(0, .ref (w.2.2.1 v0)), (4, .int v4)]) ?_ fuel ((0 : Int32), μ) t27 q28 h32 ?_ _ _ _ hP hS (lv_sub hl [1, 2, 0] rfl)
      · intro q tz41 sz41 h hP0_41 hK0_41 H locs ls hP hS hl
        obtain ⟨v5, μ⟩ := q
        have hP : fP w μ H := hP
        have hl : lv_has ls 6 [(0, .ref (w.2.2.1 v0)), (4, .int v4), (5, .int v5)] := hl
        have h : f_X6_work_L41 v0 v4 v5 μ = some (tz41, sz41) := h
        unfold f_X6_work_L41 at h
        refine lv_iload hx hb dX6_work_41 (lv_at hl 2 rfl) ?_
        refine lv_aload_n hx hb dX6_work_43 rfl (lv_at hl 0 rfl) ?_
        refine r_getI C hP (iw hw (fi_6 hk0)) hk0 fl_X6_19 (Or.inl rfl) dX6_work_44 ?_
        refine lv_icmp_ge (tgt := 119) hx hb dX6_work_47 (by decide) (fun c10 => ?_) (fun c10 => ?_)
        · replace h := if_t c10 h
          obtain ⟨rfl, rfl⟩ := leaf h
          exact (hK0_41 0 rfl) _ _ _ hP hS (lv_sub hl [0, 1] rfl)
        · replace h := if_f c10 h
          refine lv_aload_n hx hb dX6_work_50 rfl (lv_at hl 0 rfl) ?_
          refine lv_iconst (v := (0)) hx hb dX6_work_51 (by decide) ?_
          refine lv_iload hx hb dX6_work_52 (lv_at hl 1 rfl) ?_
          refine lv_iload hx hb dX6_work_54 (lv_at hl 2 rfl) ?_
          obtain ⟨r12, μ11, h13, h⟩ := bd_ok h
          refine go_i (callV_run (As := [.int (0 : Int32), .int v4, .int v5]) (rest := []) C hl hP (hS.wide hJ).2.1 (iw hw (fi_6 hk0)) hk0 (m_X6_isBest l w hJ hw v0 (0 : Int32) v4 v5 hk0 μ h13) mv_X6_46 ⟨rfl, rfl, by decide, by decide⟩ rfl rfl (Nat.le_of_ble_eq_true rfl) ⟨Nat.zero_le _, Nat.zero_le _⟩ dX6_work_56) hS (fun H locs hP hS => ?_)
          refine lv_if_eq (tgt := 113) hx hb dX6_work_59 (by decide) (fun c14 => ?_) (fun c14 => ?_)
          · replace h := if_t c14 h
            obtain ⟨x15, ex15⟩ : ∃ y : Int32, y = (v5 + (1 : Int32)) := ⟨_, rfl⟩
            replace h := vl_ok ex15 h
            refine lv_iinc (v := x15) (lv' := [(5, .int x15), (0, .ref (w.2.2.1 v0)), (4, .int v4)]) hx hb dX6_work_113 hl (k := 2) rfl (by rw [ex15]; rfl) (by decide) rfl (fun ls hl => ?_)
            refine lv_goto (tgt := 41) hx hb dX6_work_116 (by decide) ?_
            obtain ⟨rfl, rfl⟩ := leaf h
            exact hP0_41 rfl _ _ _ hP hS (lv_sub hl [1, 2, 0] rfl)
          · replace h := if_f c14 h
            refine lv_aload_n hx hb dX6_work_62 rfl (lv_at hl 0 rfl) ?_
            refine lv_iconst (v := (1)) hx hb dX6_work_63 (by decide) ?_
            refine lv_iload hx hb dX6_work_64 (lv_at hl 2 rfl) ?_
            refine lv_iload hx hb dX6_work_66 (lv_at hl 1 rfl) ?_
            obtain ⟨r17, μ16, h18, h⟩ := bd_ok h
            refine go_i (callV_run (As := [.int (1 : Int32), .int v5, .int v4]) (rest := []) C hl hP (hS.wide hJ).2.1 (iw hw (fi_6 hk0)) hk0 (m_X6_isBest l w hJ hw v0 (1 : Int32) v5 v4 hk0 μ11 h18) mv_X6_46 ⟨rfl, rfl, by decide, by decide⟩ rfl rfl (Nat.le_of_ble_eq_true rfl) ⟨Nat.zero_le _, Nat.zero_le _⟩ dX6_work_68) hS (fun H locs hP hS => ?_)
            refine lv_if_eq (tgt := 113) hx hb dX6_work_71 (by decide) (fun c19 => ?_) (fun c19 => ?_)
            · replace h := if_t c19 h
              obtain ⟨x20, ex20⟩ : ∃ y : Int32, y = (v5 + (1 : Int32)) := ⟨_, rfl⟩
              replace h := vl_ok ex20 h
              refine lv_iinc (v := x20) (lv' := [(5, .int x20), (0, .ref (w.2.2.1 v0)), (4, .int v4)]) hx hb dX6_work_113 hl (k := 2) rfl (by rw [ex20]; rfl) (by decide) rfl (fun ls hl => ?_)
              refine lv_goto (tgt := 41) hx hb dX6_work_116 (by decide) ?_
              obtain ⟨rfl, rfl⟩ := leaf h
              exact hP0_41 rfl _ _ _ hP hS (lv_sub hl [1, 2, 0] rfl)
            · replace h := if_f c19 h
              refine lv_aload_n hx hb dX6_work_74 rfl (lv_at hl 0 rfl) ?_
              refine r_getI C hP (iw hw (fi_6 hk0)) hk0 fl_X6_9 (Or.inl rfl) dX6_work_75 ?_
              refine lv_aload_n hx hb dX6_work_78 rfl (lv_at hl 0 rfl) ?_
              refine r_getF (off := 1) C hP (iw hw (fi_6 hk0)) hk0 fl_X6_15 rfl rfl (zw hw) dX6_work_79 ?_
              refine r_alen (v := 36) C hP (iw hw (ff_6_1 hk0).2) (Or.inl (ff_6_1 hk0).1) (by decide) dX6_work_82 ?_
              refine lv_icmp_ge (tgt := 113) hx hb dX6_work_83 (by decide) (fun c21 => ?_) (fun c21 => ?_)
              · replace h := if_t c21 h
                obtain ⟨x22, ex22⟩ : ∃ y : Int32, y = (v5 + (1 : Int32)) := ⟨_, rfl⟩
                replace h := vl_ok ex22 h
                refine lv_iinc (v := x22) (lv' := [(5, .int x22), (0, .ref (w.2.2.1 v0)), (4, .int v4)]) hx hb dX6_work_113 hl (k := 2) rfl (by rw [ex22]; rfl) (by decide) rfl (fun ls hl => ?_)
                refine lv_goto (tgt := 41) hx hb dX6_work_116 (by decide) ?_
                obtain ⟨rfl, rfl⟩ := leaf h
                exact hP0_41 rfl _ _ _ hP hS (lv_sub hl [1, 2, 0] rfl)
              · replace h := if_f c21 h
                refine lv_aload_n hx hb dX6_work_86 rfl (lv_at hl 0 rfl) ?_
                refine r_getF (off := 1) C hP (iw hw (fi_6 hk0)) hk0 fl_X6_15 rfl rfl (zw hw) dX6_work_87 ?_
                refine lv_aload_n hx hb dX6_work_90 rfl (lv_at hl 0 rfl) ?_
                refine r_getI C hP (iw hw (fi_6 hk0)) hk0 fl_X6_9 (Or.inl rfl) dX6_work_91 ?_
                refine lv_bipush (v := (10)) hx hb dX6_work_94 (by decide) ?_
                refine lv_iload hx hb dX6_work_96 (lv_at hl 1 rfl) ?_
                refine lv_imul hx hb dX6_work_98 ?_
                refine lv_iload hx hb dX6_work_99 (lv_at hl 2 rfl) ?_
                refine lv_iadd hx hb dX6_work_101 ?_
                obtain ⟨g24, h⟩ := gd_ok h
                refine r_iast C hP hS (iw hw (ff_6_1 hk0).2) (ff_6_1 hk0).1 g24 dX6_work_102 (fun H locs hP hS => ?_)
                obtain ⟨μ23, eμ23, h⟩ := vl_ex h
                have hP : fP w μ23 H := by rw [eμ23]; exact hP
                refine lv_aload_n hx hb dX6_work_103 rfl (lv_at hl 0 rfl) ?_
                refine lv_dup hx hb dX6_work_104 rfl ?_
                refine r_getI C hP (iw hw (fi_6 hk0)) hk0 fl_X6_9 (Or.inl rfl) dX6_work_105 ?_
                refine lv_iconst (v := (1)) hx hb dX6_work_108 (by decide) ?_
                refine lv_iadd hx hb dX6_work_109 ?_
                refine r_putI C hP hS (iw hw (fi_6 hk0)) hk0 fp_X6_9 rfl dX6_work_110 (fun H locs hP hS => ?_)
                obtain ⟨μ25, eμ25, h⟩ := vl_ex h
                have hP : fP w μ25 H := by rw [eμ25]; exact hP
                obtain ⟨x26, ex26⟩ : ∃ y : Int32, y = (v5 + (1 : Int32)) := ⟨_, rfl⟩
                replace h := vl_ok ex26 h
                refine lv_iinc (v := x26) (lv' := [(5, .int x26), (0, .ref (w.2.2.1 v0)), (4, .int v4)]) hx hb dX6_work_113 hl (k := 2) rfl (by rw [ex26]; rfl) (by decide) rfl (fun ls hl => ?_)
                refine lv_goto (tgt := 41) hx hb dX6_work_116 (by decide) ?_
                obtain ⟨rfl, rfl⟩ := leaf h
                exact hP0_41 rfl _ _ _ hP hS (lv_sub hl [1, 2, 0] rfl)
      · obtain ⟨x29, μ30⟩ := q28
        intro H locs ls hP hS hl
        have hP : fP w μ30 H := hP
        have hl : lv_has ls 6 [(0, .ref (w.2.2.1 v0)), (4, .int v4)] := hl
        try dsimp only at h
        obtain ⟨x31, ex31⟩ : ∃ y : Int32, y = (v4 + (1 : Int32)) := ⟨_, rfl⟩
        replace h := vl_ok ex31 h
        refine lv_iinc (v := x31) (lv' := [(4, .int x31), (0, .ref (w.2.2.1 v0))]) hx hb dX6_work_119 hl (k := 1) rfl (by rw [ex31]; rfl) (by decide) rfl (fun ls hl => ?_)
        refine lv_goto (tgt := 29) hx hb dX6_work_122 (by decide) ?_
        obtain ⟨rfl, rfl⟩ := leaf h
        exact hP0_29 rfl _ _ _ hP hS (lv_sub hl [1, 0] rfl)
  · obtain ⟨x35, μ36⟩ := q34
    intro H locs ls hP hS hl
    have hP : fP w μ36 H := hP
    have hl : lv_has ls 6 [] := hl
    try dsimp only at h
    exact r_vret C hr hP hS h dX6_work_125

def f_X7_enter_L10 (v0 : Nat) (v1 : Nat) (v2 : Int32) (μ : fMem) : Option (Nat × (Int32 × fMem)) :=
  bd (f_X2_told v1 (2 : Int32) μ) fun r5 μ4 => if r5 ≤ v2 then some (1, (v2, μ4)) else if (8 : Int32) ≤ v2 then some (1, (v2, μ4)) else gd (ixo v2 8) (gd (ixo v2 8) (vl (sI μ4 (v0 + 1) (Int32.toNatClampNeg v2) (μ4.1 (v1 + 8) (Int32.toNatClampNeg v2))) fun μ10 => vl (v2 + (1 : Int32)) fun x12 => some (0, (x12, μ10))))
def f_X7_enter (v0 : Nat) (v1 : Nat) (μ : fMem) : Option (Unit × fMem) :=
  bd (f_J7_fill_53178 (v0 + 1) (-1 : Int32) μ) fun r2 μ1 => bd (lpn (fun (q : Int32 × fMem) => f_X7_enter_L10 v0 v1 q.1 q.2) fuel ((0 : Int32), μ1)) fun t13 q14 => (fun (x15 : Int32) (μ16 : fMem) => bd (f_J7_fill_53178 (v0 + 2) (0 : Int32) μ16) fun r18 μ17 => bd (f_J7_fill_53178 (v0 + 3) (0 : Int32) μ17) fun r21 μ20 => bd (f_J7_fill_53178 (v0 + 4) (0 : Int32) μ20) fun r24 μ23 => bd (f_J7_fill_53178 (v0 + 5) (0 : Int32) μ23) fun r27 μ26 => vl (sI μ26 v0 5 (0 : Int32)) fun μ29 => vl (sI μ29 v0 6 (0 : Int32)) fun μ30 => some ((), μ30)) q14.1 q14.2
def rm_X7_enter : Room := { frames := 1, cells := 0, slots := 0, locals := 23 }
set_option maxHeartbeats 4000000 in
set_option maxRecDepth 100000 in
theorem m_X7_enter (l : Launch) (w : fW) (hJ : fJ w) (hw : w.2.2.2 = sd 0) (v0 : Nat) (v1 : Nat) (hk0 : kd v0 = (4, 7)) (hk1 : kd v1 = (4, 2)) (μ : fMem) {r : Unit} {μr : fMem} (h : f_X7_enter v0 v1 μ = some (r, μr)) : Met l yX7_enter (.code yX7_enter cX7_enter 3 none :: gw) rm_X7_enter (fPc w [.ref (w.2.2.1 v0), .ref (w.2.2.1 v1)] μ) (fQv w μr) 0 0 (fA w) := by
  refine met_of hJ (by decide) ?_ (Nat.le_of_ble_eq_true rfl)
  generalize ([.ref (w.2.2.1 v0), .ref (w.2.2.1 v1)] : List Value).toArray = args
  intro p e s m below meth c ls C hr hP hl hS
  obtain ⟨hx, hb, hml, hown, hts, hK, -, hlk, hT⟩ := id C
  have hl : lv_has ls 3 [(0, .ref (w.2.2.1 v0)), (1, .ref (w.2.2.1 v1))] := hl
  unfold f_X7_enter at h
  refine lv_aload_n hx hb dX7_enter_0 rfl (lv_at hl 0 rfl) ?_
  refine r_getF (off := 1) C hP (iw hw (fi_7 hk0)) hk0 fl_X7_9 rfl rfl (zw hw) dX7_enter_1 ?_
  refine lv_iconst (v := (-1)) hx hb dX7_enter_4 (by decide) ?_
  obtain ⟨r2, μ1, h3, h⟩ := bd_ok h
  refine go_v (callS_run (As := [.ref (w.2.2.1 (v0 + 1)), .int (-1 : Int32)]) (rest := []) C hl hP (hS.wide hJ).2.1 (m_J7_fill_53178 l w hJ (v0 + 1) (-1 : Int32) (karr (ff_7_0 hk0).1) (iw hw (ff_7_0 hk0).2) μ h3) ms_X7_34 ⟨rfl, rfl, by decide, by decide⟩ rfl rfl (Nat.le_of_ble_eq_true rfl) ⟨Nat.zero_le _, Nat.zero_le _⟩ dX7_enter_5) hS (fun H locs hP hS => ?_)
  refine lv_iconst (v := (0)) hx hb dX7_enter_8 (by decide) ?_
  refine lv_istore_n (lv' := [(2, .int (0 : Int32)), (0, .ref (w.2.2.1 v0)), (1, .ref (w.2.2.1 v1))]) hx hb dX7_enter_9 rfl hl (by decide) rfl (fun ls hl => ?_)
  obtain ⟨t13, q14, h31, h⟩ := bd_ok h
  refine lpn_ind (b := (fun (q : Int32 × fMem) => f_X7_enter_L10 v0 v1 q.1 q.2)) (P := fun (q : Int32 × fMem) => WW p l e rm_X7_enter s m args below meth c (MQ below (fQv w μr) args s 0 0 (fA w)) w q.2 3 10 [] [(0, .ref (w.2.2.1 v0)), (1, .ref (w.2.2.1 v1)), (2, .int q.1)]) (K := fun _ (q : Int32 × fMem) => WW p l e rm_X7_enter s m args below meth c (MQ below (fQv w μr) args s 0 0 (fA w)) w q.2 3 46 [] [(0, .ref (w.2.2.1 v0))]) ?_ fuel ((0 : Int32), μ1) t13 q14 h31 ?_ _ _ _ hP hS (lv_sub hl [1, 2, 0] rfl)
  · intro q tz10 sz10 h hP0_10 hK0_10 H locs ls hP hS hl
    obtain ⟨v2, μ⟩ := q
    have hP : fP w μ H := hP
    have hl : lv_has ls 3 [(0, .ref (w.2.2.1 v0)), (1, .ref (w.2.2.1 v1)), (2, .int v2)] := hl
    have h : f_X7_enter_L10 v0 v1 v2 μ = some (tz10, sz10) := h
    unfold f_X7_enter_L10 at h
    refine lv_iload_n hx hb dX7_enter_10 rfl (lv_at hl 2 rfl) ?_
    refine lv_aload_n hx hb dX7_enter_11 rfl (lv_at hl 1 rfl) ?_
    refine lv_iconst (v := (2)) hx hb dX7_enter_12 (by decide) ?_
    obtain ⟨r5, μ4, h6, h⟩ := bd_ok h
    refine go_i (callV_run (As := [.int (2 : Int32)]) (rest := [.int v2]) C hl hP (hS.wide hJ).2.1 (iw hw (fi_2 hk1)) hk1 (m_X2_told l w hJ hw v1 (2 : Int32) hk1 μ h6) mv_X7_40 ⟨rfl, rfl, by decide, by decide⟩ rfl rfl (Nat.le_of_ble_eq_true rfl) ⟨Nat.zero_le _, Nat.zero_le _⟩ dX7_enter_13) hS (fun H locs hP hS => ?_)
    refine lv_icmp_ge (tgt := 46) hx hb dX7_enter_16 (by decide) (fun c7 => ?_) (fun c7 => ?_)
    · replace h := if_t c7 h
      obtain ⟨rfl, rfl⟩ := leaf h
      exact (hK0_10 0 rfl) _ _ _ hP hS (lv_sub hl [0] rfl)
    · replace h := if_f c7 h
      refine lv_iload_n hx hb dX7_enter_19 rfl (lv_at hl 2 rfl) ?_
      refine lv_aload_n hx hb dX7_enter_20 rfl (lv_at hl 0 rfl) ?_
      refine r_getF (off := 1) C hP (iw hw (fi_7 hk0)) hk0 fl_X7_9 rfl rfl (zw hw) dX7_enter_21 ?_
      refine r_alen (v := 8) C hP (iw hw (ff_7_0 hk0).2) (Or.inl (ff_7_0 hk0).1) (by decide) dX7_enter_24 ?_
      refine lv_icmp_ge (tgt := 46) hx hb dX7_enter_25 (by decide) (fun c8 => ?_) (fun c8 => ?_)
      · replace h := if_t c8 h
        obtain ⟨rfl, rfl⟩ := leaf h
        exact (hK0_10 0 rfl) _ _ _ hP hS (lv_sub hl [0] rfl)
      · replace h := if_f c8 h
        refine lv_aload_n hx hb dX7_enter_28 rfl (lv_at hl 0 rfl) ?_
        refine r_getF (off := 1) C hP (iw hw (fi_7 hk0)) hk0 fl_X7_9 rfl rfl (zw hw) dX7_enter_29 ?_
        refine lv_iload_n hx hb dX7_enter_32 rfl (lv_at hl 2 rfl) ?_
        refine lv_aload_n hx hb dX7_enter_33 rfl (lv_at hl 1 rfl) ?_
        refine r_getF (off := 8) C hP (iw hw (fi_2 hk1)) hk1 fl_X7_46 rfl rfl (zw hw) dX7_enter_34 ?_
        refine lv_iload_n hx hb dX7_enter_37 rfl (lv_at hl 2 rfl) ?_
        obtain ⟨g9, h⟩ := gd_ok h
        refine r_iald C hP (iw hw (ff_2_5 hk1).2) (ff_2_5 hk1).1 g9 dX7_enter_38 ?_
        obtain ⟨g11, h⟩ := gd_ok h
        refine r_iast C hP hS (iw hw (ff_7_0 hk0).2) (ff_7_0 hk0).1 g11 dX7_enter_39 (fun H locs hP hS => ?_)
        obtain ⟨μ10, eμ10, h⟩ := vl_ex h
        have hP : fP w μ10 H := by rw [eμ10]; exact hP
        obtain ⟨x12, ex12⟩ : ∃ y : Int32, y = (v2 + (1 : Int32)) := ⟨_, rfl⟩
        replace h := vl_ok ex12 h
        refine lv_iinc (v := x12) (lv' := [(2, .int x12), (0, .ref (w.2.2.1 v0)), (1, .ref (w.2.2.1 v1))]) hx hb dX7_enter_40 hl (k := 2) rfl (by rw [ex12]; rfl) (by decide) rfl (fun ls hl => ?_)
        refine lv_goto (tgt := 10) hx hb dX7_enter_43 (by decide) ?_
        obtain ⟨rfl, rfl⟩ := leaf h
        exact hP0_10 rfl _ _ _ hP hS (lv_sub hl [1, 2, 0] rfl)
  · obtain ⟨x15, μ16⟩ := q14
    intro H locs ls hP hS hl
    have hP : fP w μ16 H := hP
    have hl : lv_has ls 3 [(0, .ref (w.2.2.1 v0))] := hl
    try dsimp only at h
    refine lv_aload_n hx hb dX7_enter_46 rfl (lv_at hl 0 rfl) ?_
    refine r_getF (off := 2) C hP (iw hw (fi_7 hk0)) hk0 fl_X7_15 rfl rfl (zw hw) dX7_enter_47 ?_
    refine lv_iconst (v := (0)) hx hb dX7_enter_50 (by decide) ?_
    obtain ⟨r18, μ17, h19, h⟩ := bd_ok h
    refine go_v (callS_run (As := [.ref (w.2.2.1 (v0 + 2)), .int (0 : Int32)]) (rest := []) C hl hP (hS.wide hJ).2.1 (m_J7_fill_53178 l w hJ (v0 + 2) (0 : Int32) (karr (ff_7_1 hk0).1) (iw hw (ff_7_1 hk0).2) μ16 h19) ms_X7_34 ⟨rfl, rfl, by decide, by decide⟩ rfl rfl (Nat.le_of_ble_eq_true rfl) ⟨Nat.zero_le _, Nat.zero_le _⟩ dX7_enter_51) hS (fun H locs hP hS => ?_)
    refine lv_aload_n hx hb dX7_enter_54 rfl (lv_at hl 0 rfl) ?_
    refine r_getF (off := 3) C hP (iw hw (fi_7 hk0)) hk0 fl_X7_18 rfl rfl (zw hw) dX7_enter_55 ?_
    refine lv_iconst (v := (0)) hx hb dX7_enter_58 (by decide) ?_
    obtain ⟨r21, μ20, h22, h⟩ := bd_ok h
    refine go_v (callS_run (As := [.ref (w.2.2.1 (v0 + 3)), .int (0 : Int32)]) (rest := []) C hl hP (hS.wide hJ).2.1 (m_J7_fill_53178 l w hJ (v0 + 3) (0 : Int32) (karr (ff_7_2 hk0).1) (iw hw (ff_7_2 hk0).2) μ17 h22) ms_X7_34 ⟨rfl, rfl, by decide, by decide⟩ rfl rfl (Nat.le_of_ble_eq_true rfl) ⟨Nat.zero_le _, Nat.zero_le _⟩ dX7_enter_59) hS (fun H locs hP hS => ?_)
    refine lv_aload_n hx hb dX7_enter_62 rfl (lv_at hl 0 rfl) ?_
    refine r_getF (off := 4) C hP (iw hw (fi_7 hk0)) hk0 fl_X7_21 rfl rfl (zw hw) dX7_enter_63 ?_
    refine lv_iconst (v := (0)) hx hb dX7_enter_66 (by decide) ?_
    obtain ⟨r24, μ23, h25, h⟩ := bd_ok h
    refine go_v (callS_run (As := [.ref (w.2.2.1 (v0 + 4)), .int (0 : Int32)]) (rest := []) C hl hP (hS.wide hJ).2.1 (m_J7_fill_53178 l w hJ (v0 + 4) (0 : Int32) (karr (ff_7_3 hk0).1) (iw hw (ff_7_3 hk0).2) μ20 h25) ms_X7_34 ⟨rfl, rfl, by decide, by decide⟩ rfl rfl (Nat.le_of_ble_eq_true rfl) ⟨Nat.zero_le _, Nat.zero_le _⟩ dX7_enter_67) hS (fun H locs hP hS => ?_)
    refine lv_aload_n hx hb dX7_enter_70 rfl (lv_at hl 0 rfl) ?_
    refine r_getF (off := 5) C hP (iw hw (fi_7 hk0)) hk0 fl_X7_24 rfl rfl (zw hw) dX7_enter_71 ?_
    refine lv_iconst (v := (0)) hx hb dX7_enter_74 (by decide) ?_
    obtain ⟨r27, μ26, h28, h⟩ := bd_ok h
    refine go_v (callS_run (As := [.ref (w.2.2.1 (v0 + 5)), .int (0 : Int32)]) (rest := []) C hl hP (hS.wide hJ).2.1 (m_J7_fill_53178 l w hJ (v0 + 5) (0 : Int32) (karr (ff_7_4 hk0).1) (iw hw (ff_7_4 hk0).2) μ23 h28) ms_X7_34 ⟨rfl, rfl, by decide, by decide⟩ rfl rfl (Nat.le_of_ble_eq_true rfl) ⟨Nat.zero_le _, Nat.zero_le _⟩ dX7_enter_75) hS (fun H locs hP hS => ?_)
    refine lv_aload_n hx hb dX7_enter_78 rfl (lv_at hl 0 rfl) ?_
    refine lv_iconst (v := (0)) hx hb dX7_enter_79 (by decide) ?_
    refine r_putI C hP hS (iw hw (fi_7 hk0)) hk0 fp_X7_27 rfl dX7_enter_80 (fun H locs hP hS => ?_)
    obtain ⟨μ29, eμ29, h⟩ := vl_ex h
    have hP : fP w μ29 H := by rw [eμ29]; exact hP
    refine lv_aload_n hx hb dX7_enter_83 rfl (lv_at hl 0 rfl) ?_
    refine lv_iconst (v := (0)) hx hb dX7_enter_84 (by decide) ?_
    refine r_putI C hP hS (iw hw (fi_7 hk0)) hk0 fp_X7_31 rfl dX7_enter_85 (fun H locs hP hS => ?_)
    obtain ⟨μ30, eμ30, h⟩ := vl_ex h
    have hP : fP w μ30 H := by rw [eμ30]; exact hP
    exact r_vret C hr hP hS h dX7_enter_88

def f_X7_copy (v0 : Nat) (v1 : Nat) (μ : fMem) : Option (Unit × fMem) :=
  gd (cpo (0 : Int32) (0 : Int32) (8 : Int32) 8 8) (vl (cpy μ (v1 + 1) (0 : Int32) (v0 + 1) (0 : Int32) (8 : Int32)) fun μ1 => gd (cpo (0 : Int32) (0 : Int32) (8 : Int32) 8 8) (vl (cpy μ1 (v1 + 2) (0 : Int32) (v0 + 2) (0 : Int32) (8 : Int32)) fun μ3 => gd (cpo (0 : Int32) (0 : Int32) (8 : Int32) 8 8) (vl (cpy μ3 (v1 + 3) (0 : Int32) (v0 + 3) (0 : Int32) (8 : Int32)) fun μ5 => gd (cpo (0 : Int32) (0 : Int32) (6 : Int32) 6 6) (vl (cpy μ5 (v1 + 4) (0 : Int32) (v0 + 4) (0 : Int32) (6 : Int32)) fun μ7 => gd (cpo (0 : Int32) (0 : Int32) (6 : Int32) 6 6) (vl (cpy μ7 (v1 + 5) (0 : Int32) (v0 + 5) (0 : Int32) (6 : Int32)) fun μ9 => vl (sI μ9 v0 5 (μ9.1 v1 5)) fun μ11 => vl (sI μ11 v0 6 (μ11.1 v1 6)) fun μ12 => some ((), μ12))))))
def rm_X7_copy : Room := { frames := 1, cells := 0, slots := 0, locals := 80 }
set_option maxHeartbeats 4000000 in
set_option maxRecDepth 100000 in
theorem m_X7_copy (l : Launch) (w : fW) (hJ : fJ w) (hw : w.2.2.2 = sd 0) (v0 : Nat) (v1 : Nat) (hk0 : kd v0 = (4, 7)) (hk1 : kd v1 = (4, 7)) (μ : fMem) {r : Unit} {μr : fMem} (h : f_X7_copy v0 v1 μ = some (r, μr)) : Met l yX7_copy (.code yX7_copy cX7_copy 2 none :: gw) rm_X7_copy (fPc w [.ref (w.2.2.1 v0), .ref (w.2.2.1 v1)] μ) (fQv w μr) 0 0 (fA w) := by
  refine met_of hJ (by decide) ?_ (Nat.le_of_ble_eq_true rfl)
  generalize ([.ref (w.2.2.1 v0), .ref (w.2.2.1 v1)] : List Value).toArray = args
  intro p e s m below meth c ls C hr hP hl hS
  obtain ⟨hx, hb, hml, hown, hts, hK, -, hlk, hT⟩ := id C
  have hl : lv_has ls 2 [(0, .ref (w.2.2.1 v0)), (1, .ref (w.2.2.1 v1))] := hl
  unfold f_X7_copy at h
  refine lv_aload_n hx hb dX7_copy_0 rfl (lv_at hl 1 rfl) ?_
  refine r_getF (off := 1) C hP (iw hw (fi_7 hk1)) hk1 fl_X7_9 rfl rfl (zw hw) dX7_copy_1 ?_
  refine lv_iconst (v := (0)) hx hb dX7_copy_4 (by decide) ?_
  refine lv_aload_n hx hb dX7_copy_5 rfl (lv_at hl 0 rfl) ?_
  refine r_getF (off := 1) C hP (iw hw (fi_7 hk0)) hk0 fl_X7_9 rfl rfl (zw hw) dX7_copy_6 ?_
  refine lv_iconst (v := (0)) hx hb dX7_copy_9 (by decide) ?_
  refine lv_bipush (v := (8)) hx hb dX7_copy_10 (by decide) ?_
  obtain ⟨g2, h⟩ := gd_ok h
  refine r_copy C hl hP hS mc_X7_49 mc_all (iw hw (ff_7_0 hk1).2) (ff_7_0 hk1).1 (iw hw (ff_7_0 hk0).2) (ff_7_0 hk0).1 g2 (by decide) (Nat.le_of_ble_eq_true rfl) dX7_copy_12 (fun H locs hP hS => ?_)
  obtain ⟨μ1, eμ1, h⟩ := vl_ex h
  have hP : fP w μ1 H := by rw [eμ1]; exact hP
  refine lv_aload_n hx hb dX7_copy_15 rfl (lv_at hl 1 rfl) ?_
  refine r_getF (off := 2) C hP (iw hw (fi_7 hk1)) hk1 fl_X7_15 rfl rfl (zw hw) dX7_copy_16 ?_
  refine lv_iconst (v := (0)) hx hb dX7_copy_19 (by decide) ?_
  refine lv_aload_n hx hb dX7_copy_20 rfl (lv_at hl 0 rfl) ?_
  refine r_getF (off := 2) C hP (iw hw (fi_7 hk0)) hk0 fl_X7_15 rfl rfl (zw hw) dX7_copy_21 ?_
  refine lv_iconst (v := (0)) hx hb dX7_copy_24 (by decide) ?_
  refine lv_bipush (v := (8)) hx hb dX7_copy_25 (by decide) ?_
  obtain ⟨g4, h⟩ := gd_ok h
  refine r_copy C hl hP hS mc_X7_49 mc_all (iw hw (ff_7_1 hk1).2) (ff_7_1 hk1).1 (iw hw (ff_7_1 hk0).2) (ff_7_1 hk0).1 g4 (by decide) (Nat.le_of_ble_eq_true rfl) dX7_copy_27 (fun H locs hP hS => ?_)
  obtain ⟨μ3, eμ3, h⟩ := vl_ex h
  have hP : fP w μ3 H := by rw [eμ3]; exact hP
  refine lv_aload_n hx hb dX7_copy_30 rfl (lv_at hl 1 rfl) ?_
  refine r_getF (off := 3) C hP (iw hw (fi_7 hk1)) hk1 fl_X7_18 rfl rfl (zw hw) dX7_copy_31 ?_
  refine lv_iconst (v := (0)) hx hb dX7_copy_34 (by decide) ?_
  refine lv_aload_n hx hb dX7_copy_35 rfl (lv_at hl 0 rfl) ?_
  refine r_getF (off := 3) C hP (iw hw (fi_7 hk0)) hk0 fl_X7_18 rfl rfl (zw hw) dX7_copy_36 ?_
  refine lv_iconst (v := (0)) hx hb dX7_copy_39 (by decide) ?_
  refine lv_bipush (v := (8)) hx hb dX7_copy_40 (by decide) ?_
  obtain ⟨g6, h⟩ := gd_ok h
  refine r_copy C hl hP hS mc_X7_49 mc_all (iw hw (ff_7_2 hk1).2) (ff_7_2 hk1).1 (iw hw (ff_7_2 hk0).2) (ff_7_2 hk0).1 g6 (by decide) (Nat.le_of_ble_eq_true rfl) dX7_copy_42 (fun H locs hP hS => ?_)
  obtain ⟨μ5, eμ5, h⟩ := vl_ex h
  have hP : fP w μ5 H := by rw [eμ5]; exact hP
  refine lv_aload_n hx hb dX7_copy_45 rfl (lv_at hl 1 rfl) ?_
  refine r_getF (off := 4) C hP (iw hw (fi_7 hk1)) hk1 fl_X7_21 rfl rfl (zw hw) dX7_copy_46 ?_
  refine lv_iconst (v := (0)) hx hb dX7_copy_49 (by decide) ?_
  refine lv_aload_n hx hb dX7_copy_50 rfl (lv_at hl 0 rfl) ?_
  refine r_getF (off := 4) C hP (iw hw (fi_7 hk0)) hk0 fl_X7_21 rfl rfl (zw hw) dX7_copy_51 ?_
  refine lv_iconst (v := (0)) hx hb dX7_copy_54 (by decide) ?_
  refine lv_bipush (v := (6)) hx hb dX7_copy_55 (by decide) ?_
  obtain ⟨g8, h⟩ := gd_ok h
  refine r_copy C hl hP hS mc_X7_49 mc_all (iw hw (ff_7_3 hk1).2) (ff_7_3 hk1).1 (iw hw (ff_7_3 hk0).2) (ff_7_3 hk0).1 g8 (by decide) (Nat.le_of_ble_eq_true rfl) dX7_copy_57 (fun H locs hP hS => ?_)
  obtain ⟨μ7, eμ7, h⟩ := vl_ex h
  have hP : fP w μ7 H := by rw [eμ7]; exact hP
  refine lv_aload_n hx hb dX7_copy_60 rfl (lv_at hl 1 rfl) ?_
  refine r_getF (off := 5) C hP (iw hw (fi_7 hk1)) hk1 fl_X7_24 rfl rfl (zw hw) dX7_copy_61 ?_
  refine lv_iconst (v := (0)) hx hb dX7_copy_64 (by decide) ?_
  refine lv_aload_n hx hb dX7_copy_65 rfl (lv_at hl 0 rfl) ?_
  refine r_getF (off := 5) C hP (iw hw (fi_7 hk0)) hk0 fl_X7_24 rfl rfl (zw hw) dX7_copy_66 ?_
  refine lv_iconst (v := (0)) hx hb dX7_copy_69 (by decide) ?_
  refine lv_bipush (v := (6)) hx hb dX7_copy_70 (by decide) ?_
  obtain ⟨g10, h⟩ := gd_ok h
  refine r_copy C hl hP hS mc_X7_49 mc_all (iw hw (ff_7_4 hk1).2) (ff_7_4 hk1).1 (iw hw (ff_7_4 hk0).2) (ff_7_4 hk0).1 g10 (by decide) (Nat.le_of_ble_eq_true rfl) dX7_copy_72 (fun H locs hP hS => ?_)
  obtain ⟨μ9, eμ9, h⟩ := vl_ex h
  have hP : fP w μ9 H := by rw [eμ9]; exact hP
  refine lv_aload_n hx hb dX7_copy_75 rfl (lv_at hl 0 rfl) ?_
  refine lv_aload_n hx hb dX7_copy_76 rfl (lv_at hl 1 rfl) ?_
  refine r_getI C hP (iw hw (fi_7 hk1)) hk1 fl_X7_27 (Or.inl rfl) dX7_copy_77 ?_
  refine r_putI C hP hS (iw hw (fi_7 hk0)) hk0 fp_X7_27 rfl dX7_copy_80 (fun H locs hP hS => ?_)
  obtain ⟨μ11, eμ11, h⟩ := vl_ex h
  have hP : fP w μ11 H := by rw [eμ11]; exact hP
  refine lv_aload_n hx hb dX7_copy_83 rfl (lv_at hl 0 rfl) ?_
  refine lv_aload_n hx hb dX7_copy_84 rfl (lv_at hl 1 rfl) ?_
  refine r_getI C hP (iw hw (fi_7 hk1)) hk1 fl_X7_31 (Or.inl rfl) dX7_copy_85 ?_
  refine r_putI C hP hS (iw hw (fi_7 hk0)) hk0 fp_X7_31 rfl dX7_copy_88 (fun H locs hP hS => ?_)
  obtain ⟨μ12, eμ12, h⟩ := vl_ex h
  have hP : fP w μ12 H := by rw [eμ12]; exact hP
  exact r_vret C hr hP hS h dX7_copy_91

def f_X7_setRoped (v0 : Nat) (v1 : Int32) (v2 : Int32) (μ : fMem) : Option (Unit × fMem) :=
  if v2 = 0 then vl (sI μ v0 5 ((μ.1 v0 5) &&& ((shl (1 : Int32) v1) ^^^ (-1 : Int32)))) fun μ2 => some ((), μ2) else vl (sI μ v0 5 ((μ.1 v0 5) ||| (shl (1 : Int32) v1))) fun μ3 => some ((), μ3)
def rm_X7_setRoped : Room := { frames := 0, cells := 0, slots := 0, locals := 0 }
set_option maxHeartbeats 4000000 in
set_option maxRecDepth 100000 in
theorem m_X7_setRoped (l : Launch) (w : fW) (hJ : fJ w) (hw : w.2.2.2 = sd 0) (v0 : Nat) (v1 : Int32) (v2 : Int32) (hk0 : kd v0 = (4, 7)) (μ : fMem) {r : Unit} {μr : fMem} (h : f_X7_setRoped v0 v1 v2 μ = some (r, μr)) : Met l yX7_setRoped (.code yX7_setRoped cX7_setRoped 3 none :: gw) rm_X7_setRoped (fPc w [.ref (w.2.2.1 v0), .int v1, .int v2] μ) (fQv w μr) 0 0 (fA w) := by
  refine met_of hJ (by decide) ?_ (Nat.le_of_ble_eq_true rfl)
  generalize ([.ref (w.2.2.1 v0), .int v1, .int v2] : List Value).toArray = args
  intro p e s m below meth c ls C hr hP hl hS
  obtain ⟨hx, hb, hml, hown, hts, hK, -, hlk, hT⟩ := id C
  have hl : lv_has ls 3 [(0, .ref (w.2.2.1 v0)), (1, .int v1), (2, .int v2)] := hl
  unfold f_X7_setRoped at h
  refine lv_aload_n hx hb dX7_setRoped_0 rfl (lv_at hl 0 rfl) ?_
  refine lv_iload_n hx hb dX7_setRoped_1 rfl (lv_at hl 2 rfl) ?_
  refine lv_if_eq (tgt := 16) hx hb dX7_setRoped_2 (by decide) (fun c1 => ?_) (fun c1 => ?_)
  · replace h := if_t c1 h
    refine lv_aload_n hx hb dX7_setRoped_16 rfl (lv_at hl 0 rfl) ?_
    refine r_getI C hP (iw hw (fi_7 hk0)) hk0 fl_X7_27 (Or.inl rfl) dX7_setRoped_17 ?_
    refine lv_iconst (v := (1)) hx hb dX7_setRoped_20 (by decide) ?_
    refine lv_iload_n hx hb dX7_setRoped_21 rfl (lv_at hl 1 rfl) ?_
    refine r_ishl hx hb dX7_setRoped_22 ?_
    refine lv_iconst (v := (-1)) hx hb dX7_setRoped_23 (by decide) ?_
    refine lv_ixor hx hb dX7_setRoped_24 ?_
    refine lv_iand hx hb dX7_setRoped_25 ?_
    refine r_putI C hP hS (iw hw (fi_7 hk0)) hk0 fp_X7_27 rfl dX7_setRoped_26 (fun H locs hP hS => ?_)
    obtain ⟨μ2, eμ2, h⟩ := vl_ex h
    have hP : fP w μ2 H := by rw [eμ2]; exact hP
    exact r_vret C hr hP hS h dX7_setRoped_29
  · replace h := if_f c1 h
    refine lv_aload_n hx hb dX7_setRoped_5 rfl (lv_at hl 0 rfl) ?_
    refine r_getI C hP (iw hw (fi_7 hk0)) hk0 fl_X7_27 (Or.inl rfl) dX7_setRoped_6 ?_
    refine lv_iconst (v := (1)) hx hb dX7_setRoped_9 (by decide) ?_
    refine lv_iload_n hx hb dX7_setRoped_10 rfl (lv_at hl 1 rfl) ?_
    refine r_ishl hx hb dX7_setRoped_11 ?_
    refine lv_ior hx hb dX7_setRoped_12 ?_
    refine lv_goto (tgt := 26) hx hb dX7_setRoped_13 (by decide) ?_
    refine r_putI C hP hS (iw hw (fi_7 hk0)) hk0 fp_X7_27 rfl dX7_setRoped_26 (fun H locs hP hS => ?_)
    obtain ⟨μ3, eμ3, h⟩ := vl_ex h
    have hP : fP w μ3 H := by rw [eμ3]; exact hP
    exact r_vret C hr hP hS h dX7_setRoped_29

def f_X7_thingsIn_L4 (v0 : Nat) (v1 : Int32) (v2 : Int32) (v3 : Int32) (μ : fMem) : Option (Nat × (Int32 × Int32 × fMem)) :=
  if (8 : Int32) ≤ v3 then some (1, (v2, v3, μ)) else gd (ixo v3 8) (if (μ.1 (v0 + 1) (Int32.toNatClampNeg v3)) = v1 then vl (v2 ||| (shl (1 : Int32) v3)) fun x5 => vl (v3 + (1 : Int32)) fun x6 => some (0, (x5, x6, μ)) else vl (v3 + (1 : Int32)) fun x4 => some (0, (v2, x4, μ)))
def f_X7_thingsIn (v0 : Nat) (v1 : Int32) (μ : fMem) : Option (Int32 × fMem) :=
  bd (lpn (fun (q : Int32 × Int32 × fMem) => f_X7_thingsIn_L4 v0 v1 q.1 q.2.1 q.2.2) fuel ((0 : Int32), (0 : Int32), μ)) fun t7 q8 => (fun (x9 : Int32) (x10 : Int32) (μ11 : fMem) => some (x9, μ11)) q8.1 q8.2.1 q8.2.2
def rm_X7_thingsIn : Room := { frames := 0, cells := 0, slots := 0, locals := 0 }
set_option maxHeartbeats 4000000 in
set_option maxRecDepth 100000 in
theorem m_X7_thingsIn (l : Launch) (w : fW) (hJ : fJ w) (hw : w.2.2.2 = sd 0) (v0 : Nat) (v1 : Int32) (hk0 : kd v0 = (4, 7)) (μ : fMem) {r : Int32} {μr : fMem} (h : f_X7_thingsIn v0 v1 μ = some (r, μr)) : Met l yX7_thingsIn (.code yX7_thingsIn cX7_thingsIn 4 (some .int) :: gw) rm_X7_thingsIn (fPc w [.ref (w.2.2.1 v0), .int v1] μ) (fQi w r μr) 0 0 (fA w) := by
  refine met_of hJ (by decide) ?_ (Nat.le_of_ble_eq_true rfl)
  generalize ([.ref (w.2.2.1 v0), .int v1] : List Value).toArray = args
  intro p e s m below meth c ls C hr hP hl hS
  obtain ⟨hx, hb, hml, hown, hts, hK, -, hlk, hT⟩ := id C
  have hl : lv_has ls 4 [(0, .ref (w.2.2.1 v0)), (1, .int v1)] := hl
  unfold f_X7_thingsIn at h
  refine lv_iconst (v := (0)) hx hb dX7_thingsIn_0 (by decide) ?_
  refine lv_istore_n (lv' := [(2, .int (0 : Int32)), (0, .ref (w.2.2.1 v0)), (1, .int v1)]) hx hb dX7_thingsIn_1 rfl hl (by decide) rfl (fun ls hl => ?_)
  refine lv_iconst (v := (0)) hx hb dX7_thingsIn_2 (by decide) ?_
  refine lv_istore_n (lv' := [(3, .int (0 : Int32)), (2, .int (0 : Int32)), (0, .ref (w.2.2.1 v0)), (1, .int v1)]) hx hb dX7_thingsIn_3 rfl hl (by decide) rfl (fun ls hl => ?_)
  obtain ⟨t7, q8, h12, h⟩ := bd_ok h
  refine lpn_ind (b := (fun (q : Int32 × Int32 × fMem) => f_X7_thingsIn_L4 v0 v1 q.1 q.2.1 q.2.2)) (P := fun (q : Int32 × Int32 × fMem) => WW p l e rm_X7_thingsIn s m args below meth c (MQ below (fQi w r μr) args s 0 0 (fA w)) w q.2.2 4 4 [] [(0, .ref (w.2.2.1 v0)), (1, .int v1), (2, .int q.1), (3, .int q.2.1)]) (K := fun _ (q : Int32 × Int32 × fMem) => WW p l e rm_X7_thingsIn s m args below meth c (MQ below (fQi w r μr) args s 0 0 (fA w)) w q.2.2 4 35 [] [(2, .int q.1)]) ?_ fuel ((0 : Int32), (0 : Int32), μ) t7 q8 h12 ?_ _ _ _ hP hS (lv_sub hl [2, 3, 1, 0] rfl)
  · intro q tz4 sz4 h hP0_4 hK0_4 H locs ls hP hS hl
    obtain ⟨v2, v3, μ⟩ := q
    have hP : fP w μ H := hP
    have hl : lv_has ls 4 [(0, .ref (w.2.2.1 v0)), (1, .int v1), (2, .int v2), (3, .int v3)] := hl
    have h : f_X7_thingsIn_L4 v0 v1 v2 v3 μ = some (tz4, sz4) := h
    unfold f_X7_thingsIn_L4 at h
    refine lv_iload_n hx hb dX7_thingsIn_4 rfl (lv_at hl 3 rfl) ?_
    refine lv_aload_n hx hb dX7_thingsIn_5 rfl (lv_at hl 0 rfl) ?_
    refine r_getF (off := 1) C hP (iw hw (fi_7 hk0)) hk0 fl_X7_9 rfl rfl (zw hw) dX7_thingsIn_6 ?_
    refine r_alen (v := 8) C hP (iw hw (ff_7_0 hk0).2) (Or.inl (ff_7_0 hk0).1) (by decide) dX7_thingsIn_9 ?_
    refine lv_icmp_ge (tgt := 35) hx hb dX7_thingsIn_10 (by decide) (fun c1 => ?_) (fun c1 => ?_)
    · replace h := if_t c1 h
      obtain ⟨rfl, rfl⟩ := leaf h
      exact (hK0_4 0 rfl) _ _ _ hP hS (lv_sub hl [2] rfl)
    · replace h := if_f c1 h
      refine lv_aload_n hx hb dX7_thingsIn_13 rfl (lv_at hl 0 rfl) ?_
      refine r_getF (off := 1) C hP (iw hw (fi_7 hk0)) hk0 fl_X7_9 rfl rfl (zw hw) dX7_thingsIn_14 ?_
      refine lv_iload_n hx hb dX7_thingsIn_17 rfl (lv_at hl 3 rfl) ?_
      obtain ⟨g2, h⟩ := gd_ok h
      refine r_iald C hP (iw hw (ff_7_0 hk0).2) (ff_7_0 hk0).1 g2 dX7_thingsIn_18 ?_
      refine lv_iload_n hx hb dX7_thingsIn_19 rfl (lv_at hl 1 rfl) ?_
      refine lv_icmp_ne (tgt := 29) hx hb dX7_thingsIn_20 (by decide) (fun c3 => ?_) (fun c3 => ?_)
      · replace h := if_f c3 h
        obtain ⟨x4, ex4⟩ : ∃ y : Int32, y = (v3 + (1 : Int32)) := ⟨_, rfl⟩
        replace h := vl_ok ex4 h
        refine lv_iinc (v := x4) (lv' := [(3, .int x4), (0, .ref (w.2.2.1 v0)), (1, .int v1), (2, .int v2)]) hx hb dX7_thingsIn_29 hl (k := 3) rfl (by rw [ex4]; rfl) (by decide) rfl (fun ls hl => ?_)
        refine lv_goto (tgt := 4) hx hb dX7_thingsIn_32 (by decide) ?_
        obtain ⟨rfl, rfl⟩ := leaf h
        exact hP0_4 rfl _ _ _ hP hS (lv_sub hl [1, 2, 3, 0] rfl)
      · replace h := if_t c3 h
        refine lv_iload_n hx hb dX7_thingsIn_23 rfl (lv_at hl 2 rfl) ?_
        refine lv_iconst (v := (1)) hx hb dX7_thingsIn_24 (by decide) ?_
        refine lv_iload_n hx hb dX7_thingsIn_25 rfl (lv_at hl 3 rfl) ?_
        refine r_ishl hx hb dX7_thingsIn_26 ?_
        refine lv_ior hx hb dX7_thingsIn_27 ?_
        refine lv_topi (fun x5 ex5 => ?_)
        replace h := vl_ok ex5 h
        refine lv_istore_n (lv' := [(2, .int x5), (0, .ref (w.2.2.1 v0)), (1, .int v1), (3, .int v3)]) hx hb dX7_thingsIn_28 rfl hl (by decide) rfl (fun ls hl => ?_)
        obtain ⟨x6, ex6⟩ : ∃ y : Int32, y = (v3 + (1 : Int32)) := ⟨_, rfl⟩
        replace h := vl_ok ex6 h
        refine lv_iinc (v := x6) (lv' := [(3, .int x6), (2, .int x5), (0, .ref (w.2.2.1 v0)), (1, .int v1)]) hx hb dX7_thingsIn_29 hl (k := 3) rfl (by rw [ex6]; rfl) (by decide) rfl (fun ls hl => ?_)
        refine lv_goto (tgt := 4) hx hb dX7_thingsIn_32 (by decide) ?_
        obtain ⟨rfl, rfl⟩ := leaf h
        exact hP0_4 rfl _ _ _ hP hS (lv_sub hl [2, 3, 1, 0] rfl)
  · obtain ⟨x9, x10, μ11⟩ := q8
    intro H locs ls hP hS hl
    have hP : fP w μ11 H := hP
    have hl : lv_has ls 4 [(2, .int x9)] := hl
    try dsimp only at h
    refine lv_iload_n hx hb dX7_thingsIn_35 rfl (lv_at hl 0 rfl) ?_
    exact r_iret C hr hP hS h dX7_thingsIn_36

def f_X7_hangAll_L2 (v0 : Nat) (v1 : Int32) (v2 : Int32) (v3 : Int32) (μ : fMem) : Option (Nat × (Int32 × fMem)) :=
  if (8 : Int32) ≤ v3 then some (1, (v3, μ)) else if (v1 &&& (shl (1 : Int32) v3)) = 0 then vl (v3 + (1 : Int32)) fun x3 => some (0, (x3, μ)) else gd (ixo v3 8) (vl (sI μ (v0 + 1) (Int32.toNatClampNeg v3) v2) fun μ4 => vl (v3 + (1 : Int32)) fun x6 => some (0, (x6, μ4)))
def f_X7_hangAll (v0 : Nat) (v1 : Int32) (v2 : Int32) (μ : fMem) : Option (Unit × fMem) :=
  bd (lpn (fun (q : Int32 × fMem) => f_X7_hangAll_L2 v0 v1 v2 q.1 q.2) fuel ((0 : Int32), μ)) fun t7 q8 => (fun (x9 : Int32) (μ10 : fMem) => some ((), μ10)) q8.1 q8.2
def rm_X7_hangAll : Room := { frames := 0, cells := 0, slots := 0, locals := 0 }
set_option maxHeartbeats 4000000 in
set_option maxRecDepth 100000 in
theorem m_X7_hangAll (l : Launch) (w : fW) (hJ : fJ w) (hw : w.2.2.2 = sd 0) (v0 : Nat) (v1 : Int32) (v2 : Int32) (hk0 : kd v0 = (4, 7)) (μ : fMem) {r : Unit} {μr : fMem} (h : f_X7_hangAll v0 v1 v2 μ = some (r, μr)) : Met l yX7_hangAll (.code yX7_hangAll cX7_hangAll 4 none :: gw) rm_X7_hangAll (fPc w [.ref (w.2.2.1 v0), .int v1, .int v2] μ) (fQv w μr) 0 0 (fA w) := by
  refine met_of hJ (by decide) ?_ (Nat.le_of_ble_eq_true rfl)
  generalize ([.ref (w.2.2.1 v0), .int v1, .int v2] : List Value).toArray = args
  intro p e s m below meth c ls C hr hP hl hS
  obtain ⟨hx, hb, hml, hown, hts, hK, -, hlk, hT⟩ := id C
  have hl : lv_has ls 4 [(0, .ref (w.2.2.1 v0)), (1, .int v1), (2, .int v2)] := hl
  unfold f_X7_hangAll at h
  refine lv_iconst (v := (0)) hx hb dX7_hangAll_0 (by decide) ?_
  refine lv_istore_n (lv' := [(3, .int (0 : Int32)), (0, .ref (w.2.2.1 v0)), (1, .int v1), (2, .int v2)]) hx hb dX7_hangAll_1 rfl hl (by decide) rfl (fun ls hl => ?_)
  obtain ⟨t7, q8, h11, h⟩ := bd_ok h
  refine lpn_ind (b := (fun (q : Int32 × fMem) => f_X7_hangAll_L2 v0 v1 v2 q.1 q.2)) (P := fun (q : Int32 × fMem) => WW p l e rm_X7_hangAll s m args below meth c (MQ below (fQv w μr) args s 0 0 (fA w)) w q.2 4 2 [] [(0, .ref (w.2.2.1 v0)), (1, .int v1), (2, .int v2), (3, .int q.1)]) (K := fun _ (q : Int32 × fMem) => WW p l e rm_X7_hangAll s m args below meth c (MQ below (fQv w μr) args s 0 0 (fA w)) w q.2 4 32 [] []) ?_ fuel ((0 : Int32), μ) t7 q8 h11 ?_ _ _ _ hP hS (lv_sub hl [1, 2, 3, 0] rfl)
  · intro q tz2 sz2 h hP0_2 hK0_2 H locs ls hP hS hl
    obtain ⟨v3, μ⟩ := q
    have hP : fP w μ H := hP
    have hl : lv_has ls 4 [(0, .ref (w.2.2.1 v0)), (1, .int v1), (2, .int v2), (3, .int v3)] := hl
    have h : f_X7_hangAll_L2 v0 v1 v2 v3 μ = some (tz2, sz2) := h
    unfold f_X7_hangAll_L2 at h
    refine lv_iload_n hx hb dX7_hangAll_2 rfl (lv_at hl 3 rfl) ?_
    refine lv_aload_n hx hb dX7_hangAll_3 rfl (lv_at hl 0 rfl) ?_
    refine r_getF (off := 1) C hP (iw hw (fi_7 hk0)) hk0 fl_X7_9 rfl rfl (zw hw) dX7_hangAll_4 ?_
    refine r_alen (v := 8) C hP (iw hw (ff_7_0 hk0).2) (Or.inl (ff_7_0 hk0).1) (by decide) dX7_hangAll_7 ?_
    refine lv_icmp_ge (tgt := 32) hx hb dX7_hangAll_8 (by decide) (fun c1 => ?_) (fun c1 => ?_)
    · replace h := if_t c1 h
      obtain ⟨rfl, rfl⟩ := leaf h
      exact (hK0_2 0 rfl) _ _ _ hP hS (lv_sub hl [] rfl)
    · replace h := if_f c1 h
      refine lv_iload_n hx hb dX7_hangAll_11 rfl (lv_at hl 1 rfl) ?_
      refine lv_iconst (v := (1)) hx hb dX7_hangAll_12 (by decide) ?_
      refine lv_iload_n hx hb dX7_hangAll_13 rfl (lv_at hl 3 rfl) ?_
      refine r_ishl hx hb dX7_hangAll_14 ?_
      refine lv_iand hx hb dX7_hangAll_15 ?_
      refine lv_if_eq (tgt := 26) hx hb dX7_hangAll_16 (by decide) (fun c2 => ?_) (fun c2 => ?_)
      · replace h := if_t c2 h
        obtain ⟨x3, ex3⟩ : ∃ y : Int32, y = (v3 + (1 : Int32)) := ⟨_, rfl⟩
        replace h := vl_ok ex3 h
        refine lv_iinc (v := x3) (lv' := [(3, .int x3), (0, .ref (w.2.2.1 v0)), (1, .int v1), (2, .int v2)]) hx hb dX7_hangAll_26 hl (k := 3) rfl (by rw [ex3]; rfl) (by decide) rfl (fun ls hl => ?_)
        refine lv_goto (tgt := 2) hx hb dX7_hangAll_29 (by decide) ?_
        obtain ⟨rfl, rfl⟩ := leaf h
        exact hP0_2 rfl _ _ _ hP hS (lv_sub hl [1, 2, 3, 0] rfl)
      · replace h := if_f c2 h
        refine lv_aload_n hx hb dX7_hangAll_19 rfl (lv_at hl 0 rfl) ?_
        refine r_getF (off := 1) C hP (iw hw (fi_7 hk0)) hk0 fl_X7_9 rfl rfl (zw hw) dX7_hangAll_20 ?_
        refine lv_iload_n hx hb dX7_hangAll_23 rfl (lv_at hl 3 rfl) ?_
        refine lv_iload_n hx hb dX7_hangAll_24 rfl (lv_at hl 2 rfl) ?_
        obtain ⟨g5, h⟩ := gd_ok h
        refine r_iast C hP hS (iw hw (ff_7_0 hk0).2) (ff_7_0 hk0).1 g5 dX7_hangAll_25 (fun H locs hP hS => ?_)
        obtain ⟨μ4, eμ4, h⟩ := vl_ex h
        have hP : fP w μ4 H := by rw [eμ4]; exact hP
        obtain ⟨x6, ex6⟩ : ∃ y : Int32, y = (v3 + (1 : Int32)) := ⟨_, rfl⟩
        replace h := vl_ok ex6 h
        refine lv_iinc (v := x6) (lv' := [(3, .int x6), (0, .ref (w.2.2.1 v0)), (1, .int v1), (2, .int v2)]) hx hb dX7_hangAll_26 hl (k := 3) rfl (by rw [ex6]; rfl) (by decide) rfl (fun ls hl => ?_)
        refine lv_goto (tgt := 2) hx hb dX7_hangAll_29 (by decide) ?_
        obtain ⟨rfl, rfl⟩ := leaf h
        exact hP0_2 rfl _ _ _ hP hS (lv_sub hl [1, 2, 3, 0] rfl)
  · obtain ⟨x9, μ10⟩ := q8
    intro H locs ls hP hS hl
    have hP : fP w μ10 H := hP
    have hl : lv_has ls 4 [] := hl
    try dsimp only at h
    exact r_vret C hr hP hS h dX7_hangAll_32

def f_X8_clear (v0 : Nat) (μ : fMem) : Option (Unit × fMem) :=
  vl (sI μ v0 0 (0 : Int32)) fun μ1 => some ((), μ1)
def rm_X8_clear : Room := { frames := 0, cells := 0, slots := 0, locals := 0 }
set_option maxHeartbeats 4000000 in
set_option maxRecDepth 100000 in
theorem m_X8_clear (l : Launch) (w : fW) (hJ : fJ w) (hw : w.2.2.2 = sd 0) (v0 : Nat) (hk0 : kd v0 = (4, 8)) (μ : fMem) {r : Unit} {μr : fMem} (h : f_X8_clear v0 μ = some (r, μr)) : Met l yX8_clear (.code yX8_clear cX8_clear 1 none :: gw) rm_X8_clear (fPc w [.ref (w.2.2.1 v0)] μ) (fQv w μr) 0 0 (fA w) := by
  refine met_of hJ (by decide) ?_ (Nat.le_of_ble_eq_true rfl)
  generalize ([.ref (w.2.2.1 v0)] : List Value).toArray = args
  intro p e s m below meth c ls C hr hP hl hS
  obtain ⟨hx, hb, hml, hown, hts, hK, -, hlk, hT⟩ := id C
  have hl : lv_has ls 1 [(0, .ref (w.2.2.1 v0))] := hl
  unfold f_X8_clear at h
  refine lv_aload_n hx hb dX8_clear_0 rfl (lv_at hl 0 rfl) ?_
  refine lv_iconst (v := (0)) hx hb dX8_clear_1 (by decide) ?_
  refine r_putI C hP hS (iw hw (fi_8 hk0)) hk0 fp_X8_9 rfl dX8_clear_2 (fun H locs hP hS => ?_)
  obtain ⟨μ1, eμ1, h⟩ := vl_ex h
  have hP : fP w μ1 H := by rw [eμ1]; exact hP
  exact r_vret C hr hP hS h dX8_clear_5

def f_X8_dropFirst (v0 : Nat) (μ : fMem) : Option (Unit × fMem) :=
  vl (sI μ v0 0 (19 : Int32)) fun μ1 => gd (cpo (1 : Int32) (0 : Int32) (μ1.1 v0 0) 20 20) (vl (cpy μ1 (v0 + 1) (1 : Int32) (v0 + 1) (0 : Int32) (μ1.1 v0 0)) fun μ2 => gd (cpo (1 : Int32) (0 : Int32) (μ2.1 v0 0) 20 20) (vl (cpy μ2 (v0 + 2) (1 : Int32) (v0 + 2) (0 : Int32) (μ2.1 v0 0)) fun μ4 => gd (cpo (1 : Int32) (0 : Int32) (μ4.1 v0 0) 20 20) (vl (cpy μ4 (v0 + 3) (1 : Int32) (v0 + 3) (0 : Int32) (μ4.1 v0 0)) fun μ6 => some ((), μ6))))
def rm_X8_dropFirst : Room := { frames := 1, cells := 0, slots := 0, locals := 80 }
set_option maxHeartbeats 4000000 in
set_option maxRecDepth 100000 in
theorem m_X8_dropFirst (l : Launch) (w : fW) (hJ : fJ w) (hw : w.2.2.2 = sd 0) (v0 : Nat) (hk0 : kd v0 = (4, 8)) (μ : fMem) {r : Unit} {μr : fMem} (h : f_X8_dropFirst v0 μ = some (r, μr)) : Met l yX8_dropFirst (.code yX8_dropFirst cX8_dropFirst 1 none :: gw) rm_X8_dropFirst (fPc w [.ref (w.2.2.1 v0)] μ) (fQv w μr) 0 0 (fA w) := by
  refine met_of hJ (by decide) ?_ (Nat.le_of_ble_eq_true rfl)
  generalize ([.ref (w.2.2.1 v0)] : List Value).toArray = args
  intro p e s m below meth c ls C hr hP hl hS
  obtain ⟨hx, hb, hml, hown, hts, hK, -, hlk, hT⟩ := id C
  have hl : lv_has ls 1 [(0, .ref (w.2.2.1 v0))] := hl
  unfold f_X8_dropFirst at h
  refine lv_aload_n hx hb dX8_dropFirst_0 rfl (lv_at hl 0 rfl) ?_
  refine lv_bipush (v := (19)) hx hb dX8_dropFirst_1 (by decide) ?_
  refine r_putI C hP hS (iw hw (fi_8 hk0)) hk0 fp_X8_9 rfl dX8_dropFirst_3 (fun H locs hP hS => ?_)
  obtain ⟨μ1, eμ1, h⟩ := vl_ex h
  have hP : fP w μ1 H := by rw [eμ1]; exact hP
  refine lv_aload_n hx hb dX8_dropFirst_6 rfl (lv_at hl 0 rfl) ?_
  refine r_getF (off := 1) C hP (iw hw (fi_8 hk0)) hk0 fl_X8_15 rfl rfl (zw hw) dX8_dropFirst_7 ?_
  refine lv_iconst (v := (1)) hx hb dX8_dropFirst_10 (by decide) ?_
  refine lv_aload_n hx hb dX8_dropFirst_11 rfl (lv_at hl 0 rfl) ?_
  refine r_getF (off := 1) C hP (iw hw (fi_8 hk0)) hk0 fl_X8_15 rfl rfl (zw hw) dX8_dropFirst_12 ?_
  refine lv_iconst (v := (0)) hx hb dX8_dropFirst_15 (by decide) ?_
  refine lv_aload_n hx hb dX8_dropFirst_16 rfl (lv_at hl 0 rfl) ?_
  refine r_getI C hP (iw hw (fi_8 hk0)) hk0 fl_X8_9 (Or.inl rfl) dX8_dropFirst_17 ?_
  obtain ⟨g3, h⟩ := gd_ok h
  refine r_copy C hl hP hS mc_X8_28 mc_all (iw hw (ff_8_1 hk0).2) (ff_8_1 hk0).1 (iw hw (ff_8_1 hk0).2) (ff_8_1 hk0).1 g3 (by decide) (Nat.le_of_ble_eq_true rfl) dX8_dropFirst_20 (fun H locs hP hS => ?_)
  obtain ⟨μ2, eμ2, h⟩ := vl_ex h
  have hP : fP w μ2 H := by rw [eμ2]; exact hP
  refine lv_aload_n hx hb dX8_dropFirst_23 rfl (lv_at hl 0 rfl) ?_
  refine r_getF (off := 2) C hP (iw hw (fi_8 hk0)) hk0 fl_X8_19 rfl rfl (zw hw) dX8_dropFirst_24 ?_
  refine lv_iconst (v := (1)) hx hb dX8_dropFirst_27 (by decide) ?_
  refine lv_aload_n hx hb dX8_dropFirst_28 rfl (lv_at hl 0 rfl) ?_
  refine r_getF (off := 2) C hP (iw hw (fi_8 hk0)) hk0 fl_X8_19 rfl rfl (zw hw) dX8_dropFirst_29 ?_
  refine lv_iconst (v := (0)) hx hb dX8_dropFirst_32 (by decide) ?_
  refine lv_aload_n hx hb dX8_dropFirst_33 rfl (lv_at hl 0 rfl) ?_
  refine r_getI C hP (iw hw (fi_8 hk0)) hk0 fl_X8_9 (Or.inl rfl) dX8_dropFirst_34 ?_
  obtain ⟨g5, h⟩ := gd_ok h
  refine r_copy C hl hP hS mc_X8_28 mc_all (iw hw (ff_8_2 hk0).2) (ff_8_2 hk0).1 (iw hw (ff_8_2 hk0).2) (ff_8_2 hk0).1 g5 (by decide) (Nat.le_of_ble_eq_true rfl) dX8_dropFirst_37 (fun H locs hP hS => ?_)
  obtain ⟨μ4, eμ4, h⟩ := vl_ex h
  have hP : fP w μ4 H := by rw [eμ4]; exact hP
  refine lv_aload_n hx hb dX8_dropFirst_40 rfl (lv_at hl 0 rfl) ?_
  refine r_getF (off := 3) C hP (iw hw (fi_8 hk0)) hk0 fl_X8_22 rfl rfl (zw hw) dX8_dropFirst_41 ?_
  refine lv_iconst (v := (1)) hx hb dX8_dropFirst_44 (by decide) ?_
  refine lv_aload_n hx hb dX8_dropFirst_45 rfl (lv_at hl 0 rfl) ?_
  refine r_getF (off := 3) C hP (iw hw (fi_8 hk0)) hk0 fl_X8_22 rfl rfl (zw hw) dX8_dropFirst_46 ?_
  refine lv_iconst (v := (0)) hx hb dX8_dropFirst_49 (by decide) ?_
  refine lv_aload_n hx hb dX8_dropFirst_50 rfl (lv_at hl 0 rfl) ?_
  refine r_getI C hP (iw hw (fi_8 hk0)) hk0 fl_X8_9 (Or.inl rfl) dX8_dropFirst_51 ?_
  obtain ⟨g7, h⟩ := gd_ok h
  refine r_copy C hl hP hS mc_X8_28 mc_all (iw hw (ff_8_3 hk0).2) (ff_8_3 hk0).1 (iw hw (ff_8_3 hk0).2) (ff_8_3 hk0).1 g7 (by decide) (Nat.le_of_ble_eq_true rfl) dX8_dropFirst_54 (fun H locs hP hS => ?_)
  obtain ⟨μ6, eμ6, h⟩ := vl_ex h
  have hP : fP w μ6 H := by rw [eμ6]; exact hP
  exact r_vret C hr hP hS h dX8_dropFirst_57

def f_X8_add_j13 (v0 : Nat) (v1 : Int32) (v2 : Int32) (v3 : Int32) (μ : fMem) : Option (Unit × fMem) :=
  if (μ.1 v0 0) < 0 then some ((), μ) else if (μ.1 v0 0) < (20 : Int32) then gd (ixo (μ.1 v0 0) 20) (vl (sI μ (v0 + 1) (Int32.toNatClampNeg (μ.1 v0 0)) v1) fun μ7 => gd (ixo (μ7.1 v0 0) 20) (vl (sI μ7 (v0 + 2) (Int32.toNatClampNeg (μ7.1 v0 0)) v2) fun μ9 => gd (ixo (μ9.1 v0 0) 20) (vl (sI μ9 (v0 + 3) (Int32.toNatClampNeg (μ9.1 v0 0)) v3) fun μ11 => vl (sI μ11 v0 0 ((μ11.1 v0 0) + (1 : Int32))) fun μ13 => some ((), μ13)))) else some ((), μ)
def f_X8_add (v0 : Nat) (v1 : Int32) (v2 : Int32) (v3 : Int32) (μ : fMem) : Option (Unit × fMem) :=
  if (μ.1 v0 0) < (20 : Int32) then f_X8_add_j13 v0 v1 v2 v3 μ else bd (f_X8_dropFirst v0 μ) fun r3 μ2 => f_X8_add_j13 v0 v1 v2 v3 μ2
def rm_X8_add : Room := { frames := 2, cells := 0, slots := 0, locals := 100 }
set_option maxHeartbeats 4000000 in
set_option maxRecDepth 100000 in
theorem m_X8_add (l : Launch) (w : fW) (hJ : fJ w) (hw : w.2.2.2 = sd 0) (v0 : Nat) (v1 : Int32) (v2 : Int32) (v3 : Int32) (hk0 : kd v0 = (4, 8)) (μ : fMem) {r : Unit} {μr : fMem} (h : f_X8_add v0 v1 v2 v3 μ = some (r, μr)) : Met l yX8_add (.code yX8_add cX8_add 4 none :: gw) rm_X8_add (fPc w [.ref (w.2.2.1 v0), .int v1, .int v2, .int v3] μ) (fQv w μr) 0 0 (fA w) := by
  refine met_of hJ (by decide) ?_ (Nat.le_of_ble_eq_true rfl)
  generalize ([.ref (w.2.2.1 v0), .int v1, .int v2, .int v3] : List Value).toArray = args
  intro p e s m below meth c ls C hr hP hl hS
  obtain ⟨hx, hb, hml, hown, hts, hK, -, hlk, hT⟩ := id C
  have hl : lv_has ls 4 [(0, .ref (w.2.2.1 v0)), (1, .int v1), (2, .int v2), (3, .int v3)] := hl
  unfold f_X8_add at h
  have J13 : ∀  (μ : fMem), f_X8_add_j13 v0 v1 v2 v3 μ = some (r, μr) → WW p l e rm_X8_add s m args below meth c (MQ below (fQv w μr) args s 0 0 (fA w)) w μ 4 13 [] [(0, .ref (w.2.2.1 v0)), (1, .int v1), (2, .int v2), (3, .int v3)] := by
    intro  μ  h H locs ls hP hS hl
    unfold f_X8_add_j13 at h
    refine lv_aload_n hx hb dX8_add_13 rfl (lv_at hl 0 rfl) ?_
    refine r_getI C hP (iw hw (fi_8 hk0)) hk0 fl_X8_9 (Or.inl rfl) dX8_add_14 ?_
    refine lv_if_lt (tgt := 29) hx hb dX8_add_17 (by decide) (fun c5 => ?_) (fun c5 => ?_)
    · replace h := if_t c5 h
      exact r_vret C hr hP hS h dX8_add_29
    · replace h := if_f c5 h
      refine lv_aload_n hx hb dX8_add_20 rfl (lv_at hl 0 rfl) ?_
      refine r_getI C hP (iw hw (fi_8 hk0)) hk0 fl_X8_9 (Or.inl rfl) dX8_add_21 ?_
      refine lv_bipush (v := (20)) hx hb dX8_add_24 (by decide) ?_
      refine lv_icmp_lt (tgt := 30) hx hb dX8_add_26 (by decide) (fun c6 => ?_) (fun c6 => ?_)
      · replace h := if_t c6 h
        refine lv_aload_n hx hb dX8_add_30 rfl (lv_at hl 0 rfl) ?_
        refine r_getF (off := 1) C hP (iw hw (fi_8 hk0)) hk0 fl_X8_15 rfl rfl (zw hw) dX8_add_31 ?_
        refine lv_aload_n hx hb dX8_add_34 rfl (lv_at hl 0 rfl) ?_
        refine r_getI C hP (iw hw (fi_8 hk0)) hk0 fl_X8_9 (Or.inl rfl) dX8_add_35 ?_
        refine lv_iload_n hx hb dX8_add_38 rfl (lv_at hl 1 rfl) ?_
        obtain ⟨g8, h⟩ := gd_ok h
        refine r_iast C hP hS (iw hw (ff_8_1 hk0).2) (ff_8_1 hk0).1 g8 dX8_add_39 (fun H locs hP hS => ?_)
        obtain ⟨μ7, eμ7, h⟩ := vl_ex h
        have hP : fP w μ7 H := by rw [eμ7]; exact hP
        refine lv_aload_n hx hb dX8_add_40 rfl (lv_at hl 0 rfl) ?_
        refine r_getF (off := 2) C hP (iw hw (fi_8 hk0)) hk0 fl_X8_19 rfl rfl (zw hw) dX8_add_41 ?_
        refine lv_aload_n hx hb dX8_add_44 rfl (lv_at hl 0 rfl) ?_
        refine r_getI C hP (iw hw (fi_8 hk0)) hk0 fl_X8_9 (Or.inl rfl) dX8_add_45 ?_
        refine lv_iload_n hx hb dX8_add_48 rfl (lv_at hl 2 rfl) ?_
        obtain ⟨g10, h⟩ := gd_ok h
        refine r_iast C hP hS (iw hw (ff_8_2 hk0).2) (ff_8_2 hk0).1 g10 dX8_add_49 (fun H locs hP hS => ?_)
        obtain ⟨μ9, eμ9, h⟩ := vl_ex h
        have hP : fP w μ9 H := by rw [eμ9]; exact hP
        refine lv_aload_n hx hb dX8_add_50 rfl (lv_at hl 0 rfl) ?_
        refine r_getF (off := 3) C hP (iw hw (fi_8 hk0)) hk0 fl_X8_22 rfl rfl (zw hw) dX8_add_51 ?_
        refine lv_aload_n hx hb dX8_add_54 rfl (lv_at hl 0 rfl) ?_
        refine r_getI C hP (iw hw (fi_8 hk0)) hk0 fl_X8_9 (Or.inl rfl) dX8_add_55 ?_
        refine lv_iload_n hx hb dX8_add_58 rfl (lv_at hl 3 rfl) ?_
        obtain ⟨g12, h⟩ := gd_ok h
        refine r_iast C hP hS (iw hw (ff_8_3 hk0).2) (ff_8_3 hk0).1 g12 dX8_add_59 (fun H locs hP hS => ?_)
        obtain ⟨μ11, eμ11, h⟩ := vl_ex h
        have hP : fP w μ11 H := by rw [eμ11]; exact hP
        refine lv_aload_n hx hb dX8_add_60 rfl (lv_at hl 0 rfl) ?_
        refine lv_dup hx hb dX8_add_61 rfl ?_
        refine r_getI C hP (iw hw (fi_8 hk0)) hk0 fl_X8_9 (Or.inl rfl) dX8_add_62 ?_
        refine lv_iconst (v := (1)) hx hb dX8_add_65 (by decide) ?_
        refine lv_iadd hx hb dX8_add_66 ?_
        refine r_putI C hP hS (iw hw (fi_8 hk0)) hk0 fp_X8_9 rfl dX8_add_67 (fun H locs hP hS => ?_)
        obtain ⟨μ13, eμ13, h⟩ := vl_ex h
        have hP : fP w μ13 H := by rw [eμ13]; exact hP
        exact r_vret C hr hP hS h dX8_add_70
      · replace h := if_f c6 h
        exact r_vret C hr hP hS h dX8_add_29
  refine lv_aload_n hx hb dX8_add_0 rfl (lv_at hl 0 rfl) ?_
  refine r_getI C hP (iw hw (fi_8 hk0)) hk0 fl_X8_9 (Or.inl rfl) dX8_add_1 ?_
  refine lv_bipush (v := (20)) hx hb dX8_add_4 (by decide) ?_
  refine lv_icmp_lt (tgt := 13) hx hb dX8_add_6 (by decide) (fun c1 => ?_) (fun c1 => ?_)
  · replace h := if_t c1 h
    exact J13  μ  h _ _ _ hP hS (lv_sub hl [0, 1, 2, 3] rfl)
  · replace h := if_f c1 h
    refine lv_aload_n hx hb dX8_add_9 rfl (lv_at hl 0 rfl) ?_
    obtain ⟨r3, μ2, h4, h⟩ := bd_ok h
    refine go_v (callV_run (As := []) (rest := []) C hl hP (hS.wide hJ).2.1 (iw hw (fi_8 hk0)) hk0 (m_X8_dropFirst l w hJ hw v0 hk0 μ h4) mv_X8_25 ⟨rfl, rfl, by decide, by decide⟩ rfl rfl (Nat.le_of_ble_eq_true rfl) ⟨Nat.zero_le _, Nat.zero_le _⟩ dX8_add_10) hS (fun H locs hP hS => ?_)
    exact J13  μ2  h _ _ _ hP hS (lv_sub hl [0, 1, 2, 3] rfl)

def f_X8_takeBack_j103 (v0 : Nat) (v1 : Nat) (v2 : Int32) (v3 : Int32) (μ : fMem) : Option (Unit × fMem) :=
  gd (ixo (μ.1 v0 0) 20) (if (μ.1 (v0 + 1) (Int32.toNatClampNeg (μ.1 v0 0))) = (2 : Int32) then if v2 < 0 then some ((), μ) else if (6 : Int32) ≤ v2 then some ((), μ) else gd (ixo v2 6) (vl (sI μ (v1 + 4) (Int32.toNatClampNeg v2) v3) fun μ21 => some ((), μ21)) else some ((), μ))
def f_X8_takeBack_j100 (v0 : Nat) (v1 : Nat) (v2 : Int32) (v3 : Int32) (t0 : Nat) (t1 : Int32) (t2 : Int32) (μ : fMem) : Option (Unit × fMem) :=
  bd (f_X7_setRoped t0 t1 t2 μ) fun r24 μ23 => f_X8_takeBack_j103 v0 v1 v2 v3 μ23
def f_X8_takeBack_j76 (v0 : Nat) (v1 : Nat) (v2 : Int32) (v3 : Int32) (μ : fMem) : Option (Unit × fMem) :=
  gd (ixo (μ.1 v0 0) 20) (if (μ.1 (v0 + 1) (Int32.toNatClampNeg (μ.1 v0 0))) = (1 : Int32) then if v3 = 0 then f_X8_takeBack_j100 v0 v1 v2 v3 v1 v2 (0 : Int32) μ else f_X8_takeBack_j100 v0 v1 v2 v3 v1 v2 (1 : Int32) μ else f_X8_takeBack_j103 v0 v1 v2 v3 μ)
def f_X8_takeBack (v0 : Nat) (v1 : Nat) (μ : fMem) : Option (Unit × fMem) :=
  if (μ.1 v0 0) ≤ 0 then some ((), μ) else if (μ.1 v0 0) ≤ (20 : Int32) then vl (sI μ v0 0 ((μ.1 v0 0) - (1 : Int32))) fun μ3 => gd (ixo (μ3.1 v0 0) 20) (vl (μ3.1 (v0 + 2) (Int32.toNatClampNeg (μ3.1 v0 0))) fun x5 => gd (ixo (μ3.1 v0 0) 20) (vl (μ3.1 (v0 + 3) (Int32.toNatClampNeg (μ3.1 v0 0))) fun x7 => gd (ixo (μ3.1 v0 0) 20) (if (μ3.1 (v0 + 1) (Int32.toNatClampNeg (μ3.1 v0 0))) = 0 then if x5 < 0 then f_X8_takeBack_j76 v0 v1 x5 x7 μ3 else if (8 : Int32) ≤ x5 then f_X8_takeBack_j76 v0 v1 x5 x7 μ3 else gd (ixo x5 8) (vl (sI μ3 (v1 + 1) (Int32.toNatClampNeg x5) x7) fun μ12 => f_X8_takeBack_j76 v0 v1 x5 x7 μ12) else f_X8_takeBack_j76 v0 v1 x5 x7 μ3))) else some ((), μ)
def rm_X8_takeBack : Room := { frames := 1, cells := 0, slots := 0, locals := 22 }
set_option maxHeartbeats 4000000 in
set_option maxRecDepth 100000 in
theorem m_X8_takeBack (l : Launch) (w : fW) (hJ : fJ w) (hw : w.2.2.2 = sd 0) (v0 : Nat) (v1 : Nat) (hk0 : kd v0 = (4, 8)) (hk1 : kd v1 = (4, 7)) (μ : fMem) {r : Unit} {μr : fMem} (h : f_X8_takeBack v0 v1 μ = some (r, μr)) : Met l yX8_takeBack (.code yX8_takeBack cX8_takeBack 4 none :: gw) rm_X8_takeBack (fPc w [.ref (w.2.2.1 v0), .ref (w.2.2.1 v1)] μ) (fQv w μr) 0 0 (fA w) := by
  refine met_of hJ (by decide) ?_ (Nat.le_of_ble_eq_true rfl)
  generalize ([.ref (w.2.2.1 v0), .ref (w.2.2.1 v1)] : List Value).toArray = args
  intro p e s m below meth c ls C hr hP hl hS
  obtain ⟨hx, hb, hml, hown, hts, hK, -, hlk, hT⟩ := id C
  have hl : lv_has ls 4 [(0, .ref (w.2.2.1 v0)), (1, .ref (w.2.2.1 v1))] := hl
  unfold f_X8_takeBack at h
  have J103 : ∀ (v2 : Int32) (v3 : Int32) (μ : fMem), f_X8_takeBack_j103 v0 v1 v2 v3 μ = some (r, μr) → WW p l e rm_X8_takeBack s m args below meth c (MQ below (fQv w μr) args s 0 0 (fA w)) w μ 4 103 [] [(0, .ref (w.2.2.1 v0)), (1, .ref (w.2.2.1 v1)), (2, .int v2), (3, .int v3)] := by
    intro v2 v3 μ  h H locs ls hP hS hl
    unfold f_X8_takeBack_j103 at h
    refine lv_aload_n hx hb dX8_takeBack_103 rfl (lv_at hl 0 rfl) ?_
    refine r_getF (off := 1) C hP (iw hw (fi_8 hk0)) hk0 fl_X8_15 rfl rfl (zw hw) dX8_takeBack_104 ?_
    refine lv_aload_n hx hb dX8_takeBack_107 rfl (lv_at hl 0 rfl) ?_
    refine r_getI C hP (iw hw (fi_8 hk0)) hk0 fl_X8_9 (Or.inl rfl) dX8_takeBack_108 ?_
    obtain ⟨g17, h⟩ := gd_ok h
    refine r_iald C hP (iw hw (ff_8_1 hk0).2) (ff_8_1 hk0).1 g17 dX8_takeBack_111 ?_
    refine lv_iconst (v := (2)) hx hb dX8_takeBack_112 (by decide) ?_
    refine lv_icmp_ne (tgt := 133) hx hb dX8_takeBack_113 (by decide) (fun c18 => ?_) (fun c18 => ?_)
    · replace h := if_f c18 h
      exact r_vret C hr hP hS h dX8_takeBack_133
    · replace h := if_t c18 h
      refine lv_iload_n hx hb dX8_takeBack_116 rfl (lv_at hl 2 rfl) ?_
      refine lv_if_lt (tgt := 133) hx hb dX8_takeBack_117 (by decide) (fun c19 => ?_) (fun c19 => ?_)
      · replace h := if_t c19 h
        exact r_vret C hr hP hS h dX8_takeBack_133
      · replace h := if_f c19 h
        refine lv_iload_n hx hb dX8_takeBack_120 rfl (lv_at hl 2 rfl) ?_
        refine lv_bipush (v := (6)) hx hb dX8_takeBack_121 (by decide) ?_
        refine lv_icmp_ge (tgt := 133) hx hb dX8_takeBack_123 (by decide) (fun c20 => ?_) (fun c20 => ?_)
        · replace h := if_t c20 h
          exact r_vret C hr hP hS h dX8_takeBack_133
        · replace h := if_f c20 h
          refine lv_aload_n hx hb dX8_takeBack_126 rfl (lv_at hl 1 rfl) ?_
          refine r_getF (off := 4) C hP (iw hw (fi_7 hk1)) hk1 fl_X8_43 rfl rfl (zw hw) dX8_takeBack_127 ?_
          refine lv_iload_n hx hb dX8_takeBack_130 rfl (lv_at hl 2 rfl) ?_
          refine lv_iload_n hx hb dX8_takeBack_131 rfl (lv_at hl 3 rfl) ?_
          obtain ⟨g22, h⟩ := gd_ok h
          refine r_iast C hP hS (iw hw (ff_7_3 hk1).2) (ff_7_3 hk1).1 g22 dX8_takeBack_132 (fun H locs hP hS => ?_)
          obtain ⟨μ21, eμ21, h⟩ := vl_ex h
          have hP : fP w μ21 H := by rw [eμ21]; exact hP
          exact r_vret C hr hP hS h dX8_takeBack_133
  have J100 : ∀ (v2 : Int32) (v3 : Int32) (t0 : Nat) (t1 : Int32) (t2 : Int32) (μ : fMem) (_ : kd t0 = (4, 7)) (_ : inW w.2.2.2 t0), f_X8_takeBack_j100 v0 v1 v2 v3 t0 t1 t2 μ = some (r, μr) → WW p l e rm_X8_takeBack s m args below meth c (MQ below (fQv w μr) args s 0 0 (fA w)) w μ 4 100 [.int t2, .int t1, .ref (w.2.2.1 t0)] [(0, .ref (w.2.2.1 v0)), (1, .ref (w.2.2.1 v1)), (2, .int v2), (3, .int v3)] := by
    intro v2 v3 t0 t1 t2 μ kt0 it0 h H locs ls hP hS hl
    unfold f_X8_takeBack_j100 at h
    obtain ⟨r24, μ23, h25, h⟩ := bd_ok h
    refine go_v (callV_run (As := [.int t1, .int t2]) (rest := []) C hl hP (hS.wide hJ).2.1 it0 kt0 (m_X7_setRoped l w hJ hw t0 t1 t2 kt0 μ h25) mv_X8_39 ⟨rfl, rfl, by decide, by decide⟩ rfl rfl (Nat.le_of_ble_eq_true rfl) ⟨Nat.zero_le _, Nat.zero_le _⟩ dX8_takeBack_100) hS (fun H locs hP hS => ?_)
    exact J103 v2 v3 μ23  h _ _ _ hP hS (lv_sub hl [0, 1, 2, 3] rfl)
  have J76 : ∀ (v2 : Int32) (v3 : Int32) (μ : fMem), f_X8_takeBack_j76 v0 v1 v2 v3 μ = some (r, μr) → WW p l e rm_X8_takeBack s m args below meth c (MQ below (fQv w μr) args s 0 0 (fA w)) w μ 4 76 [] [(0, .ref (w.2.2.1 v0)), (1, .ref (w.2.2.1 v1)), (2, .int v2), (3, .int v3)] := by
    intro v2 v3 μ  h H locs ls hP hS hl
    unfold f_X8_takeBack_j76 at h
    refine lv_aload_n hx hb dX8_takeBack_76 rfl (lv_at hl 0 rfl) ?_
    refine r_getF (off := 1) C hP (iw hw (fi_8 hk0)) hk0 fl_X8_15 rfl rfl (zw hw) dX8_takeBack_77 ?_
    refine lv_aload_n hx hb dX8_takeBack_80 rfl (lv_at hl 0 rfl) ?_
    refine r_getI C hP (iw hw (fi_8 hk0)) hk0 fl_X8_9 (Or.inl rfl) dX8_takeBack_81 ?_
    obtain ⟨g14, h⟩ := gd_ok h
    refine r_iald C hP (iw hw (ff_8_1 hk0).2) (ff_8_1 hk0).1 g14 dX8_takeBack_84 ?_
    refine lv_iconst (v := (1)) hx hb dX8_takeBack_85 (by decide) ?_
    refine lv_icmp_ne (tgt := 103) hx hb dX8_takeBack_86 (by decide) (fun c15 => ?_) (fun c15 => ?_)
    · replace h := if_f c15 h
      exact J103 v2 v3 μ  h _ _ _ hP hS (lv_sub hl [0, 1, 2, 3] rfl)
    · replace h := if_t c15 h
      refine lv_aload_n hx hb dX8_takeBack_89 rfl (lv_at hl 1 rfl) ?_
      refine lv_iload_n hx hb dX8_takeBack_90 rfl (lv_at hl 2 rfl) ?_
      refine lv_iload_n hx hb dX8_takeBack_91 rfl (lv_at hl 3 rfl) ?_
      refine lv_if_eq (tgt := 99) hx hb dX8_takeBack_92 (by decide) (fun c16 => ?_) (fun c16 => ?_)
      · replace h := if_t c16 h
        refine lv_iconst (v := (0)) hx hb dX8_takeBack_99 (by decide) ?_
        exact J100 v2 v3 v1 v2 (0 : Int32) μ hk1 (iw hw (fi_7 hk1)) h _ _ _ hP hS (lv_sub hl [0, 1, 2, 3] rfl)
      · replace h := if_f c16 h
        refine lv_iconst (v := (1)) hx hb dX8_takeBack_95 (by decide) ?_
        refine lv_goto (tgt := 100) hx hb dX8_takeBack_96 (by decide) ?_
        exact J100 v2 v3 v1 v2 (1 : Int32) μ hk1 (iw hw (fi_7 hk1)) h _ _ _ hP hS (lv_sub hl [0, 1, 2, 3] rfl)
  refine lv_aload_n hx hb dX8_takeBack_0 rfl (lv_at hl 0 rfl) ?_
  refine r_getI C hP (iw hw (fi_8 hk0)) hk0 fl_X8_9 (Or.inl rfl) dX8_takeBack_1 ?_
  refine lv_if_le (tgt := 16) hx hb dX8_takeBack_4 (by decide) (fun c1 => ?_) (fun c1 => ?_)
  · replace h := if_t c1 h
    exact r_vret C hr hP hS h dX8_takeBack_16
  · replace h := if_f c1 h
    refine lv_aload_n hx hb dX8_takeBack_7 rfl (lv_at hl 0 rfl) ?_
    refine r_getI C hP (iw hw (fi_8 hk0)) hk0 fl_X8_9 (Or.inl rfl) dX8_takeBack_8 ?_
    refine lv_bipush (v := (20)) hx hb dX8_takeBack_11 (by decide) ?_
    refine lv_icmp_le (tgt := 17) hx hb dX8_takeBack_13 (by decide) (fun c2 => ?_) (fun c2 => ?_)
    · replace h := if_t c2 h
      refine lv_aload_n hx hb dX8_takeBack_17 rfl (lv_at hl 0 rfl) ?_
      refine lv_dup hx hb dX8_takeBack_18 rfl ?_
      refine r_getI C hP (iw hw (fi_8 hk0)) hk0 fl_X8_9 (Or.inl rfl) dX8_takeBack_19 ?_
      refine lv_iconst (v := (1)) hx hb dX8_takeBack_22 (by decide) ?_
      refine lv_isub hx hb dX8_takeBack_23 ?_
      refine r_putI C hP hS (iw hw (fi_8 hk0)) hk0 fp_X8_9 rfl dX8_takeBack_24 (fun H locs hP hS => ?_)
      obtain ⟨μ3, eμ3, h⟩ := vl_ex h
      have hP : fP w μ3 H := by rw [eμ3]; exact hP
      refine lv_aload_n hx hb dX8_takeBack_27 rfl (lv_at hl 0 rfl) ?_
      refine r_getF (off := 2) C hP (iw hw (fi_8 hk0)) hk0 fl_X8_19 rfl rfl (zw hw) dX8_takeBack_28 ?_
      refine lv_aload_n hx hb dX8_takeBack_31 rfl (lv_at hl 0 rfl) ?_
      refine r_getI C hP (iw hw (fi_8 hk0)) hk0 fl_X8_9 (Or.inl rfl) dX8_takeBack_32 ?_
      obtain ⟨g4, h⟩ := gd_ok h
      refine r_iald C hP (iw hw (ff_8_2 hk0).2) (ff_8_2 hk0).1 g4 dX8_takeBack_35 ?_
      refine lv_topi (fun x5 ex5 => ?_)
      replace h := vl_ok ex5 h
      refine lv_istore_n (lv' := [(2, .int x5), (0, .ref (w.2.2.1 v0)), (1, .ref (w.2.2.1 v1))]) hx hb dX8_takeBack_36 rfl hl (by decide) rfl (fun ls hl => ?_)
      refine lv_aload_n hx hb dX8_takeBack_37 rfl (lv_at hl 1 rfl) ?_
      refine r_getF (off := 3) C hP (iw hw (fi_8 hk0)) hk0 fl_X8_22 rfl rfl (zw hw) dX8_takeBack_38 ?_
      refine lv_aload_n hx hb dX8_takeBack_41 rfl (lv_at hl 1 rfl) ?_
      refine r_getI C hP (iw hw (fi_8 hk0)) hk0 fl_X8_9 (Or.inl rfl) dX8_takeBack_42 ?_
      obtain ⟨g6, h⟩ := gd_ok h
      refine r_iald C hP (iw hw (ff_8_3 hk0).2) (ff_8_3 hk0).1 g6 dX8_takeBack_45 ?_
      refine lv_topi (fun x7 ex7 => ?_)
      replace h := vl_ok ex7 h
      refine lv_istore_n (lv' := [(3, .int x7), (2, .int x5), (0, .ref (w.2.2.1 v0)), (1, .ref (w.2.2.1 v1))]) hx hb dX8_takeBack_46 rfl hl (by decide) rfl (fun ls hl => ?_)
      refine lv_aload_n hx hb dX8_takeBack_47 rfl (lv_at hl 2 rfl) ?_
      refine r_getF (off := 1) C hP (iw hw (fi_8 hk0)) hk0 fl_X8_15 rfl rfl (zw hw) dX8_takeBack_48 ?_
      refine lv_aload_n hx hb dX8_takeBack_51 rfl (lv_at hl 2 rfl) ?_
      refine r_getI C hP (iw hw (fi_8 hk0)) hk0 fl_X8_9 (Or.inl rfl) dX8_takeBack_52 ?_
      obtain ⟨g8, h⟩ := gd_ok h
      refine r_iald C hP (iw hw (ff_8_1 hk0).2) (ff_8_1 hk0).1 g8 dX8_takeBack_55 ?_
      refine lv_if_ne (tgt := 76) hx hb dX8_takeBack_56 (by decide) (fun c9 => ?_) (fun c9 => ?_)
      · replace h := if_f c9 h
        exact J76 x5 x7 μ3  h _ _ _ hP hS (lv_sub hl [2, 3, 1, 0] rfl)
      · replace h := if_t c9 h
        refine lv_iload_n hx hb dX8_takeBack_59 rfl (lv_at hl 1 rfl) ?_
        refine lv_if_lt (tgt := 76) hx hb dX8_takeBack_60 (by decide) (fun c10 => ?_) (fun c10 => ?_)
        · replace h := if_t c10 h
          exact J76 x5 x7 μ3  h _ _ _ hP hS (lv_sub hl [2, 3, 1, 0] rfl)
        · replace h := if_f c10 h
          refine lv_iload_n hx hb dX8_takeBack_63 rfl (lv_at hl 1 rfl) ?_
          refine lv_bipush (v := (8)) hx hb dX8_takeBack_64 (by decide) ?_
          refine lv_icmp_ge (tgt := 76) hx hb dX8_takeBack_66 (by decide) (fun c11 => ?_) (fun c11 => ?_)
          · replace h := if_t c11 h
            exact J76 x5 x7 μ3  h _ _ _ hP hS (lv_sub hl [2, 3, 1, 0] rfl)
          · replace h := if_f c11 h
            refine lv_aload_n hx hb dX8_takeBack_69 rfl (lv_at hl 3 rfl) ?_
            refine r_getF (off := 1) C hP (iw hw (fi_7 hk1)) hk1 fl_X8_34 rfl rfl (zw hw) dX8_takeBack_70 ?_
            refine lv_iload_n hx hb dX8_takeBack_73 rfl (lv_at hl 1 rfl) ?_
            refine lv_iload_n hx hb dX8_takeBack_74 rfl (lv_at hl 0 rfl) ?_
            obtain ⟨g13, h⟩ := gd_ok h
            refine r_iast C hP hS (iw hw (ff_7_0 hk1).2) (ff_7_0 hk1).1 g13 dX8_takeBack_75 (fun H locs hP hS => ?_)
            obtain ⟨μ12, eμ12, h⟩ := vl_ex h
            have hP : fP w μ12 H := by rw [eμ12]; exact hP
            exact J76 x5 x7 μ12  h _ _ _ hP hS (lv_sub hl [2, 3, 1, 0] rfl)
    · replace h := if_f c2 h
      exact r_vret C hr hP hS h dX8_takeBack_16

def f_X10_putFour_L3 (v0 : Nat) (v1 : Int32) (v2 : Int32) (μ : fMem) : Option (Nat × (Int32 × fMem)) :=
  if v2 < 0 then some (1, (v2, μ)) else if (μ.1 v0 1) < 0 then vl (v2 + (-8 : Int32)) fun x3 => some (0, (x3, μ)) else if (700 : Int32) ≤ (μ.1 v0 1) then vl (v2 + (-8 : Int32)) fun x5 => some (0, (x5, μ)) else gd (ixo (μ.1 v0 1) 700) (vl (sI μ (v0 + 1) (Int32.toNatClampNeg (μ.1 v0 1)) ((ushr v1 v2) &&& (255 : Int32))) fun μ6 => vl (sI μ6 v0 1 ((μ6.1 v0 1) + (1 : Int32))) fun μ8 => vl (v2 + (-8 : Int32)) fun x9 => some (0, (x9, μ8)))
def f_X10_putFour (v0 : Nat) (v1 : Int32) (μ : fMem) : Option (Unit × fMem) :=
  bd (lpn (fun (q : Int32 × fMem) => f_X10_putFour_L3 v0 v1 q.1 q.2) fuel ((24 : Int32), μ)) fun t10 q11 => (fun (x12 : Int32) (μ13 : fMem) => some ((), μ13)) q11.1 q11.2
def rm_X10_putFour : Room := { frames := 0, cells := 0, slots := 0, locals := 0 }
set_option maxHeartbeats 4000000 in
set_option maxRecDepth 100000 in
theorem m_X10_putFour (l : Launch) (w : fW) (hJ : fJ w) (hw : w.2.2.2 = sd 0) (v0 : Nat) (v1 : Int32) (hk0 : kd v0 = (4, 10)) (μ : fMem) {r : Unit} {μr : fMem} (h : f_X10_putFour v0 v1 μ = some (r, μr)) : Met l yX10_putFour (.code yX10_putFour cX10_putFour 3 none :: gw) rm_X10_putFour (fPc w [.ref (w.2.2.1 v0), .int v1] μ) (fQv w μr) 0 0 (fA w) := by
  refine met_of hJ (by decide) ?_ (Nat.le_of_ble_eq_true rfl)
  generalize ([.ref (w.2.2.1 v0), .int v1] : List Value).toArray = args
  intro p e s m below meth c ls C hr hP hl hS
  obtain ⟨hx, hb, hml, hown, hts, hK, -, hlk, hT⟩ := id C
  have hl : lv_has ls 3 [(0, .ref (w.2.2.1 v0)), (1, .int v1)] := hl
  unfold f_X10_putFour at h
  refine lv_bipush (v := (24)) hx hb dX10_putFour_0 (by decide) ?_
  refine lv_istore_n (lv' := [(2, .int (24 : Int32)), (0, .ref (w.2.2.1 v0)), (1, .int v1)]) hx hb dX10_putFour_2 rfl hl (by decide) rfl (fun ls hl => ?_)
  obtain ⟨t10, q11, h14, h⟩ := bd_ok h
  refine lpn_ind (b := (fun (q : Int32 × fMem) => f_X10_putFour_L3 v0 v1 q.1 q.2)) (P := fun (q : Int32 × fMem) => WW p l e rm_X10_putFour s m args below meth c (MQ below (fQv w μr) args s 0 0 (fA w)) w q.2 3 3 [] [(0, .ref (w.2.2.1 v0)), (1, .int v1), (2, .int q.1)]) (K := fun _ (q : Int32 × fMem) => WW p l e rm_X10_putFour s m args below meth c (MQ below (fQv w μr) args s 0 0 (fA w)) w q.2 3 58 [] []) ?_ fuel ((24 : Int32), μ) t10 q11 h14 ?_ _ _ _ hP hS (lv_sub hl [1, 2, 0] rfl)
  · intro q tz3 sz3 h hP0_3 hK0_3 H locs ls hP hS hl
    obtain ⟨v2, μ⟩ := q
    have hP : fP w μ H := hP
    have hl : lv_has ls 3 [(0, .ref (w.2.2.1 v0)), (1, .int v1), (2, .int v2)] := hl
    have h : f_X10_putFour_L3 v0 v1 v2 μ = some (tz3, sz3) := h
    unfold f_X10_putFour_L3 at h
    refine lv_iload_n hx hb dX10_putFour_3 rfl (lv_at hl 2 rfl) ?_
    refine lv_if_lt (tgt := 58) hx hb dX10_putFour_4 (by decide) (fun c1 => ?_) (fun c1 => ?_)
    · replace h := if_t c1 h
      obtain ⟨rfl, rfl⟩ := leaf h
      exact (hK0_3 0 rfl) _ _ _ hP hS (lv_sub hl [] rfl)
    · replace h := if_f c1 h
      refine lv_aload_n hx hb dX10_putFour_7 rfl (lv_at hl 0 rfl) ?_
      refine r_getI C hP (iw hw (fi_10 hk0)) hk0 fl_X10_15 (Or.inl rfl) dX10_putFour_8 ?_
      refine lv_if_lt (tgt := 52) hx hb dX10_putFour_11 (by decide) (fun c2 => ?_) (fun c2 => ?_)
      · replace h := if_t c2 h
        obtain ⟨x3, ex3⟩ : ∃ y : Int32, y = (v2 + (-8 : Int32)) := ⟨_, rfl⟩
        replace h := vl_ok ex3 h
        refine lv_iinc (v := x3) (lv' := [(2, .int x3), (0, .ref (w.2.2.1 v0)), (1, .int v1)]) hx hb dX10_putFour_52 hl (k := 2) rfl (by rw [ex3]; rfl) (by decide) rfl (fun ls hl => ?_)
        refine lv_goto (tgt := 3) hx hb dX10_putFour_55 (by decide) ?_
        obtain ⟨rfl, rfl⟩ := leaf h
        exact hP0_3 rfl _ _ _ hP hS (lv_sub hl [1, 2, 0] rfl)
      · replace h := if_f c2 h
        refine lv_aload_n hx hb dX10_putFour_14 rfl (lv_at hl 0 rfl) ?_
        refine r_getI C hP (iw hw (fi_10 hk0)) hk0 fl_X10_15 (Or.inl rfl) dX10_putFour_15 ?_
        refine lv_aload_n hx hb dX10_putFour_18 rfl (lv_at hl 0 rfl) ?_
        refine r_getF (off := 1) C hP (iw hw (fi_10 hk0)) hk0 fl_X10_11 rfl rfl (zw hw) dX10_putFour_19 ?_
        refine r_alen (v := 700) C hP (iw hw (ff_10_0 hk0).2) (Or.inl (ff_10_0 hk0).1) (by decide) dX10_putFour_22 ?_
        refine lv_icmp_ge (tgt := 52) hx hb dX10_putFour_23 (by decide) (fun c4 => ?_) (fun c4 => ?_)
        · replace h := if_t c4 h
          obtain ⟨x5, ex5⟩ : ∃ y : Int32, y = (v2 + (-8 : Int32)) := ⟨_, rfl⟩
          replace h := vl_ok ex5 h
          refine lv_iinc (v := x5) (lv' := [(2, .int x5), (0, .ref (w.2.2.1 v0)), (1, .int v1)]) hx hb dX10_putFour_52 hl (k := 2) rfl (by rw [ex5]; rfl) (by decide) rfl (fun ls hl => ?_)
          refine lv_goto (tgt := 3) hx hb dX10_putFour_55 (by decide) ?_
          obtain ⟨rfl, rfl⟩ := leaf h
          exact hP0_3 rfl _ _ _ hP hS (lv_sub hl [1, 2, 0] rfl)
        · replace h := if_f c4 h
          refine lv_aload_n hx hb dX10_putFour_26 rfl (lv_at hl 0 rfl) ?_
          refine r_getF (off := 1) C hP (iw hw (fi_10 hk0)) hk0 fl_X10_11 rfl rfl (zw hw) dX10_putFour_27 ?_
          refine lv_aload_n hx hb dX10_putFour_30 rfl (lv_at hl 0 rfl) ?_
          refine r_getI C hP (iw hw (fi_10 hk0)) hk0 fl_X10_15 (Or.inl rfl) dX10_putFour_31 ?_
          refine lv_iload_n hx hb dX10_putFour_34 rfl (lv_at hl 1 rfl) ?_
          refine lv_iload_n hx hb dX10_putFour_35 rfl (lv_at hl 2 rfl) ?_
          refine r_iushr hx hb dX10_putFour_36 ?_
          refine lv_sipush (v := (255)) hx hb dX10_putFour_37 (by decide) ?_
          refine lv_iand hx hb dX10_putFour_40 ?_
          obtain ⟨g7, h⟩ := gd_ok h
          refine r_iast C hP hS (iw hw (ff_10_0 hk0).2) (ff_10_0 hk0).1 g7 dX10_putFour_41 (fun H locs hP hS => ?_)
          obtain ⟨μ6, eμ6, h⟩ := vl_ex h
          have hP : fP w μ6 H := by rw [eμ6]; exact hP
          refine lv_aload_n hx hb dX10_putFour_42 rfl (lv_at hl 0 rfl) ?_
          refine lv_dup hx hb dX10_putFour_43 rfl ?_
          refine r_getI C hP (iw hw (fi_10 hk0)) hk0 fl_X10_15 (Or.inl rfl) dX10_putFour_44 ?_
          refine lv_iconst (v := (1)) hx hb dX10_putFour_47 (by decide) ?_
          refine lv_iadd hx hb dX10_putFour_48 ?_
          refine r_putI C hP hS (iw hw (fi_10 hk0)) hk0 fp_X10_15 rfl dX10_putFour_49 (fun H locs hP hS => ?_)
          obtain ⟨μ8, eμ8, h⟩ := vl_ex h
          have hP : fP w μ8 H := by rw [eμ8]; exact hP
          obtain ⟨x9, ex9⟩ : ∃ y : Int32, y = (v2 + (-8 : Int32)) := ⟨_, rfl⟩
          replace h := vl_ok ex9 h
          refine lv_iinc (v := x9) (lv' := [(2, .int x9), (0, .ref (w.2.2.1 v0)), (1, .int v1)]) hx hb dX10_putFour_52 hl (k := 2) rfl (by rw [ex9]; rfl) (by decide) rfl (fun ls hl => ?_)
          refine lv_goto (tgt := 3) hx hb dX10_putFour_55 (by decide) ?_
          obtain ⟨rfl, rfl⟩ := leaf h
          exact hP0_3 rfl _ _ _ hP hS (lv_sub hl [1, 2, 0] rfl)
  · obtain ⟨x12, μ13⟩ := q11
    intro H locs ls hP hS hl
    have hP : fP w μ13 H := hP
    have hl : lv_has ls 3 [] := hl
    try dsimp only at h
    exact r_vret C hr hP hS h dX10_putFour_58

def f_X10_feed (v0 : Nat) (v1 : Int32) (v2 : Int32) (v3 : Int32) (v4 : Int32) (v5 : Int32) (μ : fMem) : Option (Int32 × fMem) :=
  if ((μ.1 v0 1) + (20 : Int32)) ≤ (700 : Int32) then bd (f_X10_putFour v0 v1 μ) fun r3 μ2 => bd (f_X10_putFour v0 v2 μ2) fun r6 μ5 => bd (f_X10_putFour v0 v3 μ5) fun r9 μ8 => bd (f_X10_putFour v0 v4 μ8) fun r12 μ11 => bd (f_X10_putFour v0 v5 μ11) fun r15 μ14 => some ((μ14.1 v0 1), μ14) else some ((-1 : Int32), μ)
def rm_X10_feed : Room := { frames := 1, cells := 0, slots := 0, locals := 22 }
set_option maxHeartbeats 4000000 in
set_option maxRecDepth 100000 in
theorem m_X10_feed (l : Launch) (w : fW) (hJ : fJ w) (hw : w.2.2.2 = sd 0) (v0 : Nat) (v1 : Int32) (v2 : Int32) (v3 : Int32) (v4 : Int32) (v5 : Int32) (hk0 : kd v0 = (4, 10)) (μ : fMem) {r : Int32} {μr : fMem} (h : f_X10_feed v0 v1 v2 v3 v4 v5 μ = some (r, μr)) : Met l yX10_feed (.code yX10_feed cX10_feed 6 (some .int) :: gw) rm_X10_feed (fPc w [.ref (w.2.2.1 v0), .int v1, .int v2, .int v3, .int v4, .int v5] μ) (fQi w r μr) 0 0 (fA w) := by
  refine met_of hJ (by decide) ?_ (Nat.le_of_ble_eq_true rfl)
  generalize ([.ref (w.2.2.1 v0), .int v1, .int v2, .int v3, .int v4, .int v5] : List Value).toArray = args
  intro p e s m below meth c ls C hr hP hl hS
  obtain ⟨hx, hb, hml, hown, hts, hK, -, hlk, hT⟩ := id C
  have hl : lv_has ls 6 [(0, .ref (w.2.2.1 v0)), (1, .int v1), (2, .int v2), (3, .int v3), (4, .int v4), (5, .int v5)] := hl
  unfold f_X10_feed at h
  refine lv_aload_n hx hb dX10_feed_0 rfl (lv_at hl 0 rfl) ?_
  refine r_getI C hP (iw hw (fi_10 hk0)) hk0 fl_X10_15 (Or.inl rfl) dX10_feed_1 ?_
  refine lv_bipush (v := (20)) hx hb dX10_feed_4 (by decide) ?_
  refine lv_iadd hx hb dX10_feed_6 ?_
  refine lv_sipush (v := (700)) hx hb dX10_feed_7 (by decide) ?_
  refine lv_icmp_le (tgt := 15) hx hb dX10_feed_10 (by decide) (fun c1 => ?_) (fun c1 => ?_)
  · replace h := if_t c1 h
    refine lv_aload_n hx hb dX10_feed_15 rfl (lv_at hl 0 rfl) ?_
    refine lv_iload_n hx hb dX10_feed_16 rfl (lv_at hl 1 rfl) ?_
    obtain ⟨r3, μ2, h4, h⟩ := bd_ok h
    refine go_v (callV_run (As := [.int v1]) (rest := []) C hl hP (hS.wide hJ).2.1 (iw hw (fi_10 hk0)) hk0 (m_X10_putFour l w hJ hw v0 v1 hk0 μ h4) mv_X10_85 ⟨rfl, rfl, by decide, by decide⟩ rfl rfl (Nat.le_of_ble_eq_true rfl) ⟨Nat.zero_le _, Nat.zero_le _⟩ dX10_feed_17) hS (fun H locs hP hS => ?_)
    refine lv_aload_n hx hb dX10_feed_20 rfl (lv_at hl 0 rfl) ?_
    refine lv_iload_n hx hb dX10_feed_21 rfl (lv_at hl 2 rfl) ?_
    obtain ⟨r6, μ5, h7, h⟩ := bd_ok h
    refine go_v (callV_run (As := [.int v2]) (rest := []) C hl hP (hS.wide hJ).2.1 (iw hw (fi_10 hk0)) hk0 (m_X10_putFour l w hJ hw v0 v2 hk0 μ2 h7) mv_X10_85 ⟨rfl, rfl, by decide, by decide⟩ rfl rfl (Nat.le_of_ble_eq_true rfl) ⟨Nat.zero_le _, Nat.zero_le _⟩ dX10_feed_22) hS (fun H locs hP hS => ?_)
    refine lv_aload_n hx hb dX10_feed_25 rfl (lv_at hl 0 rfl) ?_
    refine lv_iload_n hx hb dX10_feed_26 rfl (lv_at hl 3 rfl) ?_
    obtain ⟨r9, μ8, h10, h⟩ := bd_ok h
    refine go_v (callV_run (As := [.int v3]) (rest := []) C hl hP (hS.wide hJ).2.1 (iw hw (fi_10 hk0)) hk0 (m_X10_putFour l w hJ hw v0 v3 hk0 μ5 h10) mv_X10_85 ⟨rfl, rfl, by decide, by decide⟩ rfl rfl (Nat.le_of_ble_eq_true rfl) ⟨Nat.zero_le _, Nat.zero_le _⟩ dX10_feed_27) hS (fun H locs hP hS => ?_)
    refine lv_aload_n hx hb dX10_feed_30 rfl (lv_at hl 0 rfl) ?_
    refine lv_iload hx hb dX10_feed_31 (lv_at hl 4 rfl) ?_
    obtain ⟨r12, μ11, h13, h⟩ := bd_ok h
    refine go_v (callV_run (As := [.int v4]) (rest := []) C hl hP (hS.wide hJ).2.1 (iw hw (fi_10 hk0)) hk0 (m_X10_putFour l w hJ hw v0 v4 hk0 μ8 h13) mv_X10_85 ⟨rfl, rfl, by decide, by decide⟩ rfl rfl (Nat.le_of_ble_eq_true rfl) ⟨Nat.zero_le _, Nat.zero_le _⟩ dX10_feed_33) hS (fun H locs hP hS => ?_)
    refine lv_aload_n hx hb dX10_feed_36 rfl (lv_at hl 0 rfl) ?_
    refine lv_iload hx hb dX10_feed_37 (lv_at hl 5 rfl) ?_
    obtain ⟨r15, μ14, h16, h⟩ := bd_ok h
    refine go_v (callV_run (As := [.int v5]) (rest := []) C hl hP (hS.wide hJ).2.1 (iw hw (fi_10 hk0)) hk0 (m_X10_putFour l w hJ hw v0 v5 hk0 μ11 h16) mv_X10_85 ⟨rfl, rfl, by decide, by decide⟩ rfl rfl (Nat.le_of_ble_eq_true rfl) ⟨Nat.zero_le _, Nat.zero_le _⟩ dX10_feed_39) hS (fun H locs hP hS => ?_)
    refine lv_aload_n hx hb dX10_feed_42 rfl (lv_at hl 0 rfl) ?_
    refine r_getI C hP (iw hw (fi_10 hk0)) hk0 fl_X10_15 (Or.inl rfl) dX10_feed_43 ?_
    exact r_iret C hr hP hS h dX10_feed_46
  · replace h := if_f c1 h
    refine lv_iconst (v := (-1)) hx hb dX10_feed_13 (by decide) ?_
    exact r_iret C hr hP hS h dX10_feed_14

def f_X10_text (v0 : Nat) (v1 : Int32) (μ : fMem) : Option (Int32 × fMem) :=
  if v1 < 0 then some ((-2 : Int32), μ) else if v1 ≤ (μ.1 v0 1) then vl (sI μ v0 1 (0 : Int32)) fun μ3 => bd (f_X5_read (v0 + 30) (v0 + 1) v1 μ3) fun r5 μ4 => if r5 = 0 then some ((-1 : Int32), μ4) else vl (μ4.2.2 v0 2) fun x8 => gd (kd x8 = (4, 2)) (bd (f_X5_trade (v0 + 30) x8 μ4) fun r11 μ10 => gd (kd r11 = (4, 2)) (vl (sR μ10 v0 2 r11) fun μ14 => vl (μ14.2.2 v0 2) fun x15 => gd (kd x15 = (4, 2)) (bd (f_X7_enter (v0 + 66) x15 μ14) fun r18 μ17 => bd (f_X4_clear (v0 + 123) μ17) fun r21 μ20 => bd (f_X8_clear (v0 + 130) μ20) fun r24 μ23 => vl (sI μ23 v0 6 (0 : Int32)) fun μ26 => bd (f_X0_forget (v0 + 84) μ26) fun r28 μ27 => vl (μ27.2.2 v0 2) fun x30 => gd (kd x30 = (4, 2)) (some ((μ27.1 x30 1), μ27))))) else some ((-2 : Int32), μ)
def rm_X10_text : Room := { frames := 7, cells := 0, slots := 0, locals := 167 }
set_option maxHeartbeats 4000000 in
set_option maxRecDepth 100000 in
theorem m_X10_text (l : Launch) (w : fW) (hJ : fJ w) (hw : w.2.2.2 = sd 0) (v0 : Nat) (v1 : Int32) (hk0 : kd v0 = (4, 10)) (μ : fMem) {r : Int32} {μr : fMem} (h : f_X10_text v0 v1 μ = some (r, μr)) : Met l yX10_text (.code yX10_text cX10_text 2 (some .int) :: gw) rm_X10_text (fPc w [.ref (w.2.2.1 v0), .int v1] μ) (fQi w r μr) 0 0 (fA w) := by
  refine met_of hJ (by decide) ?_ (Nat.le_of_ble_eq_true rfl)
  generalize ([.ref (w.2.2.1 v0), .int v1] : List Value).toArray = args
  intro p e s m below meth c ls C hr hP hl hS
  obtain ⟨hx, hb, hml, hown, hts, hK, -, hlk, hT⟩ := id C
  have hl : lv_has ls 2 [(0, .ref (w.2.2.1 v0)), (1, .int v1)] := hl
  unfold f_X10_text at h
  refine lv_iload_n hx hb dX10_text_0 rfl (lv_at hl 1 rfl) ?_
  refine lv_if_lt (tgt := 12) hx hb dX10_text_1 (by decide) (fun c1 => ?_) (fun c1 => ?_)
  · replace h := if_t c1 h
    refine lv_bipush (v := (-2)) hx hb dX10_text_12 (by decide) ?_
    exact r_iret C hr hP hS h dX10_text_14
  · replace h := if_f c1 h
    refine lv_iload_n hx hb dX10_text_4 rfl (lv_at hl 1 rfl) ?_
    refine lv_aload_n hx hb dX10_text_5 rfl (lv_at hl 0 rfl) ?_
    refine r_getI C hP (iw hw (fi_10 hk0)) hk0 fl_X10_15 (Or.inl rfl) dX10_text_6 ?_
    refine lv_icmp_le (tgt := 15) hx hb dX10_text_9 (by decide) (fun c2 => ?_) (fun c2 => ?_)
    · replace h := if_t c2 h
      refine lv_aload_n hx hb dX10_text_15 rfl (lv_at hl 0 rfl) ?_
      refine lv_iconst (v := (0)) hx hb dX10_text_16 (by decide) ?_
      refine r_putI C hP hS (iw hw (fi_10 hk0)) hk0 fp_X10_15 rfl dX10_text_17 (fun H locs hP hS => ?_)
      obtain ⟨μ3, eμ3, h⟩ := vl_ex h
      have hP : fP w μ3 H := by rw [eμ3]; exact hP
      refine lv_aload_n hx hb dX10_text_20 rfl (lv_at hl 0 rfl) ?_
      refine r_getF (off := 30) C hP (iw hw (fi_10 hk0)) hk0 fl_X10_29 rfl rfl (zw hw) dX10_text_21 ?_
      refine lv_aload_n hx hb dX10_text_24 rfl (lv_at hl 0 rfl) ?_
      refine r_getF (off := 1) C hP (iw hw (fi_10 hk0)) hk0 fl_X10_11 rfl rfl (zw hw) dX10_text_25 ?_
      refine lv_iload_n hx hb dX10_text_28 rfl (lv_at hl 1 rfl) ?_
      obtain ⟨r5, μ4, h6, h⟩ := bd_ok h
      refine go_i (callV_run (As := [.ref (w.2.2.1 (v0 + 1)), .int v1]) (rest := []) C hl hP (hS.wide hJ).2.1 (iw hw (ff_10_3 hk0).2) (ff_10_3 hk0).1 (m_X5_read l w hJ hw (v0 + 30) (v0 + 1) v1 (ff_10_3 hk0).1 (karr (ff_10_0 hk0).1) (iw hw (ff_10_0 hk0).2) μ3 h6) mv_X10_89 ⟨rfl, rfl, by decide, by decide⟩ rfl rfl (Nat.le_of_ble_eq_true rfl) ⟨Nat.zero_le _, Nat.zero_le _⟩ dX10_text_29) hS (fun H locs hP hS => ?_)
      refine lv_if_ne (tgt := 37) hx hb dX10_text_32 (by decide) (fun c7 => ?_) (fun c7 => ?_)
      · replace h := if_f c7 h
        refine lv_aload_n hx hb dX10_text_37 rfl (lv_at hl 0 rfl) ?_
        refine lv_aload_n hx hb dX10_text_38 rfl (lv_at hl 0 rfl) ?_
        refine r_getF (off := 30) C hP (iw hw (fi_10 hk0)) hk0 fl_X10_29 rfl rfl (zw hw) dX10_text_39 ?_
        refine lv_aload_n hx hb dX10_text_42 rfl (lv_at hl 0 rfl) ?_
        refine r_getRx C hP (iw hw (fi_10 hk0)) hk0 fl_X10_22 rfl (zw hw) dX10_text_43 (fun x8 ex8 => ?_)
        replace h := vl_ok ex8 h
        obtain ⟨g9, h⟩ := gd_ok h
        obtain ⟨r11, μ10, h12, h⟩ := bd_ok h
        refine go_r (callV_run (As := [.ref (w.2.2.1 x8)]) (rest := [.ref (w.2.2.1 v0)]) C hl hP (hS.wide hJ).2.1 (iw hw (ff_10_3 hk0).2) (ff_10_3 hk0).1 (m_X5_trade l w hJ hw (v0 + 30) x8 (ff_10_3 hk0).1 g9 μ4 h12) mv_X10_93 ⟨rfl, rfl, by decide, by decide⟩ rfl rfl (Nat.le_of_ble_eq_true rfl) ⟨Nat.zero_le _, Nat.zero_le _⟩ dX10_text_46) hS (fun H locs hP hS => ?_)
        obtain ⟨g13, h⟩ := gd_ok h
        refine r_putR C hP hS (iw hw (fi_10 hk0)) hk0 fp_X10_22 rfl (zw hw) dX10_text_49 (fun H locs hP hS => ?_)
        obtain ⟨μ14, eμ14, h⟩ := vl_ex h
        have hP : fP w μ14 H := by rw [eμ14]; exact hP
        refine lv_aload_n hx hb dX10_text_52 rfl (lv_at hl 0 rfl) ?_
        refine r_getF (off := 66) C hP (iw hw (fi_10 hk0)) hk0 fl_X10_36 rfl rfl (zw hw) dX10_text_53 ?_
        refine lv_aload_n hx hb dX10_text_56 rfl (lv_at hl 0 rfl) ?_
        refine r_getRx C hP (iw hw (fi_10 hk0)) hk0 fl_X10_22 rfl (zw hw) dX10_text_57 (fun x15 ex15 => ?_)
        replace h := vl_ok ex15 h
        obtain ⟨g16, h⟩ := gd_ok h
        obtain ⟨r18, μ17, h19, h⟩ := bd_ok h
        refine go_v (callV_run (As := [.ref (w.2.2.1 x15)]) (rest := []) C hl hP (hS.wide hJ).2.1 (iw hw (ff_10_4 hk0).2) (ff_10_4 hk0).1 (m_X7_enter l w hJ hw (v0 + 66) x15 (ff_10_4 hk0).1 g16 μ14 h19) mv_X10_97 ⟨rfl, rfl, by decide, by decide⟩ rfl rfl (Nat.le_of_ble_eq_true rfl) ⟨Nat.zero_le _, Nat.zero_le _⟩ dX10_text_60) hS (fun H locs hP hS => ?_)
        refine lv_aload_n hx hb dX10_text_63 rfl (lv_at hl 0 rfl) ?_
        refine r_getF (off := 123) C hP (iw hw (fi_10 hk0)) hk0 fl_X10_60 rfl rfl (zw hw) dX10_text_64 ?_
        obtain ⟨r21, μ20, h22, h⟩ := bd_ok h
        refine go_v (callV_run (As := []) (rest := []) C hl hP (hS.wide hJ).2.1 (iw hw (ff_10_9 hk0).2) (ff_10_9 hk0).1 (m_X4_clear l w hJ hw (v0 + 123) (ff_10_9 hk0).1 μ17 h22) mv_X10_101 ⟨rfl, rfl, by decide, by decide⟩ rfl rfl (Nat.le_of_ble_eq_true rfl) ⟨Nat.zero_le _, Nat.zero_le _⟩ dX10_text_67) hS (fun H locs hP hS => ?_)
        refine lv_aload_n hx hb dX10_text_70 rfl (lv_at hl 0 rfl) ?_
        refine r_getF (off := 130) C hP (iw hw (fi_10 hk0)) hk0 fl_X10_67 rfl rfl (zw hw) dX10_text_71 ?_
        obtain ⟨r24, μ23, h25, h⟩ := bd_ok h
        refine go_v (callV_run (As := []) (rest := []) C hl hP (hS.wide hJ).2.1 (iw hw (ff_10_10 hk0).2) (ff_10_10 hk0).1 (m_X8_clear l w hJ hw (v0 + 130) (ff_10_10 hk0).1 μ20 h25) mv_X10_104 ⟨rfl, rfl, by decide, by decide⟩ rfl rfl (Nat.le_of_ble_eq_true rfl) ⟨Nat.zero_le _, Nat.zero_le _⟩ dX10_text_74) hS (fun H locs hP hS => ?_)
        refine lv_aload_n hx hb dX10_text_77 rfl (lv_at hl 0 rfl) ?_
        refine lv_iconst (v := (0)) hx hb dX10_text_78 (by decide) ?_
        refine r_putZ C hP hS (iw hw (fi_10 hk0)) hk0 fp_X10_43 rfl (Or.inl rfl) dX10_text_79 (fun H locs hP hS => ?_)
        obtain ⟨μ26, eμ26, h⟩ := vl_ex h
        have hP : fP w μ26 H := by rw [eμ26]; exact hP
        refine lv_aload_n hx hb dX10_text_82 rfl (lv_at hl 0 rfl) ?_
        refine r_getF (off := 84) C hP (iw hw (fi_10 hk0)) hk0 fl_X10_53 rfl rfl (zw hw) dX10_text_83 ?_
        obtain ⟨r28, μ27, h29, h⟩ := bd_ok h
        refine go_v (callV_run (As := []) (rest := []) C hl hP (hS.wide hJ).2.1 (iw hw (ff_10_8 hk0).2) (ff_10_8 hk0).1 (m_X0_forget l w hJ hw (v0 + 84) (ff_10_8 hk0).1 μ26 h29) mv_X10_105 ⟨rfl, rfl, by decide, by decide⟩ rfl rfl (Nat.le_of_ble_eq_true rfl) ⟨Nat.zero_le _, Nat.zero_le _⟩ dX10_text_86) hS (fun H locs hP hS => ?_)
        refine lv_aload_n hx hb dX10_text_89 rfl (lv_at hl 0 rfl) ?_
        refine r_getRx C hP (iw hw (fi_10 hk0)) hk0 fl_X10_22 rfl (zw hw) dX10_text_90 (fun x30 ex30 => ?_)
        replace h := vl_ok ex30 h
        obtain ⟨g31, h⟩ := gd_ok h
        refine r_getI C hP (iw hw (fi_2 g31)) g31 fl_X10_108 (Or.inl rfl) dX10_text_93 ?_
        exact r_iret C hr hP hS h dX10_text_96
      · replace h := if_t c7 h
        refine lv_iconst (v := (-1)) hx hb dX10_text_35 (by decide) ?_
        exact r_iret C hr hP hS h dX10_text_36
    · replace h := if_f c2 h
      refine lv_bipush (v := (-2)) hx hb dX10_text_12 (by decide) ?_
      exact r_iret C hr hP hS h dX10_text_14

def f_X10_fault (v0 : Nat) (v1 : Int32) (μ : fMem) : Option (Int32 × fMem) :=
  if v1 = 0 then some ((μ.1 (v0 + 30) 0), μ) else if v1 = (1 : Int32) then some ((μ.1 (v0 + 30) 1), μ) else some ((-1 : Int32), μ)
def rm_X10_fault : Room := { frames := 0, cells := 0, slots := 0, locals := 0 }
set_option maxHeartbeats 4000000 in
set_option maxRecDepth 100000 in
theorem m_X10_fault (l : Launch) (w : fW) (hJ : fJ w) (hw : w.2.2.2 = sd 0) (v0 : Nat) (v1 : Int32) (hk0 : kd v0 = (4, 10)) (μ : fMem) {r : Int32} {μr : fMem} (h : f_X10_fault v0 v1 μ = some (r, μr)) : Met l yX10_fault (.code yX10_fault cX10_fault 2 (some .int) :: gw) rm_X10_fault (fPc w [.ref (w.2.2.1 v0), .int v1] μ) (fQi w r μr) 0 0 (fA w) := by
  refine met_of hJ (by decide) ?_ (Nat.le_of_ble_eq_true rfl)
  generalize ([.ref (w.2.2.1 v0), .int v1] : List Value).toArray = args
  intro p e s m below meth c ls C hr hP hl hS
  obtain ⟨hx, hb, hml, hown, hts, hK, -, hlk, hT⟩ := id C
  have hl : lv_has ls 2 [(0, .ref (w.2.2.1 v0)), (1, .int v1)] := hl
  unfold f_X10_fault at h
  refine lv_iload_n hx hb dX10_fault_0 rfl (lv_at hl 1 rfl) ?_
  refine lv_if_ne (tgt := 12) hx hb dX10_fault_1 (by decide) (fun c1 => ?_) (fun c1 => ?_)
  · replace h := if_f c1 h
    refine lv_iload_n hx hb dX10_fault_12 rfl (lv_at hl 1 rfl) ?_
    refine lv_iconst (v := (1)) hx hb dX10_fault_13 (by decide) ?_
    refine lv_icmp_ne (tgt := 27) hx hb dX10_fault_14 (by decide) (fun c2 => ?_) (fun c2 => ?_)
    · replace h := if_f c2 h
      refine lv_iconst (v := (-1)) hx hb dX10_fault_27 (by decide) ?_
      exact r_iret C hr hP hS h dX10_fault_28
    · replace h := if_t c2 h
      refine lv_aload_n hx hb dX10_fault_17 rfl (lv_at hl 0 rfl) ?_
      refine r_getF (off := 30) C hP (iw hw (fi_10 hk0)) hk0 fl_X10_29 rfl rfl (zw hw) dX10_fault_18 ?_
      refine r_getI C hP (iw hw (ff_10_3 hk0).2) (ff_10_3 hk0).1 fl_X10_114 (Or.inl rfl) dX10_fault_21 ?_
      refine lv_goto (tgt := 28) hx hb dX10_fault_24 (by decide) ?_
      exact r_iret C hr hP hS h dX10_fault_28
  · replace h := if_t c1 h
    refine lv_aload_n hx hb dX10_fault_4 rfl (lv_at hl 0 rfl) ?_
    refine r_getF (off := 30) C hP (iw hw (fi_10 hk0)) hk0 fl_X10_29 rfl rfl (zw hw) dX10_fault_5 ?_
    refine r_getI C hP (iw hw (ff_10_3 hk0).2) (ff_10_3 hk0).1 fl_X10_111 (Or.inl rfl) dX10_fault_8 ?_
    exact r_iret C hr hP hS h dX10_fault_11

def f_X10_named (v0 : Nat) (v1 : Int32) (v2 : Int32) (μ : fMem) : Option (Int32 × fMem) :=
  if v1 = 0 then vl (μ.2.2 v0 2) fun x2 => gd (kd x2 = (4, 2)) (bd (f_X2_find x2 (0 : Int32) v2 μ) fun r5 μ4 => some (r5, μ4)) else if v1 = 1 then vl (μ.2.2 v0 2) fun x8 => gd (kd x8 = (4, 2)) (bd (f_X2_find x8 (2 : Int32) v2 μ) fun r11 μ10 => some (r11, μ10)) else if v1 = 2 then vl (μ.2.2 v0 2) fun x14 => gd (kd x14 = (4, 2)) (bd (f_X2_find x14 (3 : Int32) v2 μ) fun r17 μ16 => some (r17, μ16)) else some ((-1 : Int32), μ)
def rm_X10_named : Room := { frames := 2, cells := 0, slots := 0, locals := 44 }
set_option maxHeartbeats 4000000 in
set_option maxRecDepth 100000 in
theorem m_X10_named (l : Launch) (w : fW) (hJ : fJ w) (hw : w.2.2.2 = sd 0) (v0 : Nat) (v1 : Int32) (v2 : Int32) (hk0 : kd v0 = (4, 10)) (μ : fMem) {r : Int32} {μr : fMem} (h : f_X10_named v0 v1 v2 μ = some (r, μr)) : Met l yX10_named (.code yX10_named cX10_named 3 (some .int) :: gw) rm_X10_named (fPc w [.ref (w.2.2.1 v0), .int v1, .int v2] μ) (fQi w r μr) 0 0 (fA w) := by
  refine met_of hJ (by decide) ?_ (Nat.le_of_ble_eq_true rfl)
  generalize ([.ref (w.2.2.1 v0), .int v1, .int v2] : List Value).toArray = args
  intro p e s m below meth c ls C hr hP hl hS
  obtain ⟨hx, hb, hml, hown, hts, hK, -, hlk, hT⟩ := id C
  have hl : lv_has ls 3 [(0, .ref (w.2.2.1 v0)), (1, .int v1), (2, .int v2)] := hl
  unfold f_X10_named at h
  refine lv_iload_n hx hb dX10_named_0 rfl (lv_at hl 1 rfl) ?_
  by_cases c1 : v1 = 0
  · replace h := if_t c1 h
    refine lv_tableIn (off := 27) (tgt := 28) hx hb dX10_named_1 (by rw [c1]; decide) (by rw [c1]; decide) (by rw [c1]; rfl) (by decide) ?_
    refine lv_aload_n hx hb dX10_named_28 rfl (lv_at hl 0 rfl) ?_
    refine r_getRx C hP (iw hw (fi_10 hk0)) hk0 fl_X10_22 rfl (zw hw) dX10_named_29 (fun x2 ex2 => ?_)
    replace h := vl_ok ex2 h
    obtain ⟨g3, h⟩ := gd_ok h
    refine lv_iconst (v := (0)) hx hb dX10_named_32 (by decide) ?_
    refine lv_iload_n hx hb dX10_named_33 rfl (lv_at hl 2 rfl) ?_
    obtain ⟨r5, μ4, h6, h⟩ := bd_ok h
    refine go_i (callV_run (As := [.int (0 : Int32), .int v2]) (rest := []) C hl hP (hS.wide hJ).2.1 (iw hw (fi_2 g3)) g3 (m_X2_find l w hJ hw x2 (0 : Int32) v2 g3 μ h6) mv_X10_117 ⟨rfl, rfl, by decide, by decide⟩ rfl rfl (Nat.le_of_ble_eq_true rfl) ⟨Nat.zero_le _, Nat.zero_le _⟩ dX10_named_34) hS (fun H locs hP hS => ?_)
    exact r_iret C hr hP hS h dX10_named_37
  replace h := if_f c1 h
  by_cases c7 : v1 = 1
  · replace h := if_t c7 h
    refine lv_tableIn (off := 37) (tgt := 38) hx hb dX10_named_1 (by rw [c7]; decide) (by rw [c7]; decide) (by rw [c7]; rfl) (by decide) ?_
    refine lv_aload_n hx hb dX10_named_38 rfl (lv_at hl 0 rfl) ?_
    refine r_getRx C hP (iw hw (fi_10 hk0)) hk0 fl_X10_22 rfl (zw hw) dX10_named_39 (fun x8 ex8 => ?_)
    replace h := vl_ok ex8 h
    obtain ⟨g9, h⟩ := gd_ok h
    refine lv_iconst (v := (2)) hx hb dX10_named_42 (by decide) ?_
    refine lv_iload_n hx hb dX10_named_43 rfl (lv_at hl 2 rfl) ?_
    obtain ⟨r11, μ10, h12, h⟩ := bd_ok h
    refine go_i (callV_run (As := [.int (2 : Int32), .int v2]) (rest := []) C hl hP (hS.wide hJ).2.1 (iw hw (fi_2 g9)) g9 (m_X2_find l w hJ hw x8 (2 : Int32) v2 g9 μ h12) mv_X10_117 ⟨rfl, rfl, by decide, by decide⟩ rfl rfl (Nat.le_of_ble_eq_true rfl) ⟨Nat.zero_le _, Nat.zero_le _⟩ dX10_named_44) hS (fun H locs hP hS => ?_)
    exact r_iret C hr hP hS h dX10_named_47
  replace h := if_f c7 h
  by_cases c13 : v1 = 2
  · replace h := if_t c13 h
    refine lv_tableIn (off := 47) (tgt := 48) hx hb dX10_named_1 (by rw [c13]; decide) (by rw [c13]; decide) (by rw [c13]; rfl) (by decide) ?_
    refine lv_aload_n hx hb dX10_named_48 rfl (lv_at hl 0 rfl) ?_
    refine r_getRx C hP (iw hw (fi_10 hk0)) hk0 fl_X10_22 rfl (zw hw) dX10_named_49 (fun x14 ex14 => ?_)
    replace h := vl_ok ex14 h
    obtain ⟨g15, h⟩ := gd_ok h
    refine lv_iconst (v := (3)) hx hb dX10_named_52 (by decide) ?_
    refine lv_iload_n hx hb dX10_named_53 rfl (lv_at hl 2 rfl) ?_
    obtain ⟨r17, μ16, h18, h⟩ := bd_ok h
    refine go_i (callV_run (As := [.int (3 : Int32), .int v2]) (rest := []) C hl hP (hS.wide hJ).2.1 (iw hw (fi_2 g15)) g15 (m_X2_find l w hJ hw x14 (3 : Int32) v2 g15 μ h18) mv_X10_117 ⟨rfl, rfl, by decide, by decide⟩ rfl rfl (Nat.le_of_ble_eq_true rfl) ⟨Nat.zero_le _, Nat.zero_le _⟩ dX10_named_54) hS (fun H locs hP hS => ?_)
    exact r_iret C hr hP hS h dX10_named_57
  replace h := if_f c13 h
  have ho : Int32.toInt v1 < 0 ∨ 2 < Int32.toInt v1 := tb_out _ _ _ (fun v h1 h2 => by
    rcases (show v = 0 ∨ v = 1 ∨ v = 2 by omega) with rfl | rfl | rfl
    · exact c1
    · exact c7
    · exact c13)
  refine lv_tableOut (tgt := 58) hx hb dX10_named_1 ho (by decide) ?_
  refine lv_iconst (v := (-1)) hx hb dX10_named_58 (by decide) ?_
  exact r_iret C hr hP hS h dX10_named_59

def f_X10_room (v0 : Nat) (v1 : Int32) (v2 : Int32) (μ : fMem) : Option (Int32 × fMem) :=
  vl (μ.2.2 v0 2) fun x1 => gd (kd x1 = (4, 2)) (bd (f_X2_has x1 (0 : Int32) v1 μ) fun r4 μ3 => if r4 = 0 then some ((-1 : Int32), μ3) else if v2 = 0 then gd (ixo v1 6) (some ((μ3.1 ((v0 + 66) + 4) (Int32.toNatClampNeg v1)), μ3)) else if v2 = 1 then bd (f_X7_isRoped (v0 + 66) v1 μ3) fun r11 μ10 => if r11 = 0 then some ((0 : Int32), μ10) else some ((1 : Int32), μ10) else if v2 = 2 then bd (f_X7_thingsIn (v0 + 66) v1 μ3) fun r16 μ15 => bd (f_J6_bitCount_0f7a4 r16 μ15) fun r19 μ18 => some (r19, μ18) else if v2 = 3 then bd (f_X7_thingsIn (v0 + 66) v1 μ3) fun r23 μ22 => some (r23, μ22) else some ((-1 : Int32), μ3))
def rm_X10_room : Room := { frames := 1, cells := 0, slots := 0, locals := 23 }
set_option maxHeartbeats 4000000 in
set_option maxRecDepth 100000 in
theorem m_X10_room (l : Launch) (w : fW) (hJ : fJ w) (hw : w.2.2.2 = sd 0) (v0 : Nat) (v1 : Int32) (v2 : Int32) (hk0 : kd v0 = (4, 10)) (μ : fMem) {r : Int32} {μr : fMem} (h : f_X10_room v0 v1 v2 μ = some (r, μr)) : Met l yX10_room (.code yX10_room cX10_room 3 (some .int) :: gw) rm_X10_room (fPc w [.ref (w.2.2.1 v0), .int v1, .int v2] μ) (fQi w r μr) 0 0 (fA w) := by
  refine met_of hJ (by decide) ?_ (Nat.le_of_ble_eq_true rfl)
  generalize ([.ref (w.2.2.1 v0), .int v1, .int v2] : List Value).toArray = args
  intro p e s m below meth c ls C hr hP hl hS
  obtain ⟨hx, hb, hml, hown, hts, hK, -, hlk, hT⟩ := id C
  have hl : lv_has ls 3 [(0, .ref (w.2.2.1 v0)), (1, .int v1), (2, .int v2)] := hl
  unfold f_X10_room at h
  refine lv_aload_n hx hb dX10_room_0 rfl (lv_at hl 0 rfl) ?_
  refine r_getRx C hP (iw hw (fi_10 hk0)) hk0 fl_X10_22 rfl (zw hw) dX10_room_1 (fun x1 ex1 => ?_)
  replace h := vl_ok ex1 h
  obtain ⟨g2, h⟩ := gd_ok h
  refine lv_iconst (v := (0)) hx hb dX10_room_4 (by decide) ?_
  refine lv_iload_n hx hb dX10_room_5 rfl (lv_at hl 1 rfl) ?_
  obtain ⟨r4, μ3, h5, h⟩ := bd_ok h
  refine go_i (callV_run (As := [.int (0 : Int32), .int v1]) (rest := []) C hl hP (hS.wide hJ).2.1 (iw hw (fi_2 g2)) g2 (m_X2_has l w hJ hw x1 (0 : Int32) v1 g2 μ h5) mv_X10_121 ⟨rfl, rfl, by decide, by decide⟩ rfl rfl (Nat.le_of_ble_eq_true rfl) ⟨Nat.zero_le _, Nat.zero_le _⟩ dX10_room_6) hS (fun H locs hP hS => ?_)
  refine lv_if_ne (tgt := 14) hx hb dX10_room_9 (by decide) (fun c6 => ?_) (fun c6 => ?_)
  · replace h := if_f c6 h
    refine lv_iload_n hx hb dX10_room_14 rfl (lv_at hl 2 rfl) ?_
    by_cases c7 : v2 = 0
    · replace h := if_t c7 h
      refine lv_tableIn (off := 29) (tgt := 44) hx hb dX10_room_15 (by rw [c7]; decide) (by rw [c7]; decide) (by rw [c7]; rfl) (by decide) ?_
      refine lv_aload_n hx hb dX10_room_44 rfl (lv_at hl 0 rfl) ?_
      refine r_getF (off := 66) C hP (iw hw (fi_10 hk0)) hk0 fl_X10_36 rfl rfl (zw hw) dX10_room_45 ?_
      refine r_getF (off := 4) C hP (iw hw (ff_10_4 hk0).2) (ff_10_4 hk0).1 fl_X10_152 rfl rfl (zw hw) dX10_room_48 ?_
      refine lv_iload_n hx hb dX10_room_51 rfl (lv_at hl 1 rfl) ?_
      obtain ⟨g8, h⟩ := gd_ok h
      refine r_iald C hP (iw hw (ff_7_3 (ff_10_4 hk0).1).2) (ff_7_3 (ff_10_4 hk0).1).1 g8 dX10_room_52 ?_
      exact r_iret C hr hP hS h dX10_room_53
    replace h := if_f c7 h
    by_cases c9 : v2 = 1
    · replace h := if_t c9 h
      refine lv_tableIn (off := 39) (tgt := 54) hx hb dX10_room_15 (by rw [c9]; decide) (by rw [c9]; decide) (by rw [c9]; rfl) (by decide) ?_
      refine lv_aload_n hx hb dX10_room_54 rfl (lv_at hl 0 rfl) ?_
      refine r_getF (off := 66) C hP (iw hw (fi_10 hk0)) hk0 fl_X10_36 rfl rfl (zw hw) dX10_room_55 ?_
      refine lv_iload_n hx hb dX10_room_58 rfl (lv_at hl 1 rfl) ?_
      obtain ⟨r11, μ10, h12, h⟩ := bd_ok h
      refine go_i (callV_run (As := [.int v1]) (rest := []) C hl hP (hS.wide hJ).2.1 (iw hw (ff_10_4 hk0).2) (ff_10_4 hk0).1 (m_X7_isRoped l w hJ hw (v0 + 66) v1 (ff_10_4 hk0).1 μ3 h12) mv_X10_155 ⟨rfl, rfl, by decide, by decide⟩ rfl rfl (Nat.le_of_ble_eq_true rfl) ⟨Nat.zero_le _, Nat.zero_le _⟩ dX10_room_59) hS (fun H locs hP hS => ?_)
      refine lv_if_eq (tgt := 69) hx hb dX10_room_62 (by decide) (fun c13 => ?_) (fun c13 => ?_)
      · replace h := if_t c13 h
        refine lv_iconst (v := (0)) hx hb dX10_room_69 (by decide) ?_
        exact r_iret C hr hP hS h dX10_room_70
      · replace h := if_f c13 h
        refine lv_iconst (v := (1)) hx hb dX10_room_65 (by decide) ?_
        refine lv_goto (tgt := 70) hx hb dX10_room_66 (by decide) ?_
        exact r_iret C hr hP hS h dX10_room_70
    replace h := if_f c9 h
    by_cases c14 : v2 = 2
    · replace h := if_t c14 h
      refine lv_tableIn (off := 56) (tgt := 71) hx hb dX10_room_15 (by rw [c14]; decide) (by rw [c14]; decide) (by rw [c14]; rfl) (by decide) ?_
      refine lv_aload_n hx hb dX10_room_71 rfl (lv_at hl 0 rfl) ?_
      refine r_getF (off := 66) C hP (iw hw (fi_10 hk0)) hk0 fl_X10_36 rfl rfl (zw hw) dX10_room_72 ?_
      refine lv_iload_n hx hb dX10_room_75 rfl (lv_at hl 1 rfl) ?_
      obtain ⟨r16, μ15, h17, h⟩ := bd_ok h
      refine go_i (callV_run (As := [.int v1]) (rest := []) C hl hP (hS.wide hJ).2.1 (iw hw (ff_10_4 hk0).2) (ff_10_4 hk0).1 (m_X7_thingsIn l w hJ hw (v0 + 66) v1 (ff_10_4 hk0).1 μ3 h17) mv_X10_159 ⟨rfl, rfl, by decide, by decide⟩ rfl rfl (Nat.le_of_ble_eq_true rfl) ⟨Nat.zero_le _, Nat.zero_le _⟩ dX10_room_76) hS (fun H locs hP hS => ?_)
      obtain ⟨r19, μ18, h20, h⟩ := bd_ok h
      refine go_i (callS_run (As := [.int r16]) (rest := []) C hl hP (hS.wide hJ).2.1 (m_J6_bitCount_0f7a4 l w hJ r16  μ15 h20) ms_X10_163 ⟨rfl, rfl, by decide, by decide⟩ rfl rfl (Nat.le_of_ble_eq_true rfl) ⟨Nat.zero_le _, Nat.zero_le _⟩ dX10_room_79) hS (fun H locs hP hS => ?_)
      exact r_iret C hr hP hS h dX10_room_82
    replace h := if_f c14 h
    by_cases c21 : v2 = 3
    · replace h := if_t c21 h
      refine lv_tableIn (off := 68) (tgt := 83) hx hb dX10_room_15 (by rw [c21]; decide) (by rw [c21]; decide) (by rw [c21]; rfl) (by decide) ?_
      refine lv_aload_n hx hb dX10_room_83 rfl (lv_at hl 0 rfl) ?_
      refine r_getF (off := 66) C hP (iw hw (fi_10 hk0)) hk0 fl_X10_36 rfl rfl (zw hw) dX10_room_84 ?_
      refine lv_iload_n hx hb dX10_room_87 rfl (lv_at hl 1 rfl) ?_
      obtain ⟨r23, μ22, h24, h⟩ := bd_ok h
      refine go_i (callV_run (As := [.int v1]) (rest := []) C hl hP (hS.wide hJ).2.1 (iw hw (ff_10_4 hk0).2) (ff_10_4 hk0).1 (m_X7_thingsIn l w hJ hw (v0 + 66) v1 (ff_10_4 hk0).1 μ3 h24) mv_X10_159 ⟨rfl, rfl, by decide, by decide⟩ rfl rfl (Nat.le_of_ble_eq_true rfl) ⟨Nat.zero_le _, Nat.zero_le _⟩ dX10_room_88) hS (fun H locs hP hS => ?_)
      exact r_iret C hr hP hS h dX10_room_91
    replace h := if_f c21 h
    have ho : Int32.toInt v2 < 0 ∨ 3 < Int32.toInt v2 := tb_out _ _ _ (fun v h1 h2 => by
      rcases (show v = 0 ∨ v = 1 ∨ v = 2 ∨ v = 3 by omega) with rfl | rfl | rfl | rfl
      · exact c7
      · exact c9
      · exact c14
      · exact c21)
    refine lv_tableOut (tgt := 92) hx hb dX10_room_15 ho (by decide) ?_
    refine lv_iconst (v := (-1)) hx hb dX10_room_92 (by decide) ?_
    exact r_iret C hr hP hS h dX10_room_93
  · replace h := if_t c6 h
    refine lv_iconst (v := (-1)) hx hb dX10_room_12 (by decide) ?_
    exact r_iret C hr hP hS h dX10_room_13

def f_X10_dead (v0 : Nat) (v1 : Int32) (v2 : Int32) (μ : fMem) : Option (Int32 × fMem) :=
  vl (μ.2.2 v0 2) fun x1 => gd (kd x1 = (4, 2)) (bd (f_X2_has x1 (3 : Int32) v1 μ) fun r4 μ3 => if r4 = 0 then some ((-1 : Int32), μ3) else if v2 = 0 then vl (μ3.2.2 v0 2) fun x8 => gd (kd x8 = (4, 2)) (gd (ixo v1 6) (some ((μ3.1 (x8 + 11) (Int32.toNatClampNeg v1)), μ3))) else if v2 = 1 then vl (μ3.2.2 v0 2) fun x12 => gd (kd x12 = (4, 2)) (gd (ixo v1 6) (some ((μ3.1 (x12 + 12) (Int32.toNatClampNeg v1)), μ3))) else if v2 = 2 then vl (μ3.2.2 v0 2) fun x16 => gd (kd x16 = (4, 2)) (gd (ixo v1 6) (some ((μ3.1 (x16 + 13) (Int32.toNatClampNeg v1)), μ3))) else if v2 = 3 then vl (μ3.2.2 v0 2) fun x20 => gd (kd x20 = (4, 2)) (gd (ixo v1 6) (some ((μ3.1 (x20 + 14) (Int32.toNatClampNeg v1)), μ3))) else if v2 = 4 then gd (ixo v1 6) (some ((μ3.1 ((v0 + 66) + 5) (Int32.toNatClampNeg v1)), μ3)) else some ((-1 : Int32), μ3))
def rm_X10_dead : Room := { frames := 1, cells := 0, slots := 0, locals := 22 }
set_option maxHeartbeats 4000000 in
set_option maxRecDepth 100000 in
theorem m_X10_dead (l : Launch) (w : fW) (hJ : fJ w) (hw : w.2.2.2 = sd 0) (v0 : Nat) (v1 : Int32) (v2 : Int32) (hk0 : kd v0 = (4, 10)) (μ : fMem) {r : Int32} {μr : fMem} (h : f_X10_dead v0 v1 v2 μ = some (r, μr)) : Met l yX10_dead (.code yX10_dead cX10_dead 3 (some .int) :: gw) rm_X10_dead (fPc w [.ref (w.2.2.1 v0), .int v1, .int v2] μ) (fQi w r μr) 0 0 (fA w) := by
  refine met_of hJ (by decide) ?_ (Nat.le_of_ble_eq_true rfl)
  generalize ([.ref (w.2.2.1 v0), .int v1, .int v2] : List Value).toArray = args
  intro p e s m below meth c ls C hr hP hl hS
  obtain ⟨hx, hb, hml, hown, hts, hK, -, hlk, hT⟩ := id C
  have hl : lv_has ls 3 [(0, .ref (w.2.2.1 v0)), (1, .int v1), (2, .int v2)] := hl
  unfold f_X10_dead at h
  refine lv_aload_n hx hb dX10_dead_0 rfl (lv_at hl 0 rfl) ?_
  refine r_getRx C hP (iw hw (fi_10 hk0)) hk0 fl_X10_22 rfl (zw hw) dX10_dead_1 (fun x1 ex1 => ?_)
  replace h := vl_ok ex1 h
  obtain ⟨g2, h⟩ := gd_ok h
  refine lv_iconst (v := (3)) hx hb dX10_dead_4 (by decide) ?_
  refine lv_iload_n hx hb dX10_dead_5 rfl (lv_at hl 1 rfl) ?_
  obtain ⟨r4, μ3, h5, h⟩ := bd_ok h
  refine go_i (callV_run (As := [.int (3 : Int32), .int v1]) (rest := []) C hl hP (hS.wide hJ).2.1 (iw hw (fi_2 g2)) g2 (m_X2_has l w hJ hw x1 (3 : Int32) v1 g2 μ h5) mv_X10_121 ⟨rfl, rfl, by decide, by decide⟩ rfl rfl (Nat.le_of_ble_eq_true rfl) ⟨Nat.zero_le _, Nat.zero_le _⟩ dX10_dead_6) hS (fun H locs hP hS => ?_)
  refine lv_if_ne (tgt := 14) hx hb dX10_dead_9 (by decide) (fun c6 => ?_) (fun c6 => ?_)
  · replace h := if_f c6 h
    refine lv_iload_n hx hb dX10_dead_14 rfl (lv_at hl 2 rfl) ?_
    by_cases c7 : v2 = 0
    · replace h := if_t c7 h
      refine lv_tableIn (off := 33) (tgt := 48) hx hb dX10_dead_15 (by rw [c7]; decide) (by rw [c7]; decide) (by rw [c7]; rfl) (by decide) ?_
      refine lv_aload_n hx hb dX10_dead_48 rfl (lv_at hl 0 rfl) ?_
      refine r_getRx C hP (iw hw (fi_10 hk0)) hk0 fl_X10_22 rfl (zw hw) dX10_dead_49 (fun x8 ex8 => ?_)
      replace h := vl_ok ex8 h
      obtain ⟨g9, h⟩ := gd_ok h
      refine r_getF (off := 11) C hP (iw hw (fi_2 g9)) g9 fl_X10_168 rfl rfl (zw hw) dX10_dead_52 ?_
      refine lv_iload_n hx hb dX10_dead_55 rfl (lv_at hl 1 rfl) ?_
      obtain ⟨g10, h⟩ := gd_ok h
      refine r_iald C hP (iw hw (ff_2_8 g9).2) (ff_2_8 g9).1 g10 dX10_dead_56 ?_
      exact r_iret C hr hP hS h dX10_dead_57
    replace h := if_f c7 h
    by_cases c11 : v2 = 1
    · replace h := if_t c11 h
      refine lv_tableIn (off := 43) (tgt := 58) hx hb dX10_dead_15 (by rw [c11]; decide) (by rw [c11]; decide) (by rw [c11]; rfl) (by decide) ?_
      refine lv_aload_n hx hb dX10_dead_58 rfl (lv_at hl 0 rfl) ?_
      refine r_getRx C hP (iw hw (fi_10 hk0)) hk0 fl_X10_22 rfl (zw hw) dX10_dead_59 (fun x12 ex12 => ?_)
      replace h := vl_ok ex12 h
      obtain ⟨g13, h⟩ := gd_ok h
      refine r_getF (off := 12) C hP (iw hw (fi_2 g13)) g13 fl_X10_171 rfl rfl (zw hw) dX10_dead_62 ?_
      refine lv_iload_n hx hb dX10_dead_65 rfl (lv_at hl 1 rfl) ?_
      obtain ⟨g14, h⟩ := gd_ok h
      refine r_iald C hP (iw hw (ff_2_9 g13).2) (ff_2_9 g13).1 g14 dX10_dead_66 ?_
      exact r_iret C hr hP hS h dX10_dead_67
    replace h := if_f c11 h
    by_cases c15 : v2 = 2
    · replace h := if_t c15 h
      refine lv_tableIn (off := 53) (tgt := 68) hx hb dX10_dead_15 (by rw [c15]; decide) (by rw [c15]; decide) (by rw [c15]; rfl) (by decide) ?_
      refine lv_aload_n hx hb dX10_dead_68 rfl (lv_at hl 0 rfl) ?_
      refine r_getRx C hP (iw hw (fi_10 hk0)) hk0 fl_X10_22 rfl (zw hw) dX10_dead_69 (fun x16 ex16 => ?_)
      replace h := vl_ok ex16 h
      obtain ⟨g17, h⟩ := gd_ok h
      refine r_getF (off := 13) C hP (iw hw (fi_2 g17)) g17 fl_X10_174 rfl rfl (zw hw) dX10_dead_72 ?_
      refine lv_iload_n hx hb dX10_dead_75 rfl (lv_at hl 1 rfl) ?_
      obtain ⟨g18, h⟩ := gd_ok h
      refine r_iald C hP (iw hw (ff_2_10 g17).2) (ff_2_10 g17).1 g18 dX10_dead_76 ?_
      exact r_iret C hr hP hS h dX10_dead_77
    replace h := if_f c15 h
    by_cases c19 : v2 = 3
    · replace h := if_t c19 h
      refine lv_tableIn (off := 63) (tgt := 78) hx hb dX10_dead_15 (by rw [c19]; decide) (by rw [c19]; decide) (by rw [c19]; rfl) (by decide) ?_
      refine lv_aload_n hx hb dX10_dead_78 rfl (lv_at hl 0 rfl) ?_
      refine r_getRx C hP (iw hw (fi_10 hk0)) hk0 fl_X10_22 rfl (zw hw) dX10_dead_79 (fun x20 ex20 => ?_)
      replace h := vl_ok ex20 h
      obtain ⟨g21, h⟩ := gd_ok h
      refine r_getF (off := 14) C hP (iw hw (fi_2 g21)) g21 fl_X10_177 rfl rfl (zw hw) dX10_dead_82 ?_
      refine lv_iload_n hx hb dX10_dead_85 rfl (lv_at hl 1 rfl) ?_
      obtain ⟨g22, h⟩ := gd_ok h
      refine r_iald C hP (iw hw (ff_2_11 g21).2) (ff_2_11 g21).1 g22 dX10_dead_86 ?_
      exact r_iret C hr hP hS h dX10_dead_87
    replace h := if_f c19 h
    by_cases c23 : v2 = 4
    · replace h := if_t c23 h
      refine lv_tableIn (off := 73) (tgt := 88) hx hb dX10_dead_15 (by rw [c23]; decide) (by rw [c23]; decide) (by rw [c23]; rfl) (by decide) ?_
      refine lv_aload_n hx hb dX10_dead_88 rfl (lv_at hl 0 rfl) ?_
      refine r_getF (off := 66) C hP (iw hw (fi_10 hk0)) hk0 fl_X10_36 rfl rfl (zw hw) dX10_dead_89 ?_
      refine r_getF (off := 5) C hP (iw hw (ff_10_4 hk0).2) (ff_10_4 hk0).1 fl_X10_180 rfl rfl (zw hw) dX10_dead_92 ?_
      refine lv_iload_n hx hb dX10_dead_95 rfl (lv_at hl 1 rfl) ?_
      obtain ⟨g24, h⟩ := gd_ok h
      refine r_iald C hP (iw hw (ff_7_4 (ff_10_4 hk0).1).2) (ff_7_4 (ff_10_4 hk0).1).1 g24 dX10_dead_96 ?_
      exact r_iret C hr hP hS h dX10_dead_97
    replace h := if_f c23 h
    have ho : Int32.toInt v2 < 0 ∨ 4 < Int32.toInt v2 := tb_out _ _ _ (fun v h1 h2 => by
      rcases (show v = 0 ∨ v = 1 ∨ v = 2 ∨ v = 3 ∨ v = 4 by omega) with rfl | rfl | rfl | rfl | rfl
      · exact c7
      · exact c11
      · exact c15
      · exact c19
      · exact c23)
    refine lv_tableOut (tgt := 98) hx hb dX10_dead_15 ho (by decide) ?_
    refine lv_iconst (v := (-1)) hx hb dX10_dead_98 (by decide) ?_
    exact r_iret C hr hP hS h dX10_dead_99
  · replace h := if_t c6 h
    refine lv_iconst (v := (-1)) hx hb dX10_dead_12 (by decide) ?_
    exact r_iret C hr hP hS h dX10_dead_13

def f_X10_door (v0 : Nat) (v1 : Int32) (v2 : Int32) (μ : fMem) : Option (Int32 × fMem) :=
  vl (μ.2.2 v0 2) fun x1 => gd (kd x1 = (4, 2)) (bd (f_X2_has x1 (0 : Int32) v1 μ) fun r4 μ3 => if r4 = 0 then some ((-1 : Int32), μ3) else vl (μ3.2.2 v0 2) fun x7 => gd (kd x7 = (4, 2)) (bd (f_X2_has x7 (0 : Int32) v2 μ3) fun r10 μ9 => if r10 = 0 then some ((-1 : Int32), μ9) else vl (μ9.2.2 v0 2) fun x13 => gd (kd x13 = (4, 2)) (bd (f_X2_leads x13 v1 v2 μ9) fun r16 μ15 => if r16 = 0 then some ((0 : Int32), μ15) else some ((1 : Int32), μ15))))
def rm_X10_door : Room := { frames := 1, cells := 0, slots := 0, locals := 22 }
set_option maxHeartbeats 4000000 in
set_option maxRecDepth 100000 in
theorem m_X10_door (l : Launch) (w : fW) (hJ : fJ w) (hw : w.2.2.2 = sd 0) (v0 : Nat) (v1 : Int32) (v2 : Int32) (hk0 : kd v0 = (4, 10)) (μ : fMem) {r : Int32} {μr : fMem} (h : f_X10_door v0 v1 v2 μ = some (r, μr)) : Met l yX10_door (.code yX10_door cX10_door 3 (some .int) :: gw) rm_X10_door (fPc w [.ref (w.2.2.1 v0), .int v1, .int v2] μ) (fQi w r μr) 0 0 (fA w) := by
  refine met_of hJ (by decide) ?_ (Nat.le_of_ble_eq_true rfl)
  generalize ([.ref (w.2.2.1 v0), .int v1, .int v2] : List Value).toArray = args
  intro p e s m below meth c ls C hr hP hl hS
  obtain ⟨hx, hb, hml, hown, hts, hK, -, hlk, hT⟩ := id C
  have hl : lv_has ls 3 [(0, .ref (w.2.2.1 v0)), (1, .int v1), (2, .int v2)] := hl
  unfold f_X10_door at h
  refine lv_aload_n hx hb dX10_door_0 rfl (lv_at hl 0 rfl) ?_
  refine r_getRx C hP (iw hw (fi_10 hk0)) hk0 fl_X10_22 rfl (zw hw) dX10_door_1 (fun x1 ex1 => ?_)
  replace h := vl_ok ex1 h
  obtain ⟨g2, h⟩ := gd_ok h
  refine lv_iconst (v := (0)) hx hb dX10_door_4 (by decide) ?_
  refine lv_iload_n hx hb dX10_door_5 rfl (lv_at hl 1 rfl) ?_
  obtain ⟨r4, μ3, h5, h⟩ := bd_ok h
  refine go_i (callV_run (As := [.int (0 : Int32), .int v1]) (rest := []) C hl hP (hS.wide hJ).2.1 (iw hw (fi_2 g2)) g2 (m_X2_has l w hJ hw x1 (0 : Int32) v1 g2 μ h5) mv_X10_121 ⟨rfl, rfl, by decide, by decide⟩ rfl rfl (Nat.le_of_ble_eq_true rfl) ⟨Nat.zero_le _, Nat.zero_le _⟩ dX10_door_6) hS (fun H locs hP hS => ?_)
  refine lv_if_eq (tgt := 24) hx hb dX10_door_9 (by decide) (fun c6 => ?_) (fun c6 => ?_)
  · replace h := if_t c6 h
    refine lv_iconst (v := (-1)) hx hb dX10_door_24 (by decide) ?_
    exact r_iret C hr hP hS h dX10_door_25
  · replace h := if_f c6 h
    refine lv_aload_n hx hb dX10_door_12 rfl (lv_at hl 0 rfl) ?_
    refine r_getRx C hP (iw hw (fi_10 hk0)) hk0 fl_X10_22 rfl (zw hw) dX10_door_13 (fun x7 ex7 => ?_)
    replace h := vl_ok ex7 h
    obtain ⟨g8, h⟩ := gd_ok h
    refine lv_iconst (v := (0)) hx hb dX10_door_16 (by decide) ?_
    refine lv_iload_n hx hb dX10_door_17 rfl (lv_at hl 2 rfl) ?_
    obtain ⟨r10, μ9, h11, h⟩ := bd_ok h
    refine go_i (callV_run (As := [.int (0 : Int32), .int v2]) (rest := []) C hl hP (hS.wide hJ).2.1 (iw hw (fi_2 g8)) g8 (m_X2_has l w hJ hw x7 (0 : Int32) v2 g8 μ3 h11) mv_X10_121 ⟨rfl, rfl, by decide, by decide⟩ rfl rfl (Nat.le_of_ble_eq_true rfl) ⟨Nat.zero_le _, Nat.zero_le _⟩ dX10_door_18) hS (fun H locs hP hS => ?_)
    refine lv_if_ne (tgt := 26) hx hb dX10_door_21 (by decide) (fun c12 => ?_) (fun c12 => ?_)
    · replace h := if_f c12 h
      refine lv_aload_n hx hb dX10_door_26 rfl (lv_at hl 0 rfl) ?_
      refine r_getRx C hP (iw hw (fi_10 hk0)) hk0 fl_X10_22 rfl (zw hw) dX10_door_27 (fun x13 ex13 => ?_)
      replace h := vl_ok ex13 h
      obtain ⟨g14, h⟩ := gd_ok h
      refine lv_iload_n hx hb dX10_door_30 rfl (lv_at hl 1 rfl) ?_
      refine lv_iload_n hx hb dX10_door_31 rfl (lv_at hl 2 rfl) ?_
      obtain ⟨r16, μ15, h17, h⟩ := bd_ok h
      refine go_i (callV_run (As := [.int v1, .int v2]) (rest := []) C hl hP (hS.wide hJ).2.1 (iw hw (fi_2 g14)) g14 (m_X2_leads l w hJ hw x13 v1 v2 g14 μ9 h17) mv_X10_183 ⟨rfl, rfl, by decide, by decide⟩ rfl rfl (Nat.le_of_ble_eq_true rfl) ⟨Nat.zero_le _, Nat.zero_le _⟩ dX10_door_32) hS (fun H locs hP hS => ?_)
      refine lv_if_eq (tgt := 42) hx hb dX10_door_35 (by decide) (fun c18 => ?_) (fun c18 => ?_)
      · replace h := if_t c18 h
        refine lv_iconst (v := (0)) hx hb dX10_door_42 (by decide) ?_
        exact r_iret C hr hP hS h dX10_door_43
      · replace h := if_f c18 h
        refine lv_iconst (v := (1)) hx hb dX10_door_38 (by decide) ?_
        refine lv_goto (tgt := 43) hx hb dX10_door_39 (by decide) ?_
        exact r_iret C hr hP hS h dX10_door_43
    · replace h := if_t c12 h
      refine lv_iconst (v := (-1)) hx hb dX10_door_24 (by decide) ?_
      exact r_iret C hr hP hS h dX10_door_25

