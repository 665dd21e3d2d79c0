def f_X5_readExpression_j113 (v0 : Nat) (v1 : Nat) (v3 : Int32) (t0 : Int32) (μ : fMem) : Option (Nat × (Int32 × Int32 × fMem)) :=
  bd (f_X9_next (v0 + 1) μ) fun r22 μ21 => vl (v3 + (1 : Int32)) fun x24 => some (0, (t0, x24, μ21))
def f_X5_readExpression_j112 (v0 : Nat) (v1 : Nat) (v3 : Int32) (μ : fMem) : Option (Nat × (Int32 × Int32 × fMem)) :=
  f_X5_readExpression_j113 v0 v1 v3 (0 : Int32) μ
def f_X5_readExpression_j108 (v0 : Nat) (v1 : Nat) (v3 : Int32) (μ : fMem) : Option (Nat × (Int32 × Int32 × fMem)) :=
  f_X5_readExpression_j113 v0 v1 v3 (1 : Int32) μ
def f_X5_readExpression_j80 (v0 : Nat) (v1 : Nat) (v3 : Int32) (v4 : Int32) (μ : fMem) : Option (Nat × (Int32 × Int32 × fMem)) :=
  if v4 = (21 : Int32) then f_X5_readExpression_j108 v0 v1 v3 μ else if v4 = (26 : Int32) then f_X5_readExpression_j108 v0 v1 v3 μ else if v4 < (13 : Int32) then f_X5_readExpression_j112 v0 v1 v3 μ else if (19 : Int32) < v4 then f_X5_readExpression_j112 v0 v1 v3 μ else f_X5_readExpression_j108 v0 v1 v3 μ
def f_X5_readExpression_j51 (v0 : Nat) (v1 : Nat) (v2 : Int32) (v3 : Int32) (v4 : Int32) (μ : fMem) : Option (Nat × (Int32 × Int32 × fMem)) :=
  if v2 = 0 then bd (f_X5_readValue v0 v1 v4 μ) fun r10 μ9 => if r10 = 0 then some (3, (v2, v3, μ9)) else f_X5_readExpression_j80 v0 v1 v3 v4 μ9 else bd (f_X5_readBehindValue v0 v1 v4 μ) fun r14 μ13 => if r14 = 0 then some (3, (v2, v3, μ13)) else f_X5_readExpression_j80 v0 v1 v3 v4 μ13
def f_X5_readExpression_L14 (v0 : Nat) (v1 : Nat) (v2 : Int32) (v3 : Int32) (μ : fMem) : Option (Nat × (Int32 × Int32 × fMem)) :=
  if (700 : Int32) < v3 then some (1, (v2, v3, μ)) else vl (μ.1 (v0 + 1) 0) fun x4 => if v2 = 0 then f_X5_readExpression_j51 v0 v1 v2 v3 x4 μ else if (μ.1 v0 7) = 0 then if x4 = (24 : Int32) then some (2, (v2, v3, μ)) else f_X5_readExpression_j51 v0 v1 v2 v3 x4 μ else f_X5_readExpression_j51 v0 v1 v2 v3 x4 μ
def f_X5_readExpression_j127 (v0 : Nat) (v1 : Nat) (μ : fMem) : Option (Int32 × fMem) :=
  bd (f_X5_settle v0 v1 (1 : Int32) μ) fun r32 μ31 => gd (bl (1 : Int32)) (some ((1 : Int32), μ31))
def f_X5_readExpression (v0 : Nat) (v1 : Nat) (μ : fMem) : Option (Int32 × fMem) :=
  vl (sI μ v0 6 (0 : Int32)) fun μ1 => vl (sI μ1 v0 7 (0 : Int32)) fun μ2 => bd (lpn (fun (q : Int32 × Int32 × fMem) => f_X5_readExpression_L14 v0 v1 q.1 q.2.1 q.2.2) fuel ((0 : Int32), (0 : Int32), μ2)) fun t25 q26 => (fun (x27 : Int32) (x28 : Int32) (μ29 : fMem) => if t25 = 0 then f_X5_readExpression_j127 v0 v1 μ29 else if t25 = 1 then f_X5_readExpression_j127 v0 v1 μ29 else gd (bl (0 : Int32)) (some ((0 : Int32), μ29))) q26.1 q26.2.1 q26.2.2
def rm_X5_readExpression : Room := { frames := 3, cells := 0, slots := 0, locals := 68 }
set_option maxHeartbeats 4000000 in
set_option maxRecDepth 100000 in
theorem m_X5_readExpression (l : Launch) (w : fW) (hJ : fJ w) (hw : w.2.2.2 = sd 0) (v0 : Nat) (v1 : Nat) (hk0 : kd v0 = (4, 5)) (hk1 : kd v1 = (4, 3)) (μ : fMem) {r : Int32} {μr : fMem} (h : f_X5_readExpression v0 v1 μ = some (r, μr)) : Met l yX5_readExpression (.code yX5_readExpression cX5_readExpression 5 (some .boolean) :: gw) rm_X5_readExpression (fPc w [.ref (w.2.2.1 v0), .ref (w.2.2.1 v1)] μ) (fQi w r μr) 0 0 (fA w) := by
  refine met_of hJ (by decide) ?_ (Nat.le_of_ble_eq_true rfl)
  generalize ([.ref (w.2.2.1 v0), .ref (w.2.2.1 v1)] : List Value).toArray = args
  intro p e s m below meth c ls C hr hP hl hS
  obtain ⟨hx, hb, hml, hown, hts, hK, -, hlk, hT⟩ := id C
  have hl : lv_has ls 5 [(0, .ref (w.2.2.1 v0)), (1, .ref (w.2.2.1 v1))] := hl
  unfold f_X5_readExpression at h
  have J127 : ∀  (μ : fMem), f_X5_readExpression_j127 v0 v1 μ = some (r, μr) → WW p l e rm_X5_readExpression s m args below meth c (MQ below (fQi w r μr) args s 0 0 (fA w)) w μ 5 127 [] [(0, .ref (w.2.2.1 v0)), (1, .ref (w.2.2.1 v1))] := by
    intro  μ  h H locs ls hP hS hl
    unfold f_X5_readExpression_j127 at h
    refine lv_aload_n hx hb dX5_readExpression_127 rfl (lv_at hl 0 rfl) ?_
    refine lv_aload_n hx hb dX5_readExpression_128 rfl (lv_at hl 1 rfl) ?_
    refine lv_iconst (v := (1)) hx hb dX5_readExpression_129 (by decide) ?_
    obtain ⟨r32, μ31, h33, h⟩ := bd_ok h
    refine go_v (callV_run (As := [.ref (w.2.2.1 v1), .int (1 : Int32)]) (rest := []) C hl hP (hS.wide hJ).2.1 (iw hw (fi_5 hk0)) hk0 (m_X5_settle l w hJ hw v0 v1 (1 : Int32) hk0 hk1 μ h33) mv_X5_171 ⟨rfl, rfl, by decide, by decide⟩ rfl rfl (Nat.le_of_ble_eq_true rfl) ⟨Nat.zero_le _, Nat.zero_le _⟩ dX5_readExpression_130) hS (fun H locs hP hS => ?_)
    refine lv_iconst (v := (1)) hx hb dX5_readExpression_133 (by decide) ?_
    exact r_zret C hr hP hS h dX5_readExpression_134
  refine lv_aload_n hx hb dX5_readExpression_0 rfl (lv_at hl 0 rfl) ?_
  refine lv_iconst (v := (0)) hx hb dX5_readExpression_1 (by decide) ?_
  refine r_putI C hP hS (iw hw (fi_5 hk0)) hk0 fp_X5_39 rfl dX5_readExpression_2 (fun H locs hP hS => ?_)
  obtain ⟨μ1, eμ1, h⟩ := vl_ex h
  have hP : fP w μ1 H := by rw [eμ1]; exact hP
  refine lv_aload_n hx hb dX5_readExpression_5 rfl (lv_at hl 0 rfl) ?_
  refine lv_iconst (v := (0)) hx hb dX5_readExpression_6 (by decide) ?_
  refine r_putI C hP hS (iw hw (fi_5 hk0)) hk0 fp_X5_42 rfl dX5_readExpression_7 (fun H locs hP hS => ?_)
  obtain ⟨μ2, eμ2, h⟩ := vl_ex h
  have hP : fP w μ2 H := by rw [eμ2]; exact hP
  refine lv_iconst (v := (0)) hx hb dX5_readExpression_10 (by decide) ?_
  refine lv_istore_n (lv' := [(2, .int (0 : Int32)), (0, .ref (w.2.2.1 v0)), (1, .ref (w.2.2.1 v1))]) hx hb dX5_readExpression_11 rfl hl (by decide) rfl (fun ls hl => ?_)
  refine lv_iconst (v := (0)) hx hb dX5_readExpression_12 (by decide) ?_
  refine lv_istore_n (lv' := [(3, .int (0 : Int32)), (2, .int (0 : Int32)), (0, .ref (w.2.2.1 v0)), (1, .ref (w.2.2.1 v1))]) hx hb dX5_readExpression_13 rfl hl (by decide) rfl (fun ls hl => ?_)
  obtain ⟨t25, q26, h30, h⟩ := bd_ok h
  refine lpn_ind (b := (fun (q : Int32 × Int32 × fMem) => f_X5_readExpression_L14 v0 v1 q.1 q.2.1 q.2.2)) (P := fun (q : Int32 × Int32 × fMem) => WW p l e rm_X5_readExpression s m args below meth c (MQ below (fQi w r μr) args s 0 0 (fA w)) w q.2.2 5 14 [] [(0, .ref (w.2.2.1 v0)), (1, .ref (w.2.2.1 v1)), (2, .int q.1), (3, .int q.2.1)]) (K := fun t (q : Int32 × Int32 × fMem) => (t = 0 → WW p l e rm_X5_readExpression s m args below meth c (MQ below (fQi w r μr) args s 0 0 (fA w)) w q.2.2 5 127 [] [(0, .ref (w.2.2.1 v0)), (1, .ref (w.2.2.1 v1))]) ∧ (t = 1 → WW p l e rm_X5_readExpression s m args below meth c (MQ below (fQi w r μr) args s 0 0 (fA w)) w q.2.2 5 48 [] [(0, .ref (w.2.2.1 v0)), (1, .ref (w.2.2.1 v1))]) ∧ (t = 2 → WW p l e rm_X5_readExpression s m args below meth c (MQ below (fQi w r μr) args s 0 0 (fA w)) w q.2.2 5 78 [] [])) ?_ fuel ((0 : Int32), (0 : Int32), μ2) t25 q26 h30 ?_ _ _ _ hP hS (lv_sub hl [2, 3, 1, 0] rfl)
  · intro q tz14 sz14 h hP0_14 hK0_14 H locs ls hP hS hl
    obtain ⟨v2, v3, μ⟩ := q
    have hP : fP w μ H := hP
    have hl : lv_has ls 5 [(0, .ref (w.2.2.1 v0)), (1, .ref (w.2.2.1 v1)), (2, .int v2), (3, .int v3)] := hl
    have h : f_X5_readExpression_L14 v0 v1 v2 v3 μ = some (tz14, sz14) := h
    unfold f_X5_readExpression_L14 at h
    have J113 : ∀ (v3 : Int32) (t0 : Int32) (μ : fMem), f_X5_readExpression_j113 v0 v1 v3 t0 μ = some (tz14, sz14) → WW p l e rm_X5_readExpression s m args below meth c (MQ below (fQi w r μr) args s 0 0 (fA w)) w μ 5 113 [.int t0] [(0, .ref (w.2.2.1 v0)), (1, .ref (w.2.2.1 v1)), (3, .int v3)] := by
      intro v3 t0 μ  h H locs ls hP hS hl
      unfold f_X5_readExpression_j113 at h
      refine lv_istore_n (lv' := [(2, .int t0), (0, .ref (w.2.2.1 v0)), (1, .ref (w.2.2.1 v1)), (3, .int v3)]) hx hb dX5_readExpression_113 rfl hl (by decide) rfl (fun ls hl => ?_)
      refine lv_aload_n hx hb dX5_readExpression_114 rfl (lv_at hl 1 rfl) ?_
      refine r_getF (off := 1) C hP (iw hw (fi_5 hk0)) hk0 fl_X5_21 rfl rfl (zw hw) dX5_readExpression_115 ?_
      obtain ⟨r22, μ21, h23, h⟩ := bd_ok h
      refine go_v (callV_run (As := []) (rest := []) C hl hP (hS.wide hJ).2.1 (iw hw (ff_5_2 hk0).2) (ff_5_2 hk0).1 (m_X9_next l w hJ hw (v0 + 1) (ff_5_2 hk0).1 μ h23) mv_X5_66 ⟨rfl, rfl, by decide, by decide⟩ rfl rfl (Nat.le_of_ble_eq_true rfl) ⟨Nat.zero_le _, Nat.zero_le _⟩ dX5_readExpression_118) hS (fun H locs hP hS => ?_)
      obtain ⟨x24, ex24⟩ : ∃ y : Int32, y = (v3 + (1 : Int32)) := ⟨_, rfl⟩
      replace h := vl_ok ex24 h
      refine lv_iinc (v := x24) (lv' := [(3, .int x24), (2, .int t0), (0, .ref (w.2.2.1 v0)), (1, .ref (w.2.2.1 v1))]) hx hb dX5_readExpression_121 hl (k := 3) rfl (by rw [ex24]; rfl) (by decide) rfl (fun ls hl => ?_)
      refine lv_goto (tgt := 14) hx hb dX5_readExpression_124 (by decide) ?_
      obtain ⟨rfl, rfl⟩ := leaf h
      exact hP0_14 rfl _ _ _ hP hS (lv_sub hl [2, 3, 1, 0] rfl)
    have J112 : ∀ (v3 : Int32) (μ : fMem), f_X5_readExpression_j112 v0 v1 v3 μ = some (tz14, sz14) → WW p l e rm_X5_readExpression s m args below meth c (MQ below (fQi w r μr) args s 0 0 (fA w)) w μ 5 112 [] [(0, .ref (w.2.2.1 v0)), (1, .ref (w.2.2.1 v1)), (3, .int v3)] := by
      intro v3 μ  h H locs ls hP hS hl
      unfold f_X5_readExpression_j112 at h
      refine lv_iconst (v := (0)) hx hb dX5_readExpression_112 (by decide) ?_
      exact J113 v3 (0 : Int32) μ  h _ _ _ hP hS (lv_sub hl [0, 1, 2] rfl)
    have J108 : ∀ (v3 : Int32) (μ : fMem), f_X5_readExpression_j108 v0 v1 v3 μ = some (tz14, sz14) → WW p l e rm_X5_readExpression s m args below meth c (MQ below (fQi w r μr) args s 0 0 (fA w)) w μ 5 108 [] [(0, .ref (w.2.2.1 v0)), (1, .ref (w.2.2.1 v1)), (3, .int v3)] := by
      intro v3 μ  h H locs ls hP hS hl
      unfold f_X5_readExpression_j108 at h
      refine lv_iconst (v := (1)) hx hb dX5_readExpression_108 (by decide) ?_
      refine lv_goto (tgt := 113) hx hb dX5_readExpression_109 (by decide) ?_
      exact J113 v3 (1 : Int32) μ  h _ _ _ hP hS (lv_sub hl [0, 1, 2] rfl)
    have J80 : ∀ (v3 : Int32) (v4 : Int32) (μ : fMem), f_X5_readExpression_j80 v0 v1 v3 v4 μ = some (tz14, sz14) → WW p l e rm_X5_readExpression s m args below meth c (MQ below (fQi w r μr) args s 0 0 (fA w)) w μ 5 80 [] [(0, .ref (w.2.2.1 v0)), (1, .ref (w.2.2.1 v1)), (3, .int v3), (4, .int v4)] := by
      intro v3 v4 μ  h H locs ls hP hS hl
      unfold f_X5_readExpression_j80 at h
      refine lv_iload hx hb dX5_readExpression_80 (lv_at hl 3 rfl) ?_
      refine lv_bipush (v := (21)) hx hb dX5_readExpression_82 (by decide) ?_
      refine lv_icmp_eq (tgt := 108) hx hb dX5_readExpression_84 (by decide) (fun c17 => ?_) (fun c17 => ?_)
      · replace h := if_t c17 h
        exact J108 v3 μ  h _ _ _ hP hS (lv_sub hl [0, 1, 2] rfl)
      · replace h := if_f c17 h
        refine lv_iload hx hb dX5_readExpression_87 (lv_at hl 3 rfl) ?_
        refine lv_bipush (v := (26)) hx hb dX5_readExpression_89 (by decide) ?_
        refine lv_icmp_eq (tgt := 108) hx hb dX5_readExpression_91 (by decide) (fun c18 => ?_) (fun c18 => ?_)
        · replace h := if_t c18 h
          exact J108 v3 μ  h _ _ _ hP hS (lv_sub hl [0, 1, 2] rfl)
        · replace h := if_f c18 h
          refine lv_iload hx hb dX5_readExpression_94 (lv_at hl 3 rfl) ?_
          refine lv_bipush (v := (13)) hx hb dX5_readExpression_96 (by decide) ?_
          refine lv_icmp_lt (tgt := 112) hx hb dX5_readExpression_98 (by decide) (fun c19 => ?_) (fun c19 => ?_)
          · replace h := if_t c19 h
            exact J112 v3 μ  h _ _ _ hP hS (lv_sub hl [0, 1, 2] rfl)
          · replace h := if_f c19 h
            refine lv_iload hx hb dX5_readExpression_101 (lv_at hl 3 rfl) ?_
            refine lv_bipush (v := (19)) hx hb dX5_readExpression_103 (by decide) ?_
            refine lv_icmp_gt (tgt := 112) hx hb dX5_readExpression_105 (by decide) (fun c20 => ?_) (fun c20 => ?_)
            · replace h := if_t c20 h
              exact J112 v3 μ  h _ _ _ hP hS (lv_sub hl [0, 1, 2] rfl)
            · replace h := if_f c20 h
              exact J108 v3 μ  h _ _ _ hP hS (lv_sub hl [0, 1, 2] rfl)
    have J51 : ∀ (v2 : Int32) (v3 : Int32) (v4 : Int32) (μ : fMem), f_X5_readExpression_j51 v0 v1 v2 v3 v4 μ = some (tz14, sz14) → WW p l e rm_X5_readExpression s m args below meth c (MQ below (fQi w r μr) args s 0 0 (fA w)) w μ 5 51 [] [(0, .ref (w.2.2.1 v0)), (1, .ref (w.2.2.1 v1)), (2, .int v2), (3, .int v3), (4, .int v4)] := by
      intro v2 v3 v4 μ  h H locs ls hP hS hl
      unfold f_X5_readExpression_j51 at h
      refine lv_iload_n hx hb dX5_readExpression_51 rfl (lv_at hl 2 rfl) ?_
      refine lv_if_eq (tgt := 68) hx hb dX5_readExpression_52 (by decide) (fun c8 => ?_) (fun c8 => ?_)
      · replace h := if_t c8 h
        refine lv_aload_n hx hb dX5_readExpression_68 rfl (lv_at hl 0 rfl) ?_
        refine lv_aload_n hx hb dX5_readExpression_69 rfl (lv_at hl 1 rfl) ?_
        refine lv_iload hx hb dX5_readExpression_70 (lv_at hl 4 rfl) ?_
        obtain ⟨r10, μ9, h11, h⟩ := bd_ok h
        refine go_i (callV_run (As := [.ref (w.2.2.1 v1), .int v4]) (rest := []) C hl hP (hS.wide hJ).2.1 (iw hw (fi_5 hk0)) hk0 (m_X5_readValue l w hJ hw v0 v1 v4 hk0 hk1 μ h11) mv_X5_168 ⟨rfl, rfl, by decide, by decide⟩ rfl rfl (Nat.le_of_ble_eq_true rfl) ⟨Nat.zero_le _, Nat.zero_le _⟩ dX5_readExpression_72) hS (fun H locs hP hS => ?_)
        refine lv_if_ne (tgt := 80) hx hb dX5_readExpression_75 (by decide) (fun c12 => ?_) (fun c12 => ?_)
        · replace h := if_f c12 h
          exact J80 v3 v4 μ9  h _ _ _ hP hS (lv_sub hl [0, 1, 3, 4] rfl)
        · replace h := if_t c12 h
          obtain ⟨rfl, rfl⟩ := leaf h
          exact ((hK0_14 2 rfl).2.2 rfl) _ _ _ hP hS (lv_sub hl [] rfl)
      · replace h := if_f c8 h
        refine lv_aload_n hx hb dX5_readExpression_55 rfl (lv_at hl 0 rfl) ?_
        refine lv_aload_n hx hb dX5_readExpression_56 rfl (lv_at hl 1 rfl) ?_
        refine lv_iload hx hb dX5_readExpression_57 (lv_at hl 4 rfl) ?_
        obtain ⟨r14, μ13, h15, h⟩ := bd_ok h
        refine go_i (callV_run (As := [.ref (w.2.2.1 v1), .int v4]) (rest := []) C hl hP (hS.wide hJ).2.1 (iw hw (fi_5 hk0)) hk0 (m_X5_readBehindValue l w hJ hw v0 v1 v4 hk0 hk1 μ h15) mv_X5_164 ⟨rfl, rfl, by decide, by decide⟩ rfl rfl (Nat.le_of_ble_eq_true rfl) ⟨Nat.zero_le _, Nat.zero_le _⟩ dX5_readExpression_59) hS (fun H locs hP hS => ?_)
        refine lv_if_eq (tgt := 78) hx hb dX5_readExpression_62 (by decide) (fun c16 => ?_) (fun c16 => ?_)
        · replace h := if_t c16 h
          obtain ⟨rfl, rfl⟩ := leaf h
          exact ((hK0_14 2 rfl).2.2 rfl) _ _ _ hP hS (lv_sub hl [] rfl)
        · replace h := if_f c16 h
          refine lv_goto (tgt := 80) hx hb dX5_readExpression_65 (by decide) ?_
          exact J80 v3 v4 μ13  h _ _ _ hP hS (lv_sub hl [0, 1, 3, 4] rfl)
    refine lv_iload_n hx hb dX5_readExpression_14 rfl (lv_at hl 3 rfl) ?_
    refine lv_sipush (v := (700)) hx hb dX5_readExpression_15 (by decide) ?_
    refine lv_icmp_gt (tgt := 127) hx hb dX5_readExpression_18 (by decide) (fun c3 => ?_) (fun c3 => ?_)
    · replace h := if_t c3 h
      obtain ⟨rfl, rfl⟩ := leaf h
      exact ((hK0_14 0 rfl).1 rfl) _ _ _ hP hS (lv_sub hl [0, 1] rfl)
    · replace h := if_f c3 h
      refine lv_aload_n hx hb dX5_readExpression_21 rfl (lv_at hl 0 rfl) ?_
      refine r_getF (off := 1) C hP (iw hw (fi_5 hk0)) hk0 fl_X5_21 rfl rfl (zw hw) dX5_readExpression_22 ?_
      refine r_getI C hP (iw hw (ff_5_2 hk0).2) (ff_5_2 hk0).1 fl_X5_52 (Or.inl rfl) dX5_readExpression_25 ?_
      refine lv_topi (fun x4 ex4 => ?_)
      replace h := vl_ok ex4 h
      refine lv_istore (lv' := [(4, .int x4), (0, .ref (w.2.2.1 v0)), (1, .ref (w.2.2.1 v1)), (2, .int v2), (3, .int v3)]) hx hb dX5_readExpression_28 hl (by decide) rfl (fun ls hl => ?_)
      refine lv_iload_n hx hb dX5_readExpression_30 rfl (lv_at hl 3 rfl) ?_
      refine lv_if_eq (tgt := 51) hx hb dX5_readExpression_31 (by decide) (fun c5 => ?_) (fun c5 => ?_)
      · replace h := if_t c5 h
        exact J51 v2 v3 x4 μ  h _ _ _ hP hS (lv_sub hl [1, 2, 3, 4, 0] rfl)
      · replace h := if_f c5 h
        refine lv_aload_n hx hb dX5_readExpression_34 rfl (lv_at hl 1 rfl) ?_
        refine r_getI C hP (iw hw (fi_5 hk0)) hk0 fl_X5_42 (Or.inl rfl) dX5_readExpression_35 ?_
        refine lv_if_ne (tgt := 51) hx hb dX5_readExpression_38 (by decide) (fun c6 => ?_) (fun c6 => ?_)
        · replace h := if_f c6 h
          exact J51 v2 v3 x4 μ  h _ _ _ hP hS (lv_sub hl [1, 2, 3, 4, 0] rfl)
        · replace h := if_t c6 h
          refine lv_iload hx hb dX5_readExpression_41 (lv_at hl 0 rfl) ?_
          refine lv_bipush (v := (24)) hx hb dX5_readExpression_43 (by decide) ?_
          refine lv_icmp_ne (tgt := 51) hx hb dX5_readExpression_45 (by decide) (fun c7 => ?_) (fun c7 => ?_)
          · replace h := if_f c7 h
            exact J51 v2 v3 x4 μ  h _ _ _ hP hS (lv_sub hl [1, 2, 3, 4, 0] rfl)
          · replace h := if_t c7 h
            obtain ⟨rfl, rfl⟩ := leaf h
            exact ((hK0_14 1 rfl).2.1 rfl) _ _ _ hP hS (lv_sub hl [1, 2] rfl)
  · obtain ⟨x27, x28, μ29⟩ := q26
    try dsimp only at h
    refine ⟨fun ht => ?_, fun ht => ?_, fun ht => ?_⟩
    · intro H locs ls hP hS hl
      have hP : fP w μ29 H := hP
      have hl : lv_has ls 5 [(0, .ref (w.2.2.1 v0)), (1, .ref (w.2.2.1 v1))] := hl
      replace h := if_t ht h
      exact J127  μ29  h _ _ _ hP hS (lv_sub hl [0, 1] rfl)
    · intro H locs ls hP hS hl
      have hP : fP w μ29 H := hP
      have hl : lv_has ls 5 [(0, .ref (w.2.2.1 v0)), (1, .ref (w.2.2.1 v1))] := hl
      replace h := if_f (by rw [ht]; decide) h
      replace h := if_t ht h
      refine lv_goto (tgt := 127) hx hb dX5_readExpression_48 (by decide) ?_
      exact J127  μ29  h _ _ _ hP hS (lv_sub hl [0, 1] rfl)
    · intro H locs ls hP hS hl
      have hP : fP w μ29 H := hP
      have hl : lv_has ls 5 [] := hl
      replace h := if_f (by rw [ht]; decide) h
      replace h := if_f (by rw [ht]; decide) h
      refine lv_iconst (v := (0)) hx hb dX5_readExpression_78 (by decide) ?_
      exact r_zret C hr hP hS h dX5_readExpression_79

def f_X5_readLaw_j31 (v0 : Nat) (μ : fMem) : Option (Int32 × fMem) :=
  bd (f_X5_fail v0 (1 : Int32) μ) fun r25 μ24 => gd (bl r25) (some (r25, μ24))
def f_X5_readLaw (v0 : Nat) (μ : fMem) : Option (Int32 × fMem) :=
  bd (f_X9_next (v0 + 1) μ) fun r2 μ1 => if (μ1.1 (v0 + 1) 0) < (7 : Int32) then f_X5_readLaw_j31 v0 μ1 else if (μ1.1 (v0 + 1) 0) ≤ (9 : Int32) then vl (μ1.2.2 v0 3) fun x6 => gd (kd x6 = (4, 2)) (bd (f_X2_lawOf x6 ((μ1.1 (v0 + 1) 0) - (7 : Int32)) μ1) fun r9 μ8 => gd (kd r9 = (4, 3)) (if (μ8.1 r9 0) = 0 then bd (f_X9_next (v0 + 1) μ8) fun r14 μ13 => bd (f_X5_readExpression v0 r9 μ13) fun r17 μ16 => if r17 = 0 then gd (bl (0 : Int32)) (some ((0 : Int32), μ16)) else vl (sI μ16 r9 0 (1 : Int32)) fun μ20 => gd (bl (1 : Int32)) (some ((1 : Int32), μ20)) else bd (f_X5_fail v0 (3 : Int32) μ8) fun r22 μ21 => gd (bl r22) (some (r22, μ21)))) else f_X5_readLaw_j31 v0 μ1
def rm_X5_readLaw : Room := { frames := 4, cells := 0, slots := 0, locals := 92 }
set_option maxHeartbeats 4000000 in
set_option maxRecDepth 100000 in
theorem m_X5_readLaw (l : Launch) (w : fW) (hJ : fJ w) (hw : w.2.2.2 = sd 0) (v0 : Nat) (hk0 : kd v0 = (4, 5)) (μ : fMem) {r : Int32} {μr : fMem} (h : f_X5_readLaw v0 μ = some (r, μr)) : Met l yX5_readLaw (.code yX5_readLaw cX5_readLaw 2 (some .boolean) :: gw) rm_X5_readLaw (fPc w [.ref (w.2.2.1 v0)] μ) (fQi w r μr) 0 0 (fA w) := by
  refine met_of hJ (by decide) ?_ (Nat.le_of_ble_eq_true rfl)
  generalize ([.ref (w.2.2.1 v0)] : List Value).toArray = args
  intro p e s m below meth c ls C hr hP hl hS
  obtain ⟨hx, hb, hml, hown, hts, hK, -, hlk, hT⟩ := id C
  have hl : lv_has ls 2 [(0, .ref (w.2.2.1 v0))] := hl
  unfold f_X5_readLaw at h
  have J31 : ∀  (μ : fMem), f_X5_readLaw_j31 v0 μ = some (r, μr) → WW p l e rm_X5_readLaw s m args below meth c (MQ below (fQi w r μr) args s 0 0 (fA w)) w μ 2 31 [] [(0, .ref (w.2.2.1 v0))] := by
    intro  μ  h H locs ls hP hS hl
    unfold f_X5_readLaw_j31 at h
    refine lv_aload_n hx hb dX5_readLaw_31 rfl (lv_at hl 0 rfl) ?_
    refine lv_iconst (v := (1)) hx hb dX5_readLaw_32 (by decide) ?_
    obtain ⟨r25, μ24, h26, h⟩ := bd_ok h
    refine go_i (callV_run (As := [.int (1 : Int32)]) (rest := []) C hl hP (hS.wide hJ).2.1 (iw hw (fi_5 hk0)) hk0 (m_X5_fail l w hJ hw v0 (1 : Int32) hk0 μ h26) mv_X5_59 ⟨rfl, rfl, by decide, by decide⟩ rfl rfl (Nat.le_of_ble_eq_true rfl) ⟨Nat.zero_le _, Nat.zero_le _⟩ dX5_readLaw_33) hS (fun H locs hP hS => ?_)
    exact r_zret C hr hP hS h dX5_readLaw_36
  refine lv_aload_n hx hb dX5_readLaw_0 rfl (lv_at hl 0 rfl) ?_
  refine r_getF (off := 1) C hP (iw hw (fi_5 hk0)) hk0 fl_X5_21 rfl rfl (zw hw) dX5_readLaw_1 ?_
  obtain ⟨r2, μ1, h3, h⟩ := bd_ok h
  refine go_v (callV_run (As := []) (rest := []) C hl hP (hS.wide hJ).2.1 (iw hw (ff_5_2 hk0).2) (ff_5_2 hk0).1 (m_X9_next l w hJ hw (v0 + 1) (ff_5_2 hk0).1 μ h3) mv_X5_66 ⟨rfl, rfl, by decide, by decide⟩ rfl rfl (Nat.le_of_ble_eq_true rfl) ⟨Nat.zero_le _, Nat.zero_le _⟩ dX5_readLaw_4) hS (fun H locs hP hS => ?_)
  refine lv_aload_n hx hb dX5_readLaw_7 rfl (lv_at hl 0 rfl) ?_
  refine r_getF (off := 1) C hP (iw hw (fi_5 hk0)) hk0 fl_X5_21 rfl rfl (zw hw) dX5_readLaw_8 ?_
  refine r_getI C hP (iw hw (ff_5_2 hk0).2) (ff_5_2 hk0).1 fl_X5_52 (Or.inl rfl) dX5_readLaw_11 ?_
  refine lv_bipush (v := (7)) hx hb dX5_readLaw_14 (by decide) ?_
  refine lv_icmp_lt (tgt := 31) hx hb dX5_readLaw_16 (by decide) (fun c4 => ?_) (fun c4 => ?_)
  · replace h := if_t c4 h
    exact J31  μ1  h _ _ _ hP hS (lv_sub hl [0] rfl)
  · replace h := if_f c4 h
    refine lv_aload_n hx hb dX5_readLaw_19 rfl (lv_at hl 0 rfl) ?_
    refine r_getF (off := 1) C hP (iw hw (fi_5 hk0)) hk0 fl_X5_21 rfl rfl (zw hw) dX5_readLaw_20 ?_
    refine r_getI C hP (iw hw (ff_5_2 hk0).2) (ff_5_2 hk0).1 fl_X5_52 (Or.inl rfl) dX5_readLaw_23 ?_
    refine lv_bipush (v := (9)) hx hb dX5_readLaw_26 (by decide) ?_
    refine lv_icmp_le (tgt := 37) hx hb dX5_readLaw_28 (by decide) (fun c5 => ?_) (fun c5 => ?_)
    · replace h := if_t c5 h
      refine lv_aload_n hx hb dX5_readLaw_37 rfl (lv_at hl 0 rfl) ?_
      refine r_getRx C hP (iw hw (fi_5 hk0)) hk0 fl_X5_28 rfl (zw hw) dX5_readLaw_38 (fun x6 ex6 => ?_)
      replace h := vl_ok ex6 h
      obtain ⟨g7, h⟩ := gd_ok h
      refine lv_aload_n hx hb dX5_readLaw_41 rfl (lv_at hl 0 rfl) ?_
      refine r_getF (off := 1) C hP (iw hw (fi_5 hk0)) hk0 fl_X5_21 rfl rfl (zw hw) dX5_readLaw_42 ?_
      refine r_getI C hP (iw hw (ff_5_2 hk0).2) (ff_5_2 hk0).1 fl_X5_52 (Or.inl rfl) dX5_readLaw_45 ?_
      refine lv_bipush (v := (7)) hx hb dX5_readLaw_48 (by decide) ?_
      refine lv_isub hx hb dX5_readLaw_50 ?_
      obtain ⟨r9, μ8, h10, h⟩ := bd_ok h
      refine go_r (callV_run (As := [.int ((μ1.1 (v0 + 1) 0) - (7 : Int32))]) (rest := []) C hl hP (hS.wide hJ).2.1 (iw hw (fi_2 g7)) g7 (m_X2_lawOf l w hJ hw x6 ((μ1.1 (v0 + 1) 0) - (7 : Int32)) g7 μ1 h10) mv_X5_151 ⟨rfl, rfl, by decide, by decide⟩ rfl rfl (Nat.le_of_ble_eq_true rfl) ⟨Nat.zero_le _, Nat.zero_le _⟩ dX5_readLaw_51) hS (fun H locs hP hS => ?_)
      obtain ⟨g11, h⟩ := gd_ok h
      refine lv_astore_n (lv' := [(1, .ref (w.2.2.1 r9)), (0, .ref (w.2.2.1 v0))]) hx hb dX5_readLaw_54 rfl hl (by decide) rfl (fun ls hl => ?_)
      refine lv_aload_n hx hb dX5_readLaw_55 rfl (lv_at hl 0 rfl) ?_
      refine r_getI C hP (iw hw (fi_3 g11)) g11 fl_X5_155 (Or.inr rfl) dX5_readLaw_56 ?_
      refine lv_if_eq (tgt := 68) hx hb dX5_readLaw_59 (by decide) (fun c12 => ?_) (fun c12 => ?_)
      · replace h := if_t c12 h
        refine lv_aload_n hx hb dX5_readLaw_68 rfl (lv_at hl 1 rfl) ?_
        refine r_getF (off := 1) C hP (iw hw (fi_5 hk0)) hk0 fl_X5_21 rfl rfl (zw hw) dX5_readLaw_69 ?_
        obtain ⟨r14, μ13, h15, h⟩ := bd_ok h
        refine go_v (callV_run (As := []) (rest := []) C hl hP (hS.wide hJ).2.1 (iw hw (ff_5_2 hk0).2) (ff_5_2 hk0).1 (m_X9_next l w hJ hw (v0 + 1) (ff_5_2 hk0).1 μ8 h15) mv_X5_66 ⟨rfl, rfl, by decide, by decide⟩ rfl rfl (Nat.le_of_ble_eq_true rfl) ⟨Nat.zero_le _, Nat.zero_le _⟩ dX5_readLaw_72) hS (fun H locs hP hS => ?_)
        refine lv_aload_n hx hb dX5_readLaw_75 rfl (lv_at hl 1 rfl) ?_
        refine lv_aload_n hx hb dX5_readLaw_76 rfl (lv_at hl 0 rfl) ?_
        obtain ⟨r17, μ16, h18, h⟩ := bd_ok h
        refine go_i (callV_run (As := [.ref (w.2.2.1 r9)]) (rest := []) C hl hP (hS.wide hJ).2.1 (iw hw (fi_5 hk0)) hk0 (m_X5_readExpression l w hJ hw v0 r9 hk0 g11 μ13 h18) mv_X5_160 ⟨rfl, rfl, by decide, by decide⟩ rfl rfl (Nat.le_of_ble_eq_true rfl) ⟨Nat.zero_le _, Nat.zero_le _⟩ dX5_readLaw_77) hS (fun H locs hP hS => ?_)
        refine lv_if_ne (tgt := 85) hx hb dX5_readLaw_80 (by decide) (fun c19 => ?_) (fun c19 => ?_)
        · replace h := if_f c19 h
          refine lv_aload_n hx hb dX5_readLaw_85 rfl (lv_at hl 0 rfl) ?_
          refine lv_iconst (v := (1)) hx hb dX5_readLaw_86 (by decide) ?_
          refine r_putZ C hP hS (iw hw (fi_3 g11)) g11 fp_X5_155 rfl (Or.inr rfl) dX5_readLaw_87 (fun H locs hP hS => ?_)
          obtain ⟨μ20, eμ20, h⟩ := vl_ex h
          have hP : fP w μ20 H := by rw [eμ20]; exact hP
          refine lv_iconst (v := (1)) hx hb dX5_readLaw_90 (by decide) ?_
          exact r_zret C hr hP hS h dX5_readLaw_91
        · replace h := if_t c19 h
          refine lv_iconst (v := (0)) hx hb dX5_readLaw_83 (by decide) ?_
          exact r_zret C hr hP hS h dX5_readLaw_84
      · replace h := if_f c12 h
        refine lv_aload_n hx hb dX5_readLaw_62 rfl (lv_at hl 1 rfl) ?_
        refine lv_iconst (v := (3)) hx hb dX5_readLaw_63 (by decide) ?_
        obtain ⟨r22, μ21, h23, h⟩ := bd_ok h
        refine go_i (callV_run (As := [.int (3 : Int32)]) (rest := []) C hl hP (hS.wide hJ).2.1 (iw hw (fi_5 hk0)) hk0 (m_X5_fail l w hJ hw v0 (3 : Int32) hk0 μ8 h23) mv_X5_59 ⟨rfl, rfl, by decide, by decide⟩ rfl rfl (Nat.le_of_ble_eq_true rfl) ⟨Nat.zero_le _, Nat.zero_le _⟩ dX5_readLaw_64) hS (fun H locs hP hS => ?_)
        exact r_zret C hr hP hS h dX5_readLaw_67
    · replace h := if_f c5 h
      exact J31  μ1  h _ _ _ hP hS (lv_sub hl [0] rfl)

def f_X5_readName_j79 (v0 : Nat) (μ : fMem) : Option (Int32 × fMem) :=
  bd (f_X9_next (v0 + 1) μ) fun r25 μ24 => gd (bl (1 : Int32)) (some ((1 : Int32), μ24))
def f_X5_readName (v0 : Nat) (v1 : Int32) (v2 : Int32) (μ : fMem) : Option (Int32 × fMem) :=
  if (μ.1 (v0 + 1) 0) = (20 : Int32) then vl (μ.2.2 v0 3) fun x2 => gd (kd x2 = (4, 2)) (bd (f_X2_find x2 v1 (μ.1 (v0 + 1) 2) μ) fun r5 μ4 => if r5 = (-1 : Int32) then if v2 < 0 then f_X5_readName_j79 v0 μ4 else vl (μ4.2.2 v0 3) fun x9 => gd (kd x9 = (4, 2)) (gd (ixo v1 4) (if (8 : Int32) ≤ v2 then f_X5_readName_j79 v0 μ4 else vl (μ4.2.2 v0 3) fun x13 => gd (kd x13 = (4, 2)) (gd (ixo v1 4) (gd (ixo v2 8) (vl (sI μ4 ((x13 + 2) + 1 + (Int32.toNatClampNeg v1)) (Int32.toNatClampNeg v2) (μ4.1 (v0 + 1) 2)) fun μ16 => f_X5_readName_j79 v0 μ16))))) else bd (f_X5_fail v0 (3 : Int32) μ4) fun r19 μ18 => gd (bl r19) (some (r19, μ18))) else bd (f_X5_fail v0 (1 : Int32) μ) fun r22 μ21 => gd (bl r22) (some (r22, μ21))
def rm_X5_readName : Room := { frames := 2, cells := 0, slots := 0, locals := 44 }
set_option maxHeartbeats 4000000 in
set_option maxRecDepth 100000 in
theorem m_X5_readName (l : Launch) (w : fW) (hJ : fJ w) (hw : w.2.2.2 = sd 0) (v0 : Nat) (v1 : Int32) (v2 : Int32) (hk0 : kd v0 = (4, 5)) (μ : fMem) {r : Int32} {μr : fMem} (h : f_X5_readName v0 v1 v2 μ = some (r, μr)) : Met l yX5_readName (.code yX5_readName cX5_readName 3 (some .boolean) :: gw) rm_X5_readName (fPc w [.ref (w.2.2.1 v0), .int v1, .int v2] μ) (fQi w r μr) 0 0 (fA w) := by
  refine met_of hJ (by decide) ?_ (Nat.le_of_ble_eq_true rfl)
  generalize ([.ref (w.2.2.1 v0), .int v1, .int v2] : List Value).toArray = args
  intro p e s m below meth c ls C hr hP hl hS
  obtain ⟨hx, hb, hml, hown, hts, hK, -, hlk, hT⟩ := id C
  have hl : lv_has ls 3 [(0, .ref (w.2.2.1 v0)), (1, .int v1), (2, .int v2)] := hl
  unfold f_X5_readName at h
  have J79 : ∀  (μ : fMem), f_X5_readName_j79 v0 μ = some (r, μr) → WW p l e rm_X5_readName s m args below meth c (MQ below (fQi w r μr) args s 0 0 (fA w)) w μ 3 79 [] [(0, .ref (w.2.2.1 v0))] := by
    intro  μ  h H locs ls hP hS hl
    unfold f_X5_readName_j79 at h
    refine lv_aload_n hx hb dX5_readName_79 rfl (lv_at hl 0 rfl) ?_
    refine r_getF (off := 1) C hP (iw hw (fi_5 hk0)) hk0 fl_X5_21 rfl rfl (zw hw) dX5_readName_80 ?_
    obtain ⟨r25, μ24, h26, h⟩ := bd_ok h
    refine go_v (callV_run (As := []) (rest := []) C hl hP (hS.wide hJ).2.1 (iw hw (ff_5_2 hk0).2) (ff_5_2 hk0).1 (m_X9_next l w hJ hw (v0 + 1) (ff_5_2 hk0).1 μ h26) mv_X5_66 ⟨rfl, rfl, by decide, by decide⟩ rfl rfl (Nat.le_of_ble_eq_true rfl) ⟨Nat.zero_le _, Nat.zero_le _⟩ dX5_readName_83) hS (fun H locs hP hS => ?_)
    refine lv_iconst (v := (1)) hx hb dX5_readName_86 (by decide) ?_
    exact r_zret C hr hP hS h dX5_readName_87
  refine lv_aload_n hx hb dX5_readName_0 rfl (lv_at hl 0 rfl) ?_
  refine r_getF (off := 1) C hP (iw hw (fi_5 hk0)) hk0 fl_X5_21 rfl rfl (zw hw) dX5_readName_1 ?_
  refine r_getI C hP (iw hw (ff_5_2 hk0).2) (ff_5_2 hk0).1 fl_X5_52 (Or.inl rfl) dX5_readName_4 ?_
  refine lv_bipush (v := (20)) hx hb dX5_readName_7 (by decide) ?_
  refine lv_icmp_eq (tgt := 18) hx hb dX5_readName_9 (by decide) (fun c1 => ?_) (fun c1 => ?_)
  · replace h := if_t c1 h
    refine lv_aload_n hx hb dX5_readName_18 rfl (lv_at hl 0 rfl) ?_
    refine r_getRx C hP (iw hw (fi_5 hk0)) hk0 fl_X5_28 rfl (zw hw) dX5_readName_19 (fun x2 ex2 => ?_)
    replace h := vl_ok ex2 h
    obtain ⟨g3, h⟩ := gd_ok h
    refine lv_iload_n hx hb dX5_readName_22 rfl (lv_at hl 1 rfl) ?_
    refine lv_aload_n hx hb dX5_readName_23 rfl (lv_at hl 0 rfl) ?_
    refine r_getF (off := 1) C hP (iw hw (fi_5 hk0)) hk0 fl_X5_21 rfl rfl (zw hw) dX5_readName_24 ?_
    refine r_getI C hP (iw hw (ff_5_2 hk0).2) (ff_5_2 hk0).1 fl_X5_110 (Or.inl rfl) dX5_readName_27 ?_
    obtain ⟨r5, μ4, h6, h⟩ := bd_ok h
    refine go_i (callV_run (As := [.int v1, .int (μ.1 (v0 + 1) 2)]) (rest := []) C hl hP (hS.wide hJ).2.1 (iw hw (fi_2 g3)) g3 (m_X2_find l w hJ hw x2 v1 (μ.1 (v0 + 1) 2) g3 μ h6) mv_X5_113 ⟨rfl, rfl, by decide, by decide⟩ rfl rfl (Nat.le_of_ble_eq_true rfl) ⟨Nat.zero_le _, Nat.zero_le _⟩ dX5_readName_30) hS (fun H locs hP hS => ?_)
    refine lv_iconst (v := (-1)) hx hb dX5_readName_33 (by decide) ?_
    refine lv_icmp_eq (tgt := 43) hx hb dX5_readName_34 (by decide) (fun c7 => ?_) (fun c7 => ?_)
    · replace h := if_t c7 h
      refine lv_iload_n hx hb dX5_readName_43 rfl (lv_at hl 2 rfl) ?_
      refine lv_if_lt (tgt := 79) hx hb dX5_readName_44 (by decide) (fun c8 => ?_) (fun c8 => ?_)
      · replace h := if_t c8 h
        exact J79  μ4  h _ _ _ hP hS (lv_sub hl [0] rfl)
      · replace h := if_f c8 h
        refine lv_iload_n hx hb dX5_readName_47 rfl (lv_at hl 2 rfl) ?_
        refine lv_aload_n hx hb dX5_readName_48 rfl (lv_at hl 0 rfl) ?_
        refine r_getRx C hP (iw hw (fi_5 hk0)) hk0 fl_X5_28 rfl (zw hw) dX5_readName_49 (fun x9 ex9 => ?_)
        replace h := vl_ok ex9 h
        obtain ⟨g10, h⟩ := gd_ok h
        refine r_getF (off := 2) C hP (iw hw (fi_2 g10)) g10 fl_X5_117 rfl rfl (zw hw) dX5_readName_52 ?_
        refine lv_iload_n hx hb dX5_readName_55 rfl (lv_at hl 1 rfl) ?_
        obtain ⟨g11, h⟩ := gd_ok h
        refine r_aald C hP (iw hw (ff_2_3 g10).2) (ff_2_3 g10).1 g11 dX5_readName_56 ?_
        refine r_alen (v := 8) C hP (iw hw (fr_row (ff_2_3 g10).1 (ixlt g11)).2) (Or.inl (rowkd (fr_row (ff_2_3 g10).1 (ixlt g11)).1 (f2_2_3 g10))) (by decide) dX5_readName_57 ?_
        refine lv_icmp_ge (tgt := 79) hx hb dX5_readName_58 (by decide) (fun c12 => ?_) (fun c12 => ?_)
        · replace h := if_t c12 h
          exact J79  μ4  h _ _ _ hP hS (lv_sub hl [0] rfl)
        · replace h := if_f c12 h
          refine lv_aload_n hx hb dX5_readName_61 rfl (lv_at hl 0 rfl) ?_
          refine r_getRx C hP (iw hw (fi_5 hk0)) hk0 fl_X5_28 rfl (zw hw) dX5_readName_62 (fun x13 ex13 => ?_)
          replace h := vl_ok ex13 h
          obtain ⟨g14, h⟩ := gd_ok h
          refine r_getF (off := 2) C hP (iw hw (fi_2 g14)) g14 fl_X5_117 rfl rfl (zw hw) dX5_readName_65 ?_
          refine lv_iload_n hx hb dX5_readName_68 rfl (lv_at hl 1 rfl) ?_
          obtain ⟨g15, h⟩ := gd_ok h
          refine r_aald C hP (iw hw (ff_2_3 g14).2) (ff_2_3 g14).1 g15 dX5_readName_69 ?_
          refine lv_iload_n hx hb dX5_readName_70 rfl (lv_at hl 2 rfl) ?_
          refine lv_aload_n hx hb dX5_readName_71 rfl (lv_at hl 0 rfl) ?_
          refine r_getF (off := 1) C hP (iw hw (fi_5 hk0)) hk0 fl_X5_21 rfl rfl (zw hw) dX5_readName_72 ?_
          refine r_getI C hP (iw hw (ff_5_2 hk0).2) (ff_5_2 hk0).1 fl_X5_110 (Or.inl rfl) dX5_readName_75 ?_
          obtain ⟨g17, h⟩ := gd_ok h
          refine r_iast C hP hS (iw hw (fr_row (ff_2_3 g14).1 (ixlt g15)).2) (rowkd (fr_row (ff_2_3 g14).1 (ixlt g15)).1 (f2_2_3 g14)) g17 dX5_readName_78 (fun H locs hP hS => ?_)
          obtain ⟨μ16, eμ16, h⟩ := vl_ex h
          have hP : fP w μ16 H := by rw [eμ16]; exact hP
          exact J79  μ16  h _ _ _ hP hS (lv_sub hl [0] rfl)
    · replace h := if_f c7 h
      refine lv_aload_n hx hb dX5_readName_37 rfl (lv_at hl 0 rfl) ?_
      refine lv_iconst (v := (3)) hx hb dX5_readName_38 (by decide) ?_
      obtain ⟨r19, μ18, h20, h⟩ := bd_ok h
      refine go_i (callV_run (As := [.int (3 : Int32)]) (rest := []) C hl hP (hS.wide hJ).2.1 (iw hw (fi_5 hk0)) hk0 (m_X5_fail l w hJ hw v0 (3 : Int32) hk0 μ4 h20) mv_X5_59 ⟨rfl, rfl, by decide, by decide⟩ rfl rfl (Nat.le_of_ble_eq_true rfl) ⟨Nat.zero_le _, Nat.zero_le _⟩ dX5_readName_39) hS (fun H locs hP hS => ?_)
      exact r_zret C hr hP hS h dX5_readName_42
  · replace h := if_f c1 h
    refine lv_aload_n hx hb dX5_readName_12 rfl (lv_at hl 0 rfl) ?_
    refine lv_iconst (v := (1)) hx hb dX5_readName_13 (by decide) ?_
    obtain ⟨r22, μ21, h23, h⟩ := bd_ok h
    refine go_i (callV_run (As := [.int (1 : Int32)]) (rest := []) C hl hP (hS.wide hJ).2.1 (iw hw (fi_5 hk0)) hk0 (m_X5_fail l w hJ hw v0 (1 : Int32) hk0 μ h23) mv_X5_59 ⟨rfl, rfl, by decide, by decide⟩ rfl rfl (Nat.le_of_ble_eq_true rfl) ⟨Nat.zero_le _, Nat.zero_le _⟩ dX5_readName_14) hS (fun H locs hP hS => ?_)
    exact r_zret C hr hP hS h dX5_readName_17

def f_X5_readRoom (v0 : Nat) (μ : fMem) : Option (Int32 × fMem) :=
  if (μ.1 (v0 + 1) 0) = (20 : Int32) then vl (μ.2.2 v0 3) fun x2 => gd (kd x2 = (4, 2)) (bd (f_X2_find x2 (0 : Int32) (μ.1 (v0 + 1) 2) μ) fun r5 μ4 => vl (sI μ4 v0 4 r5) fun μ7 => if (μ7.1 v0 4) = (-1 : Int32) then bd (f_X5_fail v0 (4 : Int32) μ7) fun r13 μ12 => gd (bl r13) (some (r13, μ12)) else bd (f_X9_next (v0 + 1) μ7) fun r10 μ9 => gd (bl (1 : Int32)) (some ((1 : Int32), μ9))) else bd (f_X5_fail v0 (1 : Int32) μ) fun r16 μ15 => gd (bl r16) (some (r16, μ15))
def rm_X5_readRoom : Room := { frames := 2, cells := 0, slots := 0, locals := 44 }
set_option maxHeartbeats 4000000 in
set_option maxRecDepth 100000 in
theorem m_X5_readRoom (l : Launch) (w : fW) (hJ : fJ w) (hw : w.2.2.2 = sd 0) (v0 : Nat) (hk0 : kd v0 = (4, 5)) (μ : fMem) {r : Int32} {μr : fMem} (h : f_X5_readRoom v0 μ = some (r, μr)) : Met l yX5_readRoom (.code yX5_readRoom cX5_readRoom 1 (some .boolean) :: gw) rm_X5_readRoom (fPc w [.ref (w.2.2.1 v0)] μ) (fQi w r μr) 0 0 (fA w) := by
  refine met_of hJ (by decide) ?_ (Nat.le_of_ble_eq_true rfl)
  generalize ([.ref (w.2.2.1 v0)] : List Value).toArray = args
  intro p e s m below meth c ls C hr hP hl hS
  obtain ⟨hx, hb, hml, hown, hts, hK, -, hlk, hT⟩ := id C
  have hl : lv_has ls 1 [(0, .ref (w.2.2.1 v0))] := hl
  unfold f_X5_readRoom at h
  refine lv_aload_n hx hb dX5_readRoom_0 rfl (lv_at hl 0 rfl) ?_
  refine r_getF (off := 1) C hP (iw hw (fi_5 hk0)) hk0 fl_X5_21 rfl rfl (zw hw) dX5_readRoom_1 ?_
  refine r_getI C hP (iw hw (ff_5_2 hk0).2) (ff_5_2 hk0).1 fl_X5_52 (Or.inl rfl) dX5_readRoom_4 ?_
  refine lv_bipush (v := (20)) hx hb dX5_readRoom_7 (by decide) ?_
  refine lv_icmp_eq (tgt := 18) hx hb dX5_readRoom_9 (by decide) (fun c1 => ?_) (fun c1 => ?_)
  · replace h := if_t c1 h
    refine lv_aload_n hx hb dX5_readRoom_18 rfl (lv_at hl 0 rfl) ?_
    refine lv_aload_n hx hb dX5_readRoom_19 rfl (lv_at hl 0 rfl) ?_
    refine r_getRx C hP (iw hw (fi_5 hk0)) hk0 fl_X5_28 rfl (zw hw) dX5_readRoom_20 (fun x2 ex2 => ?_)
    replace h := vl_ok ex2 h
    obtain ⟨g3, h⟩ := gd_ok h
    refine lv_iconst (v := (0)) hx hb dX5_readRoom_23 (by decide) ?_
    refine lv_aload_n hx hb dX5_readRoom_24 rfl (lv_at hl 0 rfl) ?_
    refine r_getF (off := 1) C hP (iw hw (fi_5 hk0)) hk0 fl_X5_21 rfl rfl (zw hw) dX5_readRoom_25 ?_
    refine r_getI C hP (iw hw (ff_5_2 hk0).2) (ff_5_2 hk0).1 fl_X5_110 (Or.inl rfl) dX5_readRoom_28 ?_
    obtain ⟨r5, μ4, h6, h⟩ := bd_ok h
    refine go_i (callV_run (As := [.int (0 : Int32), .int (μ.1 (v0 + 1) 2)]) (rest := [.ref (w.2.2.1 v0)]) C hl hP (hS.wide hJ).2.1 (iw hw (fi_2 g3)) g3 (m_X2_find l w hJ hw x2 (0 : Int32) (μ.1 (v0 + 1) 2) g3 μ h6) mv_X5_113 ⟨rfl, rfl, by decide, by decide⟩ rfl rfl (Nat.le_of_ble_eq_true rfl) ⟨Nat.zero_le _, Nat.zero_le _⟩ dX5_readRoom_31) hS (fun H locs hP hS => ?_)
    refine r_putI C hP hS (iw hw (fi_5 hk0)) hk0 fp_X5_32 rfl dX5_readRoom_34 (fun H locs hP hS => ?_)
    obtain ⟨μ7, eμ7, h⟩ := vl_ex h
    have hP : fP w μ7 H := by rw [eμ7]; exact hP
    refine lv_aload_n hx hb dX5_readRoom_37 rfl (lv_at hl 0 rfl) ?_
    refine r_getI C hP (iw hw (fi_5 hk0)) hk0 fl_X5_32 (Or.inl rfl) dX5_readRoom_38 ?_
    refine lv_iconst (v := (-1)) hx hb dX5_readRoom_41 (by decide) ?_
    refine lv_icmp_ne (tgt := 51) hx hb dX5_readRoom_42 (by decide) (fun c8 => ?_) (fun c8 => ?_)
    · replace h := if_f c8 h
      refine lv_aload_n hx hb dX5_readRoom_51 rfl (lv_at hl 0 rfl) ?_
      refine r_getF (off := 1) C hP (iw hw (fi_5 hk0)) hk0 fl_X5_21 rfl rfl (zw hw) dX5_readRoom_52 ?_
      obtain ⟨r10, μ9, h11, h⟩ := bd_ok h
      refine go_v (callV_run (As := []) (rest := []) C hl hP (hS.wide hJ).2.1 (iw hw (ff_5_2 hk0).2) (ff_5_2 hk0).1 (m_X9_next l w hJ hw (v0 + 1) (ff_5_2 hk0).1 μ7 h11) mv_X5_66 ⟨rfl, rfl, by decide, by decide⟩ rfl rfl (Nat.le_of_ble_eq_true rfl) ⟨Nat.zero_le _, Nat.zero_le _⟩ dX5_readRoom_55) hS (fun H locs hP hS => ?_)
      refine lv_iconst (v := (1)) hx hb dX5_readRoom_58 (by decide) ?_
      exact r_zret C hr hP hS h dX5_readRoom_59
    · replace h := if_t c8 h
      refine lv_aload_n hx hb dX5_readRoom_45 rfl (lv_at hl 0 rfl) ?_
      refine lv_iconst (v := (4)) hx hb dX5_readRoom_46 (by decide) ?_
      obtain ⟨r13, μ12, h14, h⟩ := bd_ok h
      refine go_i (callV_run (As := [.int (4 : Int32)]) (rest := []) C hl hP (hS.wide hJ).2.1 (iw hw (fi_5 hk0)) hk0 (m_X5_fail l w hJ hw v0 (4 : Int32) hk0 μ7 h14) mv_X5_59 ⟨rfl, rfl, by decide, by decide⟩ rfl rfl (Nat.le_of_ble_eq_true rfl) ⟨Nat.zero_le _, Nat.zero_le _⟩ dX5_readRoom_47) hS (fun H locs hP hS => ?_)
      exact r_zret C hr hP hS h dX5_readRoom_50
  · replace h := if_f c1 h
    refine lv_aload_n hx hb dX5_readRoom_12 rfl (lv_at hl 0 rfl) ?_
    refine lv_iconst (v := (1)) hx hb dX5_readRoom_13 (by decide) ?_
    obtain ⟨r16, μ15, h17, h⟩ := bd_ok h
    refine go_i (callV_run (As := [.int (1 : Int32)]) (rest := []) C hl hP (hS.wide hJ).2.1 (iw hw (fi_5 hk0)) hk0 (m_X5_fail l w hJ hw v0 (1 : Int32) hk0 μ h17) mv_X5_59 ⟨rfl, rfl, by decide, by decide⟩ rfl rfl (Nat.le_of_ble_eq_true rfl) ⟨Nat.zero_le _, Nat.zero_le _⟩ dX5_readRoom_14) hS (fun H locs hP hS => ?_)
    exact r_zret C hr hP hS h dX5_readRoom_17

def f_X5_readDoor_j134 (v0 : Nat) (μ : fMem) : Option (Int32 × fMem) :=
  bd (f_X9_next (v0 + 1) μ) fun r46 μ45 => gd (bl (1 : Int32)) (some ((1 : Int32), μ45))
def f_X5_readDoor (v0 : Nat) (μ : fMem) : Option (Int32 × fMem) :=
  bd (f_X5_readRoom v0 μ) fun r2 μ1 => if r2 = 0 then gd (bl (0 : Int32)) (some ((0 : Int32), μ1)) else vl (μ1.1 v0 4) fun x5 => if (μ1.1 (v0 + 1) 0) = (20 : Int32) then vl (μ1.2.2 v0 3) fun x7 => gd (kd x7 = (4, 2)) (bd (f_X2_find x7 (0 : Int32) (μ1.1 (v0 + 1) 2) μ1) fun r10 μ9 => if r10 = (-1 : Int32) then bd (f_X5_fail v0 (4 : Int32) μ9) fun r40 μ39 => gd (bl r40) (some (r40, μ39)) else if x5 = r10 then bd (f_X5_fail v0 (5 : Int32) μ9) fun r37 μ36 => gd (bl r37) (some (r37, μ36)) else vl (μ9.2.2 v0 3) fun x14 => gd (kd x14 = (4, 2)) (bd (f_X2_leads x14 x5 r10 μ9) fun r17 μ16 => if r17 = 0 then if x5 < 0 then f_X5_readDoor_j134 v0 μ16 else if (6 : Int32) ≤ x5 then f_X5_readDoor_j134 v0 μ16 else if (6 : Int32) ≤ r10 then f_X5_readDoor_j134 v0 μ16 else vl (μ16.2.2 v0 3) fun x23 => gd (kd x23 = (4, 2)) (gd (ixo x5 6) (gd (ixo x5 6) (vl (sI μ16 (x23 + 7) (Int32.toNatClampNeg x5) ((μ16.1 (x23 + 7) (Int32.toNatClampNeg x5)) ||| (shl (1 : Int32) r10))) fun μ26 => vl (μ26.2.2 v0 3) fun x28 => gd (kd x28 = (4, 2)) (gd (ixo r10 6) (gd (ixo r10 6) (vl (sI μ26 (x28 + 7) (Int32.toNatClampNeg r10) ((μ26.1 (x28 + 7) (Int32.toNatClampNeg r10)) ||| (shl (1 : Int32) x5))) fun μ31 => f_X5_readDoor_j134 v0 μ31)))))) else bd (f_X5_fail v0 (3 : Int32) μ16) fun r34 μ33 => gd (bl r34) (some (r34, μ33)))) else bd (f_X5_fail v0 (1 : Int32) μ1) fun r43 μ42 => gd (bl r43) (some (r43, μ42))
def rm_X5_readDoor : Room := { frames := 3, cells := 0, slots := 0, locals := 64 }
set_option maxHeartbeats 4000000 in
set_option maxRecDepth 100000 in
theorem m_X5_readDoor (l : Launch) (w : fW) (hJ : fJ w) (hw : w.2.2.2 = sd 0) (v0 : Nat) (hk0 : kd v0 = (4, 5)) (μ : fMem) {r : Int32} {μr : fMem} (h : f_X5_readDoor v0 μ = some (r, μr)) : Met l yX5_readDoor (.code yX5_readDoor cX5_readDoor 3 (some .boolean) :: gw) rm_X5_readDoor (fPc w [.ref (w.2.2.1 v0)] μ) (fQi w r μr) 0 0 (fA w) := by
  refine met_of hJ (by decide) ?_ (Nat.le_of_ble_eq_true rfl)
  generalize ([.ref (w.2.2.1 v0)] : List Value).toArray = args
  intro p e s m below meth c ls C hr hP hl hS
  obtain ⟨hx, hb, hml, hown, hts, hK, -, hlk, hT⟩ := id C
  have hl : lv_has ls 3 [(0, .ref (w.2.2.1 v0))] := hl
  unfold f_X5_readDoor at h
  have J134 : ∀  (μ : fMem), f_X5_readDoor_j134 v0 μ = some (r, μr) → WW p l e rm_X5_readDoor s m args below meth c (MQ below (fQi w r μr) args s 0 0 (fA w)) w μ 3 134 [] [(0, .ref (w.2.2.1 v0))] := by
    intro  μ  h H locs ls hP hS hl
    unfold f_X5_readDoor_j134 at h
    refine lv_aload_n hx hb dX5_readDoor_134 rfl (lv_at hl 0 rfl) ?_
    refine r_getF (off := 1) C hP (iw hw (fi_5 hk0)) hk0 fl_X5_21 rfl rfl (zw hw) dX5_readDoor_135 ?_
    obtain ⟨r46, μ45, h47, h⟩ := bd_ok h
    refine go_v (callV_run (As := []) (rest := []) C hl hP (hS.wide hJ).2.1 (iw hw (ff_5_2 hk0).2) (ff_5_2 hk0).1 (m_X9_next l w hJ hw (v0 + 1) (ff_5_2 hk0).1 μ h47) mv_X5_66 ⟨rfl, rfl, by decide, by decide⟩ rfl rfl (Nat.le_of_ble_eq_true rfl) ⟨Nat.zero_le _, Nat.zero_le _⟩ dX5_readDoor_138) hS (fun H locs hP hS => ?_)
    refine lv_iconst (v := (1)) hx hb dX5_readDoor_141 (by decide) ?_
    exact r_zret C hr hP hS h dX5_readDoor_142
  refine lv_aload_n hx hb dX5_readDoor_0 rfl (lv_at hl 0 rfl) ?_
  obtain ⟨r2, μ1, h3, h⟩ := bd_ok h
  refine go_i (callV_run (As := []) (rest := []) C hl hP (hS.wide hJ).2.1 (iw hw (fi_5 hk0)) hk0 (m_X5_readRoom l w hJ hw v0 hk0 μ h3) mv_X5_121 ⟨rfl, rfl, by decide, by decide⟩ rfl rfl (Nat.le_of_ble_eq_true rfl) ⟨Nat.zero_le _, Nat.zero_le _⟩ dX5_readDoor_1) hS (fun H locs hP hS => ?_)
  refine lv_if_ne (tgt := 9) hx hb dX5_readDoor_4 (by decide) (fun c4 => ?_) (fun c4 => ?_)
  · replace h := if_f c4 h
    refine lv_aload_n hx hb dX5_readDoor_9 rfl (lv_at hl 0 rfl) ?_
    refine r_getI C hP (iw hw (fi_5 hk0)) hk0 fl_X5_32 (Or.inl rfl) dX5_readDoor_10 ?_
    refine lv_topi (fun x5 ex5 => ?_)
    replace h := vl_ok ex5 h
    refine lv_istore_n (lv' := [(1, .int x5), (0, .ref (w.2.2.1 v0))]) hx hb dX5_readDoor_13 rfl hl (by decide) rfl (fun ls hl => ?_)
    refine lv_aload_n hx hb dX5_readDoor_14 rfl (lv_at hl 1 rfl) ?_
    refine r_getF (off := 1) C hP (iw hw (fi_5 hk0)) hk0 fl_X5_21 rfl rfl (zw hw) dX5_readDoor_15 ?_
    refine r_getI C hP (iw hw (ff_5_2 hk0).2) (ff_5_2 hk0).1 fl_X5_52 (Or.inl rfl) dX5_readDoor_18 ?_
    refine lv_bipush (v := (20)) hx hb dX5_readDoor_21 (by decide) ?_
    refine lv_icmp_eq (tgt := 32) hx hb dX5_readDoor_23 (by decide) (fun c6 => ?_) (fun c6 => ?_)
    · replace h := if_t c6 h
      refine lv_aload_n hx hb dX5_readDoor_32 rfl (lv_at hl 1 rfl) ?_
      refine r_getRx C hP (iw hw (fi_5 hk0)) hk0 fl_X5_28 rfl (zw hw) dX5_readDoor_33 (fun x7 ex7 => ?_)
      replace h := vl_ok ex7 h
      obtain ⟨g8, h⟩ := gd_ok h
      refine lv_iconst (v := (0)) hx hb dX5_readDoor_36 (by decide) ?_
      refine lv_aload_n hx hb dX5_readDoor_37 rfl (lv_at hl 1 rfl) ?_
      refine r_getF (off := 1) C hP (iw hw (fi_5 hk0)) hk0 fl_X5_21 rfl rfl (zw hw) dX5_readDoor_38 ?_
      refine r_getI C hP (iw hw (ff_5_2 hk0).2) (ff_5_2 hk0).1 fl_X5_110 (Or.inl rfl) dX5_readDoor_41 ?_
      obtain ⟨r10, μ9, h11, h⟩ := bd_ok h
      refine go_i (callV_run (As := [.int (0 : Int32), .int (μ1.1 (v0 + 1) 2)]) (rest := []) C hl hP (hS.wide hJ).2.1 (iw hw (fi_2 g8)) g8 (m_X2_find l w hJ hw x7 (0 : Int32) (μ1.1 (v0 + 1) 2) g8 μ1 h11) mv_X5_113 ⟨rfl, rfl, by decide, by decide⟩ rfl rfl (Nat.le_of_ble_eq_true rfl) ⟨Nat.zero_le _, Nat.zero_le _⟩ dX5_readDoor_44) hS (fun H locs hP hS => ?_)
      refine lv_istore_n (lv' := [(2, .int r10), (1, .int x5), (0, .ref (w.2.2.1 v0))]) hx hb dX5_readDoor_47 rfl hl (by decide) rfl (fun ls hl => ?_)
      refine lv_iload_n hx hb dX5_readDoor_48 rfl (lv_at hl 0 rfl) ?_
      refine lv_iconst (v := (-1)) hx hb dX5_readDoor_49 (by decide) ?_
      refine lv_icmp_ne (tgt := 59) hx hb dX5_readDoor_50 (by decide) (fun c12 => ?_) (fun c12 => ?_)
      · replace h := if_f c12 h
        refine lv_iload_n hx hb dX5_readDoor_59 rfl (lv_at hl 1 rfl) ?_
        refine lv_iload_n hx hb dX5_readDoor_60 rfl (lv_at hl 0 rfl) ?_
        refine lv_icmp_ne (tgt := 70) hx hb dX5_readDoor_61 (by decide) (fun c13 => ?_) (fun c13 => ?_)
        · replace h := if_f c13 h
          refine lv_aload_n hx hb dX5_readDoor_70 rfl (lv_at hl 2 rfl) ?_
          refine r_getRx C hP (iw hw (fi_5 hk0)) hk0 fl_X5_28 rfl (zw hw) dX5_readDoor_71 (fun x14 ex14 => ?_)
          replace h := vl_ok ex14 h
          obtain ⟨g15, h⟩ := gd_ok h
          refine lv_iload_n hx hb dX5_readDoor_74 rfl (lv_at hl 1 rfl) ?_
          refine lv_iload_n hx hb dX5_readDoor_75 rfl (lv_at hl 0 rfl) ?_
          obtain ⟨r17, μ16, h18, h⟩ := bd_ok h
          refine go_i (callV_run (As := [.int x5, .int r10]) (rest := []) C hl hP (hS.wide hJ).2.1 (iw hw (fi_2 g15)) g15 (m_X2_leads l w hJ hw x14 x5 r10 g15 μ9 h18) mv_X5_124 ⟨rfl, rfl, by decide, by decide⟩ rfl rfl (Nat.le_of_ble_eq_true rfl) ⟨Nat.zero_le _, Nat.zero_le _⟩ dX5_readDoor_76) hS (fun H locs hP hS => ?_)
          refine lv_if_eq (tgt := 88) hx hb dX5_readDoor_79 (by decide) (fun c19 => ?_) (fun c19 => ?_)
          · replace h := if_t c19 h
            refine lv_iload_n hx hb dX5_readDoor_88 rfl (lv_at hl 1 rfl) ?_
            refine lv_if_lt (tgt := 134) hx hb dX5_readDoor_89 (by decide) (fun c20 => ?_) (fun c20 => ?_)
            · replace h := if_t c20 h
              exact J134  μ16  h _ _ _ hP hS (lv_sub hl [2] rfl)
            · replace h := if_f c20 h
              refine lv_iload_n hx hb dX5_readDoor_92 rfl (lv_at hl 1 rfl) ?_
              refine lv_bipush (v := (6)) hx hb dX5_readDoor_93 (by decide) ?_
              refine lv_icmp_ge (tgt := 134) hx hb dX5_readDoor_95 (by decide) (fun c21 => ?_) (fun c21 => ?_)
              · replace h := if_t c21 h
                exact J134  μ16  h _ _ _ hP hS (lv_sub hl [2] rfl)
              · replace h := if_f c21 h
                refine lv_iload_n hx hb dX5_readDoor_98 rfl (lv_at hl 0 rfl) ?_
                refine lv_bipush (v := (6)) hx hb dX5_readDoor_99 (by decide) ?_
                refine lv_icmp_ge (tgt := 134) hx hb dX5_readDoor_101 (by decide) (fun c22 => ?_) (fun c22 => ?_)
                · replace h := if_t c22 h
                  exact J134  μ16  h _ _ _ hP hS (lv_sub hl [2] rfl)
                · replace h := if_f c22 h
                  refine lv_aload_n hx hb dX5_readDoor_104 rfl (lv_at hl 2 rfl) ?_
                  refine r_getRx C hP (iw hw (fi_5 hk0)) hk0 fl_X5_28 rfl (zw hw) dX5_readDoor_105 (fun x23 ex23 => ?_)
                  replace h := vl_ok ex23 h
                  obtain ⟨g24, h⟩ := gd_ok h
                  refine r_getF (off := 7) C hP (iw hw (fi_2 g24)) g24 fl_X5_127 rfl rfl (zw hw) dX5_readDoor_108 ?_
                  refine lv_iload_n hx hb dX5_readDoor_111 rfl (lv_at hl 1 rfl) ?_
                  refine lv_dup2_11 hx hb dX5_readDoor_112 rfl rfl ?_
                  obtain ⟨g25, h⟩ := gd_ok h
                  refine r_iald C hP (iw hw (ff_2_4 g24).2) (ff_2_4 g24).1 g25 dX5_readDoor_113 ?_
                  refine lv_iconst (v := (1)) hx hb dX5_readDoor_114 (by decide) ?_
                  refine lv_iload_n hx hb dX5_readDoor_115 rfl (lv_at hl 0 rfl) ?_
                  refine r_ishl hx hb dX5_readDoor_116 ?_
                  refine lv_ior hx hb dX5_readDoor_117 ?_
                  obtain ⟨g27, h⟩ := gd_ok h
                  refine r_iast C hP hS (iw hw (ff_2_4 g24).2) (ff_2_4 g24).1 g27 dX5_readDoor_118 (fun H locs hP hS => ?_)
                  obtain ⟨μ26, eμ26, h⟩ := vl_ex h
                  have hP : fP w μ26 H := by rw [eμ26]; exact hP
                  refine lv_aload_n hx hb dX5_readDoor_119 rfl (lv_at hl 2 rfl) ?_
                  refine r_getRx C hP (iw hw (fi_5 hk0)) hk0 fl_X5_28 rfl (zw hw) dX5_readDoor_120 (fun x28 ex28 => ?_)
                  replace h := vl_ok ex28 h
                  obtain ⟨g29, h⟩ := gd_ok h
                  refine r_getF (off := 7) C hP (iw hw (fi_2 g29)) g29 fl_X5_127 rfl rfl (zw hw) dX5_readDoor_123 ?_
                  refine lv_iload_n hx hb dX5_readDoor_126 rfl (lv_at hl 0 rfl) ?_
                  refine lv_dup2_11 hx hb dX5_readDoor_127 rfl rfl ?_
                  obtain ⟨g30, h⟩ := gd_ok h
                  refine r_iald C hP (iw hw (ff_2_4 g29).2) (ff_2_4 g29).1 g30 dX5_readDoor_128 ?_
                  refine lv_iconst (v := (1)) hx hb dX5_readDoor_129 (by decide) ?_
                  refine lv_iload_n hx hb dX5_readDoor_130 rfl (lv_at hl 1 rfl) ?_
                  refine r_ishl hx hb dX5_readDoor_131 ?_
                  refine lv_ior hx hb dX5_readDoor_132 ?_
                  obtain ⟨g32, h⟩ := gd_ok h
                  refine r_iast C hP hS (iw hw (ff_2_4 g29).2) (ff_2_4 g29).1 g32 dX5_readDoor_133 (fun H locs hP hS => ?_)
                  obtain ⟨μ31, eμ31, h⟩ := vl_ex h
                  have hP : fP w μ31 H := by rw [eμ31]; exact hP
                  exact J134  μ31  h _ _ _ hP hS (lv_sub hl [2] rfl)
          · replace h := if_f c19 h
            refine lv_aload_n hx hb dX5_readDoor_82 rfl (lv_at hl 2 rfl) ?_
            refine lv_iconst (v := (3)) hx hb dX5_readDoor_83 (by decide) ?_
            obtain ⟨r34, μ33, h35, h⟩ := bd_ok h
            refine go_i (callV_run (As := [.int (3 : Int32)]) (rest := []) C hl hP (hS.wide hJ).2.1 (iw hw (fi_5 hk0)) hk0 (m_X5_fail l w hJ hw v0 (3 : Int32) hk0 μ16 h35) mv_X5_59 ⟨rfl, rfl, by decide, by decide⟩ rfl rfl (Nat.le_of_ble_eq_true rfl) ⟨Nat.zero_le _, Nat.zero_le _⟩ dX5_readDoor_84) hS (fun H locs hP hS => ?_)
            exact r_zret C hr hP hS h dX5_readDoor_87
        · replace h := if_t c13 h
          refine lv_aload_n hx hb dX5_readDoor_64 rfl (lv_at hl 2 rfl) ?_
          refine lv_iconst (v := (5)) hx hb dX5_readDoor_65 (by decide) ?_
          obtain ⟨r37, μ36, h38, h⟩ := bd_ok h
          refine go_i (callV_run (As := [.int (5 : Int32)]) (rest := []) C hl hP (hS.wide hJ).2.1 (iw hw (fi_5 hk0)) hk0 (m_X5_fail l w hJ hw v0 (5 : Int32) hk0 μ9 h38) mv_X5_59 ⟨rfl, rfl, by decide, by decide⟩ rfl rfl (Nat.le_of_ble_eq_true rfl) ⟨Nat.zero_le _, Nat.zero_le _⟩ dX5_readDoor_66) hS (fun H locs hP hS => ?_)
          exact r_zret C hr hP hS h dX5_readDoor_69
      · replace h := if_t c12 h
        refine lv_aload_n hx hb dX5_readDoor_53 rfl (lv_at hl 2 rfl) ?_
        refine lv_iconst (v := (4)) hx hb dX5_readDoor_54 (by decide) ?_
        obtain ⟨r40, μ39, h41, h⟩ := bd_ok h
        refine go_i (callV_run (As := [.int (4 : Int32)]) (rest := []) C hl hP (hS.wide hJ).2.1 (iw hw (fi_5 hk0)) hk0 (m_X5_fail l w hJ hw v0 (4 : Int32) hk0 μ9 h41) mv_X5_59 ⟨rfl, rfl, by decide, by decide⟩ rfl rfl (Nat.le_of_ble_eq_true rfl) ⟨Nat.zero_le _, Nat.zero_le _⟩ dX5_readDoor_55) hS (fun H locs hP hS => ?_)
        exact r_zret C hr hP hS h dX5_readDoor_58
    · replace h := if_f c6 h
      refine lv_aload_n hx hb dX5_readDoor_26 rfl (lv_at hl 1 rfl) ?_
      refine lv_iconst (v := (1)) hx hb dX5_readDoor_27 (by decide) ?_
      obtain ⟨r43, μ42, h44, h⟩ := bd_ok h
      refine go_i (callV_run (As := [.int (1 : Int32)]) (rest := []) C hl hP (hS.wide hJ).2.1 (iw hw (fi_5 hk0)) hk0 (m_X5_fail l w hJ hw v0 (1 : Int32) hk0 μ1 h44) mv_X5_59 ⟨rfl, rfl, by decide, by decide⟩ rfl rfl (Nat.le_of_ble_eq_true rfl) ⟨Nat.zero_le _, Nat.zero_le _⟩ dX5_readDoor_28) hS (fun H locs hP hS => ?_)
      exact r_zret C hr hP hS h dX5_readDoor_31
  · replace h := if_t c4 h
    refine lv_iconst (v := (0)) hx hb dX5_readDoor_7 (by decide) ?_
    exact r_zret C hr hP hS h dX5_readDoor_8

def f_X5_readNumber (v0 : Nat) (v1 : Int32) (μ : fMem) : Option (Int32 × fMem) :=
  if (μ.1 (v0 + 1) 0) = (21 : Int32) then if (μ.1 (v0 + 1) 2) ≤ v1 then vl (sI μ v0 4 (μ.1 (v0 + 1) 2)) fun μ3 => bd (f_X9_next (v0 + 1) μ3) fun r5 μ4 => gd (bl (1 : Int32)) (some ((1 : Int32), μ4)) else bd (f_X5_fail v0 (2 : Int32) μ) fun r8 μ7 => gd (bl r8) (some (r8, μ7)) else bd (f_X5_fail v0 (1 : Int32) μ) fun r11 μ10 => gd (bl r11) (some (r11, μ10))
def rm_X5_readNumber : Room := { frames := 1, cells := 0, slots := 0, locals := 21 }
set_option maxHeartbeats 4000000 in
set_option maxRecDepth 100000 in
theorem m_X5_readNumber (l : Launch) (w : fW) (hJ : fJ w) (hw : w.2.2.2 = sd 0) (v0 : Nat) (v1 : Int32) (hk0 : kd v0 = (4, 5)) (μ : fMem) {r : Int32} {μr : fMem} (h : f_X5_readNumber v0 v1 μ = some (r, μr)) : Met l yX5_readNumber (.code yX5_readNumber cX5_readNumber 2 (some .boolean) :: gw) rm_X5_readNumber (fPc w [.ref (w.2.2.1 v0), .int v1] μ) (fQi w r μr) 0 0 (fA w) := by
  refine met_of hJ (by decide) ?_ (Nat.le_of_ble_eq_true rfl)
  generalize ([.ref (w.2.2.1 v0), .int v1] : List Value).toArray = args
  intro p e s m below meth c ls C hr hP hl hS
  obtain ⟨hx, hb, hml, hown, hts, hK, -, hlk, hT⟩ := id C
  have hl : lv_has ls 2 [(0, .ref (w.2.2.1 v0)), (1, .int v1)] := hl
  unfold f_X5_readNumber at h
  refine lv_aload_n hx hb dX5_readNumber_0 rfl (lv_at hl 0 rfl) ?_
  refine r_getF (off := 1) C hP (iw hw (fi_5 hk0)) hk0 fl_X5_21 rfl rfl (zw hw) dX5_readNumber_1 ?_
  refine r_getI C hP (iw hw (ff_5_2 hk0).2) (ff_5_2 hk0).1 fl_X5_52 (Or.inl rfl) dX5_readNumber_4 ?_
  refine lv_bipush (v := (21)) hx hb dX5_readNumber_7 (by decide) ?_
  refine lv_icmp_eq (tgt := 18) hx hb dX5_readNumber_9 (by decide) (fun c1 => ?_) (fun c1 => ?_)
  · replace h := if_t c1 h
    refine lv_aload_n hx hb dX5_readNumber_18 rfl (lv_at hl 0 rfl) ?_
    refine r_getF (off := 1) C hP (iw hw (fi_5 hk0)) hk0 fl_X5_21 rfl rfl (zw hw) dX5_readNumber_19 ?_
    refine r_getI C hP (iw hw (ff_5_2 hk0).2) (ff_5_2 hk0).1 fl_X5_110 (Or.inl rfl) dX5_readNumber_22 ?_
    refine lv_iload_n hx hb dX5_readNumber_25 rfl (lv_at hl 1 rfl) ?_
    refine lv_icmp_le (tgt := 35) hx hb dX5_readNumber_26 (by decide) (fun c2 => ?_) (fun c2 => ?_)
    · replace h := if_t c2 h
      refine lv_aload_n hx hb dX5_readNumber_35 rfl (lv_at hl 0 rfl) ?_
      refine lv_aload_n hx hb dX5_readNumber_36 rfl (lv_at hl 0 rfl) ?_
      refine r_getF (off := 1) C hP (iw hw (fi_5 hk0)) hk0 fl_X5_21 rfl rfl (zw hw) dX5_readNumber_37 ?_
      refine r_getI C hP (iw hw (ff_5_2 hk0).2) (ff_5_2 hk0).1 fl_X5_110 (Or.inl rfl) dX5_readNumber_40 ?_
      refine r_putI C hP hS (iw hw (fi_5 hk0)) hk0 fp_X5_32 rfl dX5_readNumber_43 (fun H locs hP hS => ?_)
      obtain ⟨μ3, eμ3, h⟩ := vl_ex h
      have hP : fP w μ3 H := by rw [eμ3]; exact hP
      refine lv_aload_n hx hb dX5_readNumber_46 rfl (lv_at hl 0 rfl) ?_
      refine r_getF (off := 1) C hP (iw hw (fi_5 hk0)) hk0 fl_X5_21 rfl rfl (zw hw) dX5_readNumber_47 ?_
      obtain ⟨r5, μ4, h6, h⟩ := bd_ok h
      refine go_v (callV_run (As := []) (rest := []) C hl hP (hS.wide hJ).2.1 (iw hw (ff_5_2 hk0).2) (ff_5_2 hk0).1 (m_X9_next l w hJ hw (v0 + 1) (ff_5_2 hk0).1 μ3 h6) mv_X5_66 ⟨rfl, rfl, by decide, by decide⟩ rfl rfl (Nat.le_of_ble_eq_true rfl) ⟨Nat.zero_le _, Nat.zero_le _⟩ dX5_readNumber_50) hS (fun H locs hP hS => ?_)
      refine lv_iconst (v := (1)) hx hb dX5_readNumber_53 (by decide) ?_
      exact r_zret C hr hP hS h dX5_readNumber_54
    · replace h := if_f c2 h
      refine lv_aload_n hx hb dX5_readNumber_29 rfl (lv_at hl 0 rfl) ?_
      refine lv_iconst (v := (2)) hx hb dX5_readNumber_30 (by decide) ?_
      obtain ⟨r8, μ7, h9, h⟩ := bd_ok h
      refine go_i (callV_run (As := [.int (2 : Int32)]) (rest := []) C hl hP (hS.wide hJ).2.1 (iw hw (fi_5 hk0)) hk0 (m_X5_fail l w hJ hw v0 (2 : Int32) hk0 μ h9) mv_X5_59 ⟨rfl, rfl, by decide, by decide⟩ rfl rfl (Nat.le_of_ble_eq_true rfl) ⟨Nat.zero_le _, Nat.zero_le _⟩ dX5_readNumber_31) hS (fun H locs hP hS => ?_)
      exact r_zret C hr hP hS h dX5_readNumber_34
  · replace h := if_f c1 h
    refine lv_aload_n hx hb dX5_readNumber_12 rfl (lv_at hl 0 rfl) ?_
    refine lv_iconst (v := (1)) hx hb dX5_readNumber_13 (by decide) ?_
    obtain ⟨r11, μ10, h12, h⟩ := bd_ok h
    refine go_i (callV_run (As := [.int (1 : Int32)]) (rest := []) C hl hP (hS.wide hJ).2.1 (iw hw (fi_5 hk0)) hk0 (m_X5_fail l w hJ hw v0 (1 : Int32) hk0 μ h12) mv_X5_59 ⟨rfl, rfl, by decide, by decide⟩ rfl rfl (Nat.le_of_ble_eq_true rfl) ⟨Nat.zero_le _, Nat.zero_le _⟩ dX5_readNumber_14) hS (fun H locs hP hS => ?_)
    exact r_zret C hr hP hS h dX5_readNumber_17

def f_X5_readInto (v0 : Nat) (v1 : Nat) (v2 : Int32) (v3 : Int32) (μ : fMem) : Option (Int32 × fMem) :=
  bd (f_X5_readNumber v0 v3 μ) fun r2 μ1 => if r2 = 0 then gd (bl (0 : Int32)) (some ((0 : Int32), μ1)) else if v2 < 0 then gd (bl (1 : Int32)) (some ((1 : Int32), μ1)) else if (Int32.ofNat (kd v1).2) ≤ v2 then gd (bl (1 : Int32)) (some ((1 : Int32), μ1)) else gd (ixo v2 (kd v1).2) (vl (sI μ1 v1 (Int32.toNatClampNeg v2) (μ1.1 v0 4)) fun μ7 => gd (bl (1 : Int32)) (some ((1 : Int32), μ7)))
def rm_X5_readInto : Room := { frames := 2, cells := 0, slots := 0, locals := 42 }
set_option maxHeartbeats 4000000 in
set_option maxRecDepth 100000 in
theorem m_X5_readInto (l : Launch) (w : fW) (hJ : fJ w) (hw : w.2.2.2 = sd 0) (v0 : Nat) (v1 : Nat) (v2 : Int32) (v3 : Int32) (hk0 : kd v0 = (4, 5)) (hk1 : kd v1 = (0, (kd v1).2)) (hi1 : inW w.2.2.2 v1) (μ : fMem) {r : Int32} {μr : fMem} (h : f_X5_readInto v0 v1 v2 v3 μ = some (r, μr)) : Met l yX5_readInto (.code yX5_readInto cX5_readInto 4 (some .boolean) :: gw) rm_X5_readInto (fPc w [.ref (w.2.2.1 v0), .ref (w.2.2.1 v1), .int v2, .int v3] μ) (fQi w r μr) 0 0 (fA w) := by
  refine met_of hJ (by decide) ?_ (Nat.le_of_ble_eq_true rfl)
  generalize ([.ref (w.2.2.1 v0), .ref (w.2.2.1 v1), .int v2, .int v3] : List Value).toArray = args
  intro p e s m below meth c ls C hr hP hl hS
  obtain ⟨hx, hb, hml, hown, hts, hK, -, hlk, hT⟩ := id C
  have hl : lv_has ls 4 [(0, .ref (w.2.2.1 v0)), (1, .ref (w.2.2.1 v1)), (2, .int v2), (3, .int v3)] := hl
  unfold f_X5_readInto at h
  refine lv_aload_n hx hb dX5_readInto_0 rfl (lv_at hl 0 rfl) ?_
  refine lv_iload_n hx hb dX5_readInto_1 rfl (lv_at hl 3 rfl) ?_
  obtain ⟨r2, μ1, h3, h⟩ := bd_ok h
  refine go_i (callV_run (As := [.int v3]) (rest := []) C hl hP (hS.wide hJ).2.1 (iw hw (fi_5 hk0)) hk0 (m_X5_readNumber l w hJ hw v0 v3 hk0 μ h3) mv_X5_107 ⟨rfl, rfl, by decide, by decide⟩ rfl rfl (Nat.le_of_ble_eq_true rfl) ⟨Nat.zero_le _, Nat.zero_le _⟩ dX5_readInto_2) hS (fun H locs hP hS => ?_)
  refine lv_if_ne (tgt := 10) hx hb dX5_readInto_5 (by decide) (fun c4 => ?_) (fun c4 => ?_)
  · replace h := if_f c4 h
    refine lv_iload_n hx hb dX5_readInto_10 rfl (lv_at hl 2 rfl) ?_
    refine lv_if_lt (tgt := 27) hx hb dX5_readInto_11 (by decide) (fun c5 => ?_) (fun c5 => ?_)
    · replace h := if_t c5 h
      refine lv_iconst (v := (1)) hx hb dX5_readInto_27 (by decide) ?_
      exact r_zret C hr hP hS h dX5_readInto_28
    · replace h := if_f c5 h
      refine lv_iload_n hx hb dX5_readInto_14 rfl (lv_at hl 2 rfl) ?_
      refine lv_aload_n hx hb dX5_readInto_15 rfl (lv_at hl 1 rfl) ?_
      refine r_alen C hP hi1 (Or.inl hk1) rfl dX5_readInto_16 ?_
      refine lv_icmp_ge (tgt := 27) hx hb dX5_readInto_17 (by decide) (fun c6 => ?_) (fun c6 => ?_)
      · replace h := if_t c6 h
        refine lv_iconst (v := (1)) hx hb dX5_readInto_27 (by decide) ?_
        exact r_zret C hr hP hS h dX5_readInto_28
      · replace h := if_f c6 h
        refine lv_aload_n hx hb dX5_readInto_20 rfl (lv_at hl 1 rfl) ?_
        refine lv_iload_n hx hb dX5_readInto_21 rfl (lv_at hl 2 rfl) ?_
        refine lv_aload_n hx hb dX5_readInto_22 rfl (lv_at hl 0 rfl) ?_
        refine r_getI C hP (iw hw (fi_5 hk0)) hk0 fl_X5_32 (Or.inl rfl) dX5_readInto_23 ?_
        obtain ⟨g8, h⟩ := gd_ok h
        refine r_iast C hP hS hi1 hk1 g8 dX5_readInto_26 (fun H locs hP hS => ?_)
        obtain ⟨μ7, eμ7, h⟩ := vl_ex h
        have hP : fP w μ7 H := by rw [eμ7]; exact hP
        refine lv_iconst (v := (1)) hx hb dX5_readInto_27 (by decide) ?_
        exact r_zret C hr hP hS h dX5_readInto_28
  · replace h := if_t c4 h
    refine lv_iconst (v := (0)) hx hb dX5_readInto_8 (by decide) ?_
    exact r_zret C hr hP hS h dX5_readInto_9

def f_X5_readThing_j41 (v0 : Nat) (v1 : Int32) (μ : fMem) : Option (Int32 × fMem) :=
  vl (μ.2.2 v0 3) fun x15 => gd (kd x15 = (4, 2)) (bd (f_X5_readInto v0 (x15 + 9) v1 (5 : Int32) μ) fun r18 μ17 => if r18 = 0 then gd (bl (0 : Int32)) (some ((0 : Int32), μ17)) else vl (μ17.2.2 v0 3) fun x21 => gd (kd x21 = (4, 2)) (bd (f_X5_readInto v0 (x21 + 10) v1 (9 : Int32) μ17) fun r24 μ23 => if r24 = 0 then gd (bl (0 : Int32)) (some ((0 : Int32), μ23)) else gd (bl (1 : Int32)) (some ((1 : Int32), μ23))))
def f_X5_readThing (v0 : Nat) (v1 : Int32) (μ : fMem) : Option (Int32 × fMem) :=
  bd (f_X5_readName v0 (2 : Int32) v1 μ) fun r2 μ1 => if r2 = 0 then gd (bl (0 : Int32)) (some ((0 : Int32), μ1)) else bd (f_X5_readRoom v0 μ1) fun r6 μ5 => if r6 = 0 then gd (bl (0 : Int32)) (some ((0 : Int32), μ5)) else if v1 < 0 then f_X5_readThing_j41 v0 v1 μ5 else if (8 : Int32) ≤ v1 then f_X5_readThing_j41 v0 v1 μ5 else vl (μ5.2.2 v0 3) fun x11 => gd (kd x11 = (4, 2)) (gd (ixo v1 8) (vl (sI μ5 (x11 + 8) (Int32.toNatClampNeg v1) (μ5.1 v0 4)) fun μ13 => f_X5_readThing_j41 v0 v1 μ13))
def rm_X5_readThing : Room := { frames := 3, cells := 0, slots := 0, locals := 66 }
set_option maxHeartbeats 4000000 in
set_option maxRecDepth 100000 in
theorem m_X5_readThing (l : Launch) (w : fW) (hJ : fJ w) (hw : w.2.2.2 = sd 0) (v0 : Nat) (v1 : Int32) (hk0 : kd v0 = (4, 5)) (μ : fMem) {r : Int32} {μr : fMem} (h : f_X5_readThing v0 v1 μ = some (r, μr)) : Met l yX5_readThing (.code yX5_readThing cX5_readThing 2 (some .boolean) :: gw) rm_X5_readThing (fPc w [.ref (w.2.2.1 v0), .int v1] μ) (fQi w r μr) 0 0 (fA w) := by
  refine met_of hJ (by decide) ?_ (Nat.le_of_ble_eq_true rfl)
  generalize ([.ref (w.2.2.1 v0), .int v1] : List Value).toArray = args
  intro p e s m below meth c ls C hr hP hl hS
  obtain ⟨hx, hb, hml, hown, hts, hK, -, hlk, hT⟩ := id C
  have hl : lv_has ls 2 [(0, .ref (w.2.2.1 v0)), (1, .int v1)] := hl
  unfold f_X5_readThing at h
  have J41 : ∀  (μ : fMem), f_X5_readThing_j41 v0 v1 μ = some (r, μr) → WW p l e rm_X5_readThing s m args below meth c (MQ below (fQi w r μr) args s 0 0 (fA w)) w μ 2 41 [] [(0, .ref (w.2.2.1 v0)), (1, .int v1)] := by
    intro  μ  h H locs ls hP hS hl
    unfold f_X5_readThing_j41 at h
    refine lv_aload_n hx hb dX5_readThing_41 rfl (lv_at hl 0 rfl) ?_
    refine lv_aload_n hx hb dX5_readThing_42 rfl (lv_at hl 0 rfl) ?_
    refine r_getRx C hP (iw hw (fi_5 hk0)) hk0 fl_X5_28 rfl (zw hw) dX5_readThing_43 (fun x15 ex15 => ?_)
    replace h := vl_ok ex15 h
    obtain ⟨g16, h⟩ := gd_ok h
    refine r_getF (off := 9) C hP (iw hw (fi_2 g16)) g16 fl_X5_133 rfl rfl (zw hw) dX5_readThing_46 ?_
    refine lv_iload_n hx hb dX5_readThing_49 rfl (lv_at hl 1 rfl) ?_
    refine lv_iconst (v := (5)) hx hb dX5_readThing_50 (by decide) ?_
    obtain ⟨r18, μ17, h19, h⟩ := bd_ok h
    refine go_i (callV_run (As := [.ref (w.2.2.1 (x15 + 9)), .int v1, .int (5 : Int32)]) (rest := []) C hl hP (hS.wide hJ).2.1 (iw hw (fi_5 hk0)) hk0 (m_X5_readInto l w hJ hw v0 (x15 + 9) v1 (5 : Int32) hk0 (karr (ff_2_6 g16).1) (iw hw (ff_2_6 g16).2) μ h19) mv_X5_102 ⟨rfl, rfl, by decide, by decide⟩ rfl rfl (Nat.le_of_ble_eq_true rfl) ⟨Nat.zero_le _, Nat.zero_le _⟩ dX5_readThing_51) hS (fun H locs hP hS => ?_)
    refine lv_if_eq (tgt := 78) hx hb dX5_readThing_54 (by decide) (fun c20 => ?_) (fun c20 => ?_)
    · replace h := if_t c20 h
      refine lv_iconst (v := (0)) hx hb dX5_readThing_78 (by decide) ?_
      exact r_zret C hr hP hS h dX5_readThing_79
    · replace h := if_f c20 h
      refine lv_aload_n hx hb dX5_readThing_57 rfl (lv_at hl 0 rfl) ?_
      refine lv_aload_n hx hb dX5_readThing_58 rfl (lv_at hl 0 rfl) ?_
      refine r_getRx C hP (iw hw (fi_5 hk0)) hk0 fl_X5_28 rfl (zw hw) dX5_readThing_59 (fun x21 ex21 => ?_)
      replace h := vl_ok ex21 h
      obtain ⟨g22, h⟩ := gd_ok h
      refine r_getF (off := 10) C hP (iw hw (fi_2 g22)) g22 fl_X5_136 rfl rfl (zw hw) dX5_readThing_62 ?_
      refine lv_iload_n hx hb dX5_readThing_65 rfl (lv_at hl 1 rfl) ?_
      refine lv_bipush (v := (9)) hx hb dX5_readThing_66 (by decide) ?_
      obtain ⟨r24, μ23, h25, h⟩ := bd_ok h
      refine go_i (callV_run (As := [.ref (w.2.2.1 (x21 + 10)), .int v1, .int (9 : Int32)]) (rest := []) C hl hP (hS.wide hJ).2.1 (iw hw (fi_5 hk0)) hk0 (m_X5_readInto l w hJ hw v0 (x21 + 10) v1 (9 : Int32) hk0 (karr (ff_2_7 g22).1) (iw hw (ff_2_7 g22).2) μ17 h25) mv_X5_102 ⟨rfl, rfl, by decide, by decide⟩ rfl rfl (Nat.le_of_ble_eq_true rfl) ⟨Nat.zero_le _, Nat.zero_le _⟩ dX5_readThing_68) hS (fun H locs hP hS => ?_)
      refine lv_if_eq (tgt := 78) hx hb dX5_readThing_71 (by decide) (fun c26 => ?_) (fun c26 => ?_)
      · replace h := if_t c26 h
        refine lv_iconst (v := (0)) hx hb dX5_readThing_78 (by decide) ?_
        exact r_zret C hr hP hS h dX5_readThing_79
      · replace h := if_f c26 h
        refine lv_iconst (v := (1)) hx hb dX5_readThing_74 (by decide) ?_
        refine lv_goto (tgt := 79) hx hb dX5_readThing_75 (by decide) ?_
        exact r_zret C hr hP hS h dX5_readThing_79
  refine lv_aload_n hx hb dX5_readThing_0 rfl (lv_at hl 0 rfl) ?_
  refine lv_iconst (v := (2)) hx hb dX5_readThing_1 (by decide) ?_
  refine lv_iload_n hx hb dX5_readThing_2 rfl (lv_at hl 1 rfl) ?_
  obtain ⟨r2, μ1, h3, h⟩ := bd_ok h
  refine go_i (callV_run (As := [.int (2 : Int32), .int v1]) (rest := []) C hl hP (hS.wide hJ).2.1 (iw hw (fi_5 hk0)) hk0 (m_X5_readName l w hJ hw v0 (2 : Int32) v1 hk0 μ h3) mv_X5_87 ⟨rfl, rfl, by decide, by decide⟩ rfl rfl (Nat.le_of_ble_eq_true rfl) ⟨Nat.zero_le _, Nat.zero_le _⟩ dX5_readThing_3) hS (fun H locs hP hS => ?_)
  refine lv_if_eq (tgt := 16) hx hb dX5_readThing_6 (by decide) (fun c4 => ?_) (fun c4 => ?_)
  · replace h := if_t c4 h
    refine lv_iconst (v := (0)) hx hb dX5_readThing_16 (by decide) ?_
    exact r_zret C hr hP hS h dX5_readThing_17
  · replace h := if_f c4 h
    refine lv_aload_n hx hb dX5_readThing_9 rfl (lv_at hl 0 rfl) ?_
    obtain ⟨r6, μ5, h7, h⟩ := bd_ok h
    refine go_i (callV_run (As := []) (rest := []) C hl hP (hS.wide hJ).2.1 (iw hw (fi_5 hk0)) hk0 (m_X5_readRoom l w hJ hw v0 hk0 μ1 h7) mv_X5_121 ⟨rfl, rfl, by decide, by decide⟩ rfl rfl (Nat.le_of_ble_eq_true rfl) ⟨Nat.zero_le _, Nat.zero_le _⟩ dX5_readThing_10) hS (fun H locs hP hS => ?_)
    refine lv_if_ne (tgt := 18) hx hb dX5_readThing_13 (by decide) (fun c8 => ?_) (fun c8 => ?_)
    · replace h := if_f c8 h
      refine lv_iload_n hx hb dX5_readThing_18 rfl (lv_at hl 1 rfl) ?_
      refine lv_if_lt (tgt := 41) hx hb dX5_readThing_19 (by decide) (fun c9 => ?_) (fun c9 => ?_)
      · replace h := if_t c9 h
        exact J41  μ5  h _ _ _ hP hS (lv_sub hl [0, 1] rfl)
      · replace h := if_f c9 h
        refine lv_iload_n hx hb dX5_readThing_22 rfl (lv_at hl 1 rfl) ?_
        refine lv_bipush (v := (8)) hx hb dX5_readThing_23 (by decide) ?_
        refine lv_icmp_ge (tgt := 41) hx hb dX5_readThing_25 (by decide) (fun c10 => ?_) (fun c10 => ?_)
        · replace h := if_t c10 h
          exact J41  μ5  h _ _ _ hP hS (lv_sub hl [0, 1] rfl)
        · replace h := if_f c10 h
          refine lv_aload_n hx hb dX5_readThing_28 rfl (lv_at hl 0 rfl) ?_
          refine r_getRx C hP (iw hw (fi_5 hk0)) hk0 fl_X5_28 rfl (zw hw) dX5_readThing_29 (fun x11 ex11 => ?_)
          replace h := vl_ok ex11 h
          obtain ⟨g12, h⟩ := gd_ok h
          refine r_getF (off := 8) C hP (iw hw (fi_2 g12)) g12 fl_X5_130 rfl rfl (zw hw) dX5_readThing_32 ?_
          refine lv_iload_n hx hb dX5_readThing_35 rfl (lv_at hl 1 rfl) ?_
          refine lv_aload_n hx hb dX5_readThing_36 rfl (lv_at hl 0 rfl) ?_
          refine r_getI C hP (iw hw (fi_5 hk0)) hk0 fl_X5_32 (Or.inl rfl) dX5_readThing_37 ?_
          obtain ⟨g14, h⟩ := gd_ok h
          refine r_iast C hP hS (iw hw (ff_2_5 g12).2) (ff_2_5 g12).1 g14 dX5_readThing_40 (fun H locs hP hS => ?_)
          obtain ⟨μ13, eμ13, h⟩ := vl_ex h
          have hP : fP w μ13 H := by rw [eμ13]; exact hP
          exact J41  μ13  h _ _ _ hP hS (lv_sub hl [0, 1] rfl)
    · replace h := if_t c8 h
      refine lv_iconst (v := (0)) hx hb dX5_readThing_16 (by decide) ?_
      exact r_zret C hr hP hS h dX5_readThing_17

def f_X5_readDead (v0 : Nat) (v1 : Int32) (μ : fMem) : Option (Int32 × fMem) :=
  bd (f_X5_readName v0 (3 : Int32) v1 μ) fun r2 μ1 => if r2 = 0 then gd (bl (0 : Int32)) (some ((0 : Int32), μ1)) else vl (μ1.2.2 v0 3) fun x5 => gd (kd x5 = (4, 2)) (bd (f_X5_readInto v0 (x5 + 11) v1 (9 : Int32) μ1) fun r8 μ7 => if r8 = 0 then gd (bl (0 : Int32)) (some ((0 : Int32), μ7)) else vl (μ7.2.2 v0 3) fun x11 => gd (kd x11 = (4, 2)) (bd (f_X5_readInto v0 (x11 + 12) v1 (5 : Int32) μ7) fun r14 μ13 => if r14 = 0 then gd (bl (0 : Int32)) (some ((0 : Int32), μ13)) else vl (μ13.2.2 v0 3) fun x17 => gd (kd x17 = (4, 2)) (bd (f_X5_readInto v0 (x17 + 13) v1 (1 : Int32) μ13) fun r20 μ19 => if r20 = 0 then gd (bl (0 : Int32)) (some ((0 : Int32), μ19)) else vl (μ19.2.2 v0 3) fun x23 => gd (kd x23 = (4, 2)) (bd (f_X5_readInto v0 (x23 + 14) v1 (100 : Int32) μ19) fun r26 μ25 => if r26 = 0 then gd (bl (0 : Int32)) (some ((0 : Int32), μ25)) else gd (bl (1 : Int32)) (some ((1 : Int32), μ25))))))
def rm_X5_readDead : Room := { frames := 3, cells := 0, slots := 0, locals := 66 }
set_option maxHeartbeats 4000000 in
set_option maxRecDepth 100000 in
theorem m_X5_readDead (l : Launch) (w : fW) (hJ : fJ w) (hw : w.2.2.2 = sd 0) (v0 : Nat) (v1 : Int32) (hk0 : kd v0 = (4, 5)) (μ : fMem) {r : Int32} {μr : fMem} (h : f_X5_readDead v0 v1 μ = some (r, μr)) : Met l yX5_readDead (.code yX5_readDead cX5_readDead 2 (some .boolean) :: gw) rm_X5_readDead (fPc w [.ref (w.2.2.1 v0), .int v1] μ) (fQi w r μr) 0 0 (fA w) := by
  refine met_of hJ (by decide) ?_ (Nat.le_of_ble_eq_true rfl)
  generalize ([.ref (w.2.2.1 v0), .int v1] : List Value).toArray = args
  intro p e s m below meth c ls C hr hP hl hS
  obtain ⟨hx, hb, hml, hown, hts, hK, -, hlk, hT⟩ := id C
  have hl : lv_has ls 2 [(0, .ref (w.2.2.1 v0)), (1, .int v1)] := hl
  unfold f_X5_readDead at h
  refine lv_aload_n hx hb dX5_readDead_0 rfl (lv_at hl 0 rfl) ?_
  refine lv_iconst (v := (3)) hx hb dX5_readDead_1 (by decide) ?_
  refine lv_iload_n hx hb dX5_readDead_2 rfl (lv_at hl 1 rfl) ?_
  obtain ⟨r2, μ1, h3, h⟩ := bd_ok h
  refine go_i (callV_run (As := [.int (3 : Int32), .int v1]) (rest := []) C hl hP (hS.wide hJ).2.1 (iw hw (fi_5 hk0)) hk0 (m_X5_readName l w hJ hw v0 (3 : Int32) v1 hk0 μ h3) mv_X5_87 ⟨rfl, rfl, by decide, by decide⟩ rfl rfl (Nat.le_of_ble_eq_true rfl) ⟨Nat.zero_le _, Nat.zero_le _⟩ dX5_readDead_3) hS (fun H locs hP hS => ?_)
  refine lv_if_eq (tgt := 79) hx hb dX5_readDead_6 (by decide) (fun c4 => ?_) (fun c4 => ?_)
  · replace h := if_t c4 h
    refine lv_iconst (v := (0)) hx hb dX5_readDead_79 (by decide) ?_
    exact r_zret C hr hP hS h dX5_readDead_80
  · replace h := if_f c4 h
    refine lv_aload_n hx hb dX5_readDead_9 rfl (lv_at hl 0 rfl) ?_
    refine lv_aload_n hx hb dX5_readDead_10 rfl (lv_at hl 0 rfl) ?_
    refine r_getRx C hP (iw hw (fi_5 hk0)) hk0 fl_X5_28 rfl (zw hw) dX5_readDead_11 (fun x5 ex5 => ?_)
    replace h := vl_ok ex5 h
    obtain ⟨g6, h⟩ := gd_ok h
    refine r_getF (off := 11) C hP (iw hw (fi_2 g6)) g6 fl_X5_139 rfl rfl (zw hw) dX5_readDead_14 ?_
    refine lv_iload_n hx hb dX5_readDead_17 rfl (lv_at hl 1 rfl) ?_
    refine lv_bipush (v := (9)) hx hb dX5_readDead_18 (by decide) ?_
    obtain ⟨r8, μ7, h9, h⟩ := bd_ok h
    refine go_i (callV_run (As := [.ref (w.2.2.1 (x5 + 11)), .int v1, .int (9 : Int32)]) (rest := []) C hl hP (hS.wide hJ).2.1 (iw hw (fi_5 hk0)) hk0 (m_X5_readInto l w hJ hw v0 (x5 + 11) v1 (9 : Int32) hk0 (karr (ff_2_8 g6).1) (iw hw (ff_2_8 g6).2) μ1 h9) mv_X5_102 ⟨rfl, rfl, by decide, by decide⟩ rfl rfl (Nat.le_of_ble_eq_true rfl) ⟨Nat.zero_le _, Nat.zero_le _⟩ dX5_readDead_20) hS (fun H locs hP hS => ?_)
    refine lv_if_eq (tgt := 79) hx hb dX5_readDead_23 (by decide) (fun c10 => ?_) (fun c10 => ?_)
    · replace h := if_t c10 h
      refine lv_iconst (v := (0)) hx hb dX5_readDead_79 (by decide) ?_
      exact r_zret C hr hP hS h dX5_readDead_80
    · replace h := if_f c10 h
      refine lv_aload_n hx hb dX5_readDead_26 rfl (lv_at hl 0 rfl) ?_
      refine lv_aload_n hx hb dX5_readDead_27 rfl (lv_at hl 0 rfl) ?_
      refine r_getRx C hP (iw hw (fi_5 hk0)) hk0 fl_X5_28 rfl (zw hw) dX5_readDead_28 (fun x11 ex11 => ?_)
      replace h := vl_ok ex11 h
      obtain ⟨g12, h⟩ := gd_ok h
      refine r_getF (off := 12) C hP (iw hw (fi_2 g12)) g12 fl_X5_142 rfl rfl (zw hw) dX5_readDead_31 ?_
      refine lv_iload_n hx hb dX5_readDead_34 rfl (lv_at hl 1 rfl) ?_
      refine lv_iconst (v := (5)) hx hb dX5_readDead_35 (by decide) ?_
      obtain ⟨r14, μ13, h15, h⟩ := bd_ok h
      refine go_i (callV_run (As := [.ref (w.2.2.1 (x11 + 12)), .int v1, .int (5 : Int32)]) (rest := []) C hl hP (hS.wide hJ).2.1 (iw hw (fi_5 hk0)) hk0 (m_X5_readInto l w hJ hw v0 (x11 + 12) v1 (5 : Int32) hk0 (karr (ff_2_9 g12).1) (iw hw (ff_2_9 g12).2) μ7 h15) mv_X5_102 ⟨rfl, rfl, by decide, by decide⟩ rfl rfl (Nat.le_of_ble_eq_true rfl) ⟨Nat.zero_le _, Nat.zero_le _⟩ dX5_readDead_36) hS (fun H locs hP hS => ?_)
      refine lv_if_eq (tgt := 79) hx hb dX5_readDead_39 (by decide) (fun c16 => ?_) (fun c16 => ?_)
      · replace h := if_t c16 h
        refine lv_iconst (v := (0)) hx hb dX5_readDead_79 (by decide) ?_
        exact r_zret C hr hP hS h dX5_readDead_80
      · replace h := if_f c16 h
        refine lv_aload_n hx hb dX5_readDead_42 rfl (lv_at hl 0 rfl) ?_
        refine lv_aload_n hx hb dX5_readDead_43 rfl (lv_at hl 0 rfl) ?_
        refine r_getRx C hP (iw hw (fi_5 hk0)) hk0 fl_X5_28 rfl (zw hw) dX5_readDead_44 (fun x17 ex17 => ?_)
        replace h := vl_ok ex17 h
        obtain ⟨g18, h⟩ := gd_ok h
        refine r_getF (off := 13) C hP (iw hw (fi_2 g18)) g18 fl_X5_145 rfl rfl (zw hw) dX5_readDead_47 ?_
        refine lv_iload_n hx hb dX5_readDead_50 rfl (lv_at hl 1 rfl) ?_
        refine lv_iconst (v := (1)) hx hb dX5_readDead_51 (by decide) ?_
        obtain ⟨r20, μ19, h21, h⟩ := bd_ok h
        refine go_i (callV_run (As := [.ref (w.2.2.1 (x17 + 13)), .int v1, .int (1 : Int32)]) (rest := []) C hl hP (hS.wide hJ).2.1 (iw hw (fi_5 hk0)) hk0 (m_X5_readInto l w hJ hw v0 (x17 + 13) v1 (1 : Int32) hk0 (karr (ff_2_10 g18).1) (iw hw (ff_2_10 g18).2) μ13 h21) mv_X5_102 ⟨rfl, rfl, by decide, by decide⟩ rfl rfl (Nat.le_of_ble_eq_true rfl) ⟨Nat.zero_le _, Nat.zero_le _⟩ dX5_readDead_52) hS (fun H locs hP hS => ?_)
        refine lv_if_eq (tgt := 79) hx hb dX5_readDead_55 (by decide) (fun c22 => ?_) (fun c22 => ?_)
        · replace h := if_t c22 h
          refine lv_iconst (v := (0)) hx hb dX5_readDead_79 (by decide) ?_
          exact r_zret C hr hP hS h dX5_readDead_80
        · replace h := if_f c22 h
          refine lv_aload_n hx hb dX5_readDead_58 rfl (lv_at hl 0 rfl) ?_
          refine lv_aload_n hx hb dX5_readDead_59 rfl (lv_at hl 0 rfl) ?_
          refine r_getRx C hP (iw hw (fi_5 hk0)) hk0 fl_X5_28 rfl (zw hw) dX5_readDead_60 (fun x23 ex23 => ?_)
          replace h := vl_ok ex23 h
          obtain ⟨g24, h⟩ := gd_ok h
          refine r_getF (off := 14) C hP (iw hw (fi_2 g24)) g24 fl_X5_148 rfl rfl (zw hw) dX5_readDead_63 ?_
          refine lv_iload_n hx hb dX5_readDead_66 rfl (lv_at hl 1 rfl) ?_
          refine lv_bipush (v := (100)) hx hb dX5_readDead_67 (by decide) ?_
          obtain ⟨r26, μ25, h27, h⟩ := bd_ok h
          refine go_i (callV_run (As := [.ref (w.2.2.1 (x23 + 14)), .int v1, .int (100 : Int32)]) (rest := []) C hl hP (hS.wide hJ).2.1 (iw hw (fi_5 hk0)) hk0 (m_X5_readInto l w hJ hw v0 (x23 + 14) v1 (100 : Int32) hk0 (karr (ff_2_11 g24).1) (iw hw (ff_2_11 g24).2) μ19 h27) mv_X5_102 ⟨rfl, rfl, by decide, by decide⟩ rfl rfl (Nat.le_of_ble_eq_true rfl) ⟨Nat.zero_le _, Nat.zero_le _⟩ dX5_readDead_69) hS (fun H locs hP hS => ?_)
          refine lv_if_eq (tgt := 79) hx hb dX5_readDead_72 (by decide) (fun c28 => ?_) (fun c28 => ?_)
          · replace h := if_t c28 h
            refine lv_iconst (v := (0)) hx hb dX5_readDead_79 (by decide) ?_
            exact r_zret C hr hP hS h dX5_readDead_80
          · replace h := if_f c28 h
            refine lv_iconst (v := (1)) hx hb dX5_readDead_75 (by decide) ?_
            refine lv_goto (tgt := 80) hx hb dX5_readDead_76 (by decide) ?_
            exact r_zret C hr hP hS h dX5_readDead_80

def f_X5_readRest (v0 : Nat) (v1 : Int32) (v2 : Int32) (μ : fMem) : Option (Int32 × fMem) :=
  if v1 = 0 then bd (f_X5_readName v0 (0 : Int32) v2 μ) fun r3 μ2 => gd (bl r3) (some (r3, μ2)) else if v1 = 1 then bd (f_X5_readDoor v0 μ) fun r7 μ6 => gd (bl r7) (some (r7, μ6)) else if v1 = 2 then bd (f_X5_readThing v0 v2 μ) fun r11 μ10 => gd (bl r11) (some (r11, μ10)) else if v1 = 3 then bd (f_X5_readDead v0 v2 μ) fun r15 μ14 => gd (bl r15) (some (r15, μ14)) else if v1 = 4 then vl (μ.2.2 v0 3) fun x18 => gd (kd x18 = (4, 2)) (bd (f_X5_readInto v0 (x18 + 15) v2 (99 : Int32) μ) fun r21 μ20 => gd (bl r21) (some (r21, μ20))) else bd (f_X5_readNumber v0 (99999 : Int32) μ) fun r24 μ23 => gd (bl r24) (some (r24, μ23))
def rm_X5_readRest : Room := { frames := 4, cells := 0, slots := 0, locals := 87 }
set_option maxHeartbeats 4000000 in
set_option maxRecDepth 100000 in
theorem m_X5_readRest (l : Launch) (w : fW) (hJ : fJ w) (hw : w.2.2.2 = sd 0) (v0 : Nat) (v1 : Int32) (v2 : Int32) (hk0 : kd v0 = (4, 5)) (μ : fMem) {r : Int32} {μr : fMem} (h : f_X5_readRest v0 v1 v2 μ = some (r, μr)) : Met l yX5_readRest (.code yX5_readRest cX5_readRest 3 (some .boolean) :: gw) rm_X5_readRest (fPc w [.ref (w.2.2.1 v0), .int v1, .int v2] μ) (fQi w r μr) 0 0 (fA w) := by
  refine met_of hJ (by decide) ?_ (Nat.le_of_ble_eq_true rfl)
  generalize ([.ref (w.2.2.1 v0), .int v1, .int v2] : List Value).toArray = args
  intro p e s m below meth c ls C hr hP hl hS
  obtain ⟨hx, hb, hml, hown, hts, hK, -, hlk, hT⟩ := id C
  have hl : lv_has ls 3 [(0, .ref (w.2.2.1 v0)), (1, .int v1), (2, .int v2)] := hl
  unfold f_X5_readRest at h
  refine lv_iload_n hx hb dX5_readRest_0 rfl (lv_at hl 1 rfl) ?_
  by_cases c1 : v1 = 0
  · replace h := if_t c1 h
    refine lv_tableIn (off := 35) (tgt := 36) hx hb dX5_readRest_1 (by rw [c1]; decide) (by rw [c1]; decide) (by rw [c1]; rfl) (by decide) ?_
    refine lv_aload_n hx hb dX5_readRest_36 rfl (lv_at hl 0 rfl) ?_
    refine lv_iconst (v := (0)) hx hb dX5_readRest_37 (by decide) ?_
    refine lv_iload_n hx hb dX5_readRest_38 rfl (lv_at hl 2 rfl) ?_
    obtain ⟨r3, μ2, h4, h⟩ := bd_ok h
    refine go_i (callV_run (As := [.int (0 : Int32), .int v2]) (rest := []) C hl hP (hS.wide hJ).2.1 (iw hw (fi_5 hk0)) hk0 (m_X5_readName l w hJ hw v0 (0 : Int32) v2 hk0 μ h4) mv_X5_87 ⟨rfl, rfl, by decide, by decide⟩ rfl rfl (Nat.le_of_ble_eq_true rfl) ⟨Nat.zero_le _, Nat.zero_le _⟩ dX5_readRest_39) hS (fun H locs hP hS => ?_)
    exact r_zret C hr hP hS h dX5_readRest_42
  replace h := if_f c1 h
  by_cases c5 : v1 = 1
  · replace h := if_t c5 h
    refine lv_tableIn (off := 42) (tgt := 43) hx hb dX5_readRest_1 (by rw [c5]; decide) (by rw [c5]; decide) (by rw [c5]; rfl) (by decide) ?_
    refine lv_aload_n hx hb dX5_readRest_43 rfl (lv_at hl 0 rfl) ?_
    obtain ⟨r7, μ6, h8, h⟩ := bd_ok h
    refine go_i (callV_run (As := []) (rest := []) C hl hP (hS.wide hJ).2.1 (iw hw (fi_5 hk0)) hk0 (m_X5_readDoor l w hJ hw v0 hk0 μ h8) mv_X5_90 ⟨rfl, rfl, by decide, by decide⟩ rfl rfl (Nat.le_of_ble_eq_true rfl) ⟨Nat.zero_le _, Nat.zero_le _⟩ dX5_readRest_44) hS (fun H locs hP hS => ?_)
    exact r_zret C hr hP hS h dX5_readRest_47
  replace h := if_f c5 h
  by_cases c9 : v1 = 2
  · replace h := if_t c9 h
    refine lv_tableIn (off := 47) (tgt := 48) hx hb dX5_readRest_1 (by rw [c9]; decide) (by rw [c9]; decide) (by rw [c9]; rfl) (by decide) ?_
    refine lv_aload_n hx hb dX5_readRest_48 rfl (lv_at hl 0 rfl) ?_
    refine lv_iload_n hx hb dX5_readRest_49 rfl (lv_at hl 2 rfl) ?_
    obtain ⟨r11, μ10, h12, h⟩ := bd_ok h
    refine go_i (callV_run (As := [.int v2]) (rest := []) C hl hP (hS.wide hJ).2.1 (iw hw (fi_5 hk0)) hk0 (m_X5_readThing l w hJ hw v0 v2 hk0 μ h12) mv_X5_93 ⟨rfl, rfl, by decide, by decide⟩ rfl rfl (Nat.le_of_ble_eq_true rfl) ⟨Nat.zero_le _, Nat.zero_le _⟩ dX5_readRest_50) hS (fun H locs hP hS => ?_)
    exact r_zret C hr hP hS h dX5_readRest_53
  replace h := if_f c9 h
  by_cases c13 : v1 = 3
  · replace h := if_t c13 h
    refine lv_tableIn (off := 53) (tgt := 54) hx hb dX5_readRest_1 (by rw [c13]; decide) (by rw [c13]; decide) (by rw [c13]; rfl) (by decide) ?_
    refine lv_aload_n hx hb dX5_readRest_54 rfl (lv_at hl 0 rfl) ?_
    refine lv_iload_n hx hb dX5_readRest_55 rfl (lv_at hl 2 rfl) ?_
    obtain ⟨r15, μ14, h16, h⟩ := bd_ok h
    refine go_i (callV_run (As := [.int v2]) (rest := []) C hl hP (hS.wide hJ).2.1 (iw hw (fi_5 hk0)) hk0 (m_X5_readDead l w hJ hw v0 v2 hk0 μ h16) mv_X5_96 ⟨rfl, rfl, by decide, by decide⟩ rfl rfl (Nat.le_of_ble_eq_true rfl) ⟨Nat.zero_le _, Nat.zero_le _⟩ dX5_readRest_56) hS (fun H locs hP hS => ?_)
    exact r_zret C hr hP hS h dX5_readRest_59
  replace h := if_f c13 h
  by_cases c17 : v1 = 4
  · replace h := if_t c17 h
    refine lv_tableIn (off := 59) (tgt := 60) hx hb dX5_readRest_1 (by rw [c17]; decide) (by rw [c17]; decide) (by rw [c17]; rfl) (by decide) ?_
    refine lv_aload_n hx hb dX5_readRest_60 rfl (lv_at hl 0 rfl) ?_
    refine lv_aload_n hx hb dX5_readRest_61 rfl (lv_at hl 0 rfl) ?_
    refine r_getRx C hP (iw hw (fi_5 hk0)) hk0 fl_X5_28 rfl (zw hw) dX5_readRest_62 (fun x18 ex18 => ?_)
    replace h := vl_ok ex18 h
    obtain ⟨g19, h⟩ := gd_ok h
    refine r_getF (off := 15) C hP (iw hw (fi_2 g19)) g19 fl_X5_99 rfl rfl (zw hw) dX5_readRest_65 ?_
    refine lv_iload_n hx hb dX5_readRest_68 rfl (lv_at hl 2 rfl) ?_
    refine lv_bipush (v := (99)) hx hb dX5_readRest_69 (by decide) ?_
    obtain ⟨r21, μ20, h22, h⟩ := bd_ok h
    refine go_i (callV_run (As := [.ref (w.2.2.1 (x18 + 15)), .int v2, .int (99 : Int32)]) (rest := []) C hl hP (hS.wide hJ).2.1 (iw hw (fi_5 hk0)) hk0 (m_X5_readInto l w hJ hw v0 (x18 + 15) v2 (99 : Int32) hk0 (karr (ff_2_12 g19).1) (iw hw (ff_2_12 g19).2) μ h22) mv_X5_102 ⟨rfl, rfl, by decide, by decide⟩ rfl rfl (Nat.le_of_ble_eq_true rfl) ⟨Nat.zero_le _, Nat.zero_le _⟩ dX5_readRest_71) hS (fun H locs hP hS => ?_)
    exact r_zret C hr hP hS h dX5_readRest_74
  replace h := if_f c17 h
  have ho : Int32.toInt v1 < 0 ∨ 4 < Int32.toInt v1 := tb_out _ _ _ (fun v h1 h2 => by
    rcases (show v = 0 ∨ v = 1 ∨ v = 2 ∨ v = 3 ∨ v = 4 by omega) with rfl | rfl | rfl | rfl | rfl
    · exact c1
    · exact c5
    · exact c9
    · exact c13
    · exact c17)
  refine lv_tableOut (tgt := 75) hx hb dX5_readRest_1 ho (by decide) ?_
  refine lv_aload_n hx hb dX5_readRest_75 rfl (lv_at hl 0 rfl) ?_
  refine lv_ldc hx hb hown (hts _ ct_X5_106) dX5_readRest_76 ?_
  obtain ⟨r24, μ23, h25, h⟩ := bd_ok h
  refine go_i (callV_run (As := [.int (99999 : Int32)]) (rest := []) C hl hP (hS.wide hJ).2.1 (iw hw (fi_5 hk0)) hk0 (m_X5_readNumber l w hJ hw v0 (99999 : Int32) hk0 μ h25) mv_X5_107 ⟨rfl, rfl, by decide, by decide⟩ rfl rfl (Nat.le_of_ble_eq_true rfl) ⟨Nat.zero_le _, Nat.zero_le _⟩ dX5_readRest_78) hS (fun H locs hP hS => ?_)
  exact r_zret C hr hP hS h dX5_readRest_81

def f_X5_readLine_j61 (t0 : Nat) (t1 : Int32) (μ : fMem) : Option (Int32 × fMem) :=
  bd (f_X5_fail t0 t1 μ) fun r34 μ33 => gd (bl r34) (some (r34, μ33))
def f_X5_readLine_j28 (v0 : Nat) (μ : fMem) : Option (Int32 × fMem) :=
  bd (f_X5_fail v0 (1 : Int32) μ) fun r37 μ36 => gd (bl r37) (some (r37, μ36))
def f_X5_readLine (v0 : Nat) (μ : fMem) : Option (Int32 × fMem) :=
  vl (μ.1 (v0 + 1) 0) fun x1 => if x1 = (6 : Int32) then bd (f_X5_readLaw v0 μ) fun r31 μ30 => gd (bl r31) (some (r31, μ30)) else if x1 < 0 then f_X5_readLine_j28 v0 μ else if x1 ≤ (5 : Int32) then vl (μ.2.2 v0 3) fun x5 => gd (kd x5 = (4, 2)) (bd (f_X2_told x5 x1 μ) fun r8 μ7 => gd (ixo x1 6) (if r8 < (mostT.getD (Int32.toNatClampNeg x1) 0) then bd (f_X9_next (v0 + 1) μ7) fun r13 μ12 => vl (μ12.2.2 v0 3) fun x15 => gd (kd x15 = (4, 2)) (bd (f_X2_told x15 x1 μ12) fun r18 μ17 => bd (f_X5_readRest v0 x1 r18 μ17) fun r21 μ20 => if r21 = 0 then gd (bl (0 : Int32)) (some ((0 : Int32), μ20)) else vl (μ20.2.2 v0 3) fun x24 => gd (kd x24 = (4, 2)) (gd (ixo x1 6) (gd (ixo x1 6) (vl (sI μ20 (x24 + 1) (Int32.toNatClampNeg x1) ((μ20.1 (x24 + 1) (Int32.toNatClampNeg x1)) + (1 : Int32))) fun μ27 => gd (bl (1 : Int32)) (some ((1 : Int32), μ27)))))) else if x1 = (5 : Int32) then f_X5_readLine_j61 v0 (3 : Int32) μ7 else f_X5_readLine_j61 v0 (2 : Int32) μ7)) else f_X5_readLine_j28 v0 μ
def rm_X5_readLine : Room := { frames := 5, cells := 0, slots := 0, locals := 113 }
set_option maxHeartbeats 4000000 in
set_option maxRecDepth 100000 in
theorem m_X5_readLine (l : Launch) (w : fW) (hJ : fJ w) (hw : w.2.2.2 = sd 0) (v0 : Nat) (hk0 : kd v0 = (4, 5)) (μ : fMem) {r : Int32} {μr : fMem} (h : f_X5_readLine v0 μ = some (r, μr)) : Met l yX5_readLine (.code yX5_readLine cX5_readLine 2 (some .boolean) :: gw) rm_X5_readLine (fPc w [.ref (w.2.2.1 v0)] μ) (fQi w r μr) 0 0 (fA w) := by
  refine met_of hJ (by decide) ?_ (Nat.le_of_ble_eq_true rfl)
  generalize ([.ref (w.2.2.1 v0)] : List Value).toArray = args
  intro p e s m below meth c ls C hr hP hl hS
  obtain ⟨hx, hb, hml, hown, hts, hK, -, hlk, hT⟩ := id C
  obtain ⟨⟨hZ, hTt⟩, -⟩ := id hT
  have hl : lv_has ls 2 [(0, .ref (w.2.2.1 v0))] := hl
  unfold f_X5_readLine at h
  have J61 : ∀ (t0 : Nat) (t1 : Int32) (μ : fMem) (_ : kd t0 = (4, 5)) (_ : inW w.2.2.2 t0), f_X5_readLine_j61 t0 t1 μ = some (r, μr) → WW p l e rm_X5_readLine s m args below meth c (MQ below (fQi w r μr) args s 0 0 (fA w)) w μ 2 61 [.int t1, .ref (w.2.2.1 t0)] [] := by
    intro t0 t1 μ kt0 it0 h H locs ls hP hS hl
    unfold f_X5_readLine_j61 at h
    obtain ⟨r34, μ33, h35, h⟩ := bd_ok h
    refine go_i (callV_run (As := [.int t1]) (rest := []) C hl hP (hS.wide hJ).2.1 it0 kt0 (m_X5_fail l w hJ hw t0 t1 kt0 μ h35) mv_X5_59 ⟨rfl, rfl, by decide, by decide⟩ rfl rfl (Nat.le_of_ble_eq_true rfl) ⟨Nat.zero_le _, Nat.zero_le _⟩ dX5_readLine_61) hS (fun H locs hP hS => ?_)
    exact r_zret C hr hP hS h dX5_readLine_64
  have J28 : ∀  (μ : fMem), f_X5_readLine_j28 v0 μ = some (r, μr) → WW p l e rm_X5_readLine s m args below meth c (MQ below (fQi w r μr) args s 0 0 (fA w)) w μ 2 28 [] [(0, .ref (w.2.2.1 v0))] := by
    intro  μ  h H locs ls hP hS hl
    unfold f_X5_readLine_j28 at h
    refine lv_aload_n hx hb dX5_readLine_28 rfl (lv_at hl 0 rfl) ?_
    refine lv_iconst (v := (1)) hx hb dX5_readLine_29 (by decide) ?_
    obtain ⟨r37, μ36, h38, h⟩ := bd_ok h
    refine go_i (callV_run (As := [.int (1 : Int32)]) (rest := []) C hl hP (hS.wide hJ).2.1 (iw hw (fi_5 hk0)) hk0 (m_X5_fail l w hJ hw v0 (1 : Int32) hk0 μ h38) mv_X5_59 ⟨rfl, rfl, by decide, by decide⟩ rfl rfl (Nat.le_of_ble_eq_true rfl) ⟨Nat.zero_le _, Nat.zero_le _⟩ dX5_readLine_30) hS (fun H locs hP hS => ?_)
    exact r_zret C hr hP hS h dX5_readLine_33
  refine lv_aload_n hx hb dX5_readLine_0 rfl (lv_at hl 0 rfl) ?_
  refine r_getF (off := 1) C hP (iw hw (fi_5 hk0)) hk0 fl_X5_21 rfl rfl (zw hw) dX5_readLine_1 ?_
  refine r_getI C hP (iw hw (ff_5_2 hk0).2) (ff_5_2 hk0).1 fl_X5_52 (Or.inl rfl) dX5_readLine_4 ?_
  refine lv_topi (fun x1 ex1 => ?_)
  replace h := vl_ok ex1 h
  refine lv_istore_n (lv' := [(1, .int x1), (0, .ref (w.2.2.1 v0))]) hx hb dX5_readLine_7 rfl hl (by decide) rfl (fun ls hl => ?_)
  refine lv_iload_n hx hb dX5_readLine_8 rfl (lv_at hl 0 rfl) ?_
  refine lv_bipush (v := (6)) hx hb dX5_readLine_9 (by decide) ?_
  refine lv_icmp_ne (tgt := 19) hx hb dX5_readLine_11 (by decide) (fun c2 => ?_) (fun c2 => ?_)
  · replace h := if_f c2 h
    refine lv_iload_n hx hb dX5_readLine_19 rfl (lv_at hl 0 rfl) ?_
    refine lv_if_lt (tgt := 28) hx hb dX5_readLine_20 (by decide) (fun c3 => ?_) (fun c3 => ?_)
    · replace h := if_t c3 h
      exact J28  μ  h _ _ _ hP hS (lv_sub hl [1] rfl)
    · replace h := if_f c3 h
      refine lv_iload_n hx hb dX5_readLine_23 rfl (lv_at hl 0 rfl) ?_
      refine lv_iconst (v := (5)) hx hb dX5_readLine_24 (by decide) ?_
      refine lv_icmp_le (tgt := 34) hx hb dX5_readLine_25 (by decide) (fun c4 => ?_) (fun c4 => ?_)
      · replace h := if_t c4 h
        refine lv_aload_n hx hb dX5_readLine_34 rfl (lv_at hl 1 rfl) ?_
        refine r_getRx C hP (iw hw (fi_5 hk0)) hk0 fl_X5_28 rfl (zw hw) dX5_readLine_35 (fun x5 ex5 => ?_)
        replace h := vl_ok ex5 h
        obtain ⟨g6, h⟩ := gd_ok h
        refine lv_iload_n hx hb dX5_readLine_38 rfl (lv_at hl 0 rfl) ?_
        obtain ⟨r8, μ7, h9, h⟩ := bd_ok h
        refine go_i (callV_run (As := [.int x1]) (rest := []) C hl hP (hS.wide hJ).2.1 (iw hw (fi_2 g6)) g6 (m_X2_told l w hJ hw x5 x1 g6 μ h9) mv_X5_73 ⟨rfl, rfl, by decide, by decide⟩ rfl rfl (Nat.le_of_ble_eq_true rfl) ⟨Nat.zero_le _, Nat.zero_le _⟩ dX5_readLine_39) hS (fun H locs hP hS => ?_)
        refine va_gets hx hb hZ (hS.wide hJ) hown (hts _ fs_X5_77) (fun _ h => h) dX5_readLine_42 ?_
        refine lv_iload_n hx hb dX5_readLine_45 rfl (lv_at hl 0 rfl) ?_
        obtain ⟨g10, h⟩ := gd_ok h
        refine va_ti (v := .int (mostT.getD (Int32.toNatClampNeg x1) 0)) hx hb hTt (hS.wide hJ) g10 rfl dX5_readLine_46 ?_
        refine lv_icmp_lt (tgt := 65) hx hb dX5_readLine_47 (by decide) (fun c11 => ?_) (fun c11 => ?_)
        · replace h := if_t c11 h
          refine lv_aload_n hx hb dX5_readLine_65 rfl (lv_at hl 1 rfl) ?_
          refine r_getF (off := 1) C hP (iw hw (fi_5 hk0)) hk0 fl_X5_21 rfl rfl (zw hw) dX5_readLine_66 ?_
          obtain ⟨r13, μ12, h14, h⟩ := bd_ok h
          refine go_v (callV_run (As := []) (rest := []) C hl hP (hS.wide hJ).2.1 (iw hw (ff_5_2 hk0).2) (ff_5_2 hk0).1 (m_X9_next l w hJ hw (v0 + 1) (ff_5_2 hk0).1 μ7 h14) mv_X5_66 ⟨rfl, rfl, by decide, by decide⟩ rfl rfl (Nat.le_of_ble_eq_true rfl) ⟨Nat.zero_le _, Nat.zero_le _⟩ dX5_readLine_69) hS (fun H locs hP hS => ?_)
          refine lv_aload_n hx hb dX5_readLine_72 rfl (lv_at hl 1 rfl) ?_
          refine lv_iload_n hx hb dX5_readLine_73 rfl (lv_at hl 0 rfl) ?_
          refine lv_aload_n hx hb dX5_readLine_74 rfl (lv_at hl 1 rfl) ?_
          refine r_getRx C hP (iw hw (fi_5 hk0)) hk0 fl_X5_28 rfl (zw hw) dX5_readLine_75 (fun x15 ex15 => ?_)
          replace h := vl_ok ex15 h
          obtain ⟨g16, h⟩ := gd_ok h
          refine lv_iload_n hx hb dX5_readLine_78 rfl (lv_at hl 0 rfl) ?_
          obtain ⟨r18, μ17, h19, h⟩ := bd_ok h
          refine go_i (callV_run (As := [.int x1]) (rest := [.int x1, .ref (w.2.2.1 v0)]) C hl hP (hS.wide hJ).2.1 (iw hw (fi_2 g16)) g16 (m_X2_told l w hJ hw x15 x1 g16 μ12 h19) mv_X5_73 ⟨rfl, rfl, by decide, by decide⟩ rfl rfl (Nat.le_of_ble_eq_true rfl) ⟨Nat.zero_le _, Nat.zero_le _⟩ dX5_readLine_79) hS (fun H locs hP hS => ?_)
          obtain ⟨r21, μ20, h22, h⟩ := bd_ok h
          refine go_i (callV_run (As := [.int x1, .int r18]) (rest := []) C hl hP (hS.wide hJ).2.1 (iw hw (fi_5 hk0)) hk0 (m_X5_readRest l w hJ hw v0 x1 r18 hk0 μ17 h22) mv_X5_80 ⟨rfl, rfl, by decide, by decide⟩ rfl rfl (Nat.le_of_ble_eq_true rfl) ⟨Nat.zero_le _, Nat.zero_le _⟩ dX5_readLine_82) hS (fun H locs hP hS => ?_)
          refine lv_if_ne (tgt := 90) hx hb dX5_readLine_85 (by decide) (fun c23 => ?_) (fun c23 => ?_)
          · replace h := if_f c23 h
            refine lv_aload_n hx hb dX5_readLine_90 rfl (lv_at hl 1 rfl) ?_
            refine r_getRx C hP (iw hw (fi_5 hk0)) hk0 fl_X5_28 rfl (zw hw) dX5_readLine_91 (fun x24 ex24 => ?_)
            replace h := vl_ok ex24 h
            obtain ⟨g25, h⟩ := gd_ok h
            refine r_getF (off := 1) C hP (iw hw (fi_2 g25)) g25 fl_X5_84 rfl rfl (zw hw) dX5_readLine_94 ?_
            refine lv_iload_n hx hb dX5_readLine_97 rfl (lv_at hl 0 rfl) ?_
            refine lv_dup2_11 hx hb dX5_readLine_98 rfl rfl ?_
            obtain ⟨g26, h⟩ := gd_ok h
            refine r_iald C hP (iw hw (ff_2_0 g25).2) (ff_2_0 g25).1 g26 dX5_readLine_99 ?_
            refine lv_iconst (v := (1)) hx hb dX5_readLine_100 (by decide) ?_
            refine lv_iadd hx hb dX5_readLine_101 ?_
            obtain ⟨g28, h⟩ := gd_ok h
            refine r_iast C hP hS (iw hw (ff_2_0 g25).2) (ff_2_0 g25).1 g28 dX5_readLine_102 (fun H locs hP hS => ?_)
            obtain ⟨μ27, eμ27, h⟩ := vl_ex h
            have hP : fP w μ27 H := by rw [eμ27]; exact hP
            refine lv_iconst (v := (1)) hx hb dX5_readLine_103 (by decide) ?_
            exact r_zret C hr hP hS h dX5_readLine_104
          · replace h := if_t c23 h
            refine lv_iconst (v := (0)) hx hb dX5_readLine_88 (by decide) ?_
            exact r_zret C hr hP hS h dX5_readLine_89
        · replace h := if_f c11 h
          refine lv_aload_n hx hb dX5_readLine_50 rfl (lv_at hl 1 rfl) ?_
          refine lv_iload_n hx hb dX5_readLine_51 rfl (lv_at hl 0 rfl) ?_
          refine lv_iconst (v := (5)) hx hb dX5_readLine_52 (by decide) ?_
          refine lv_icmp_ne (tgt := 60) hx hb dX5_readLine_53 (by decide) (fun c29 => ?_) (fun c29 => ?_)
          · replace h := if_f c29 h
            refine lv_iconst (v := (2)) hx hb dX5_readLine_60 (by decide) ?_
            exact J61 v0 (2 : Int32) μ7 hk0 (iw hw (fi_5 hk0)) h _ _ _ hP hS (lv_sub hl [] rfl)
          · replace h := if_t c29 h
            refine lv_iconst (v := (3)) hx hb dX5_readLine_56 (by decide) ?_
            refine lv_goto (tgt := 61) hx hb dX5_readLine_57 (by decide) ?_
            exact J61 v0 (3 : Int32) μ7 hk0 (iw hw (fi_5 hk0)) h _ _ _ hP hS (lv_sub hl [] rfl)
      · replace h := if_f c4 h
        exact J28  μ  h _ _ _ hP hS (lv_sub hl [1] rfl)
  · replace h := if_t c2 h
    refine lv_aload_n hx hb dX5_readLine_14 rfl (lv_at hl 1 rfl) ?_
    obtain ⟨r31, μ30, h32, h⟩ := bd_ok h
    refine go_i (callV_run (As := []) (rest := []) C hl hP (hS.wide hJ).2.1 (iw hw (fi_5 hk0)) hk0 (m_X5_readLaw l w hJ hw v0 hk0 μ h32) mv_X5_70 ⟨rfl, rfl, by decide, by decide⟩ rfl rfl (Nat.le_of_ble_eq_true rfl) ⟨Nat.zero_le _, Nat.zero_le _⟩ dX5_readLine_15) hS (fun H locs hP hS => ?_)
    exact r_zret C hr hP hS h dX5_readLine_18

def f_X5_read_L28 (v0 : Nat) (v3 : Int32) (μ : fMem) : Option (Nat × (Int32 × fMem)) :=
  if (700 : Int32) < v3 then some (1, (v3, μ)) else if (μ.1 (v0 + 1) 0) = (22 : Int32) then some (1, (v3, μ)) else bd (f_X5_readLine v0 μ) fun r14 μ13 => if r14 = 0 then some (2, (v3, μ13)) else if (μ13.1 (v0 + 1) 0) = (24 : Int32) then vl (μ13.2.2 v0 3) fun x18 => gd (kd x18 = (4, 2)) (vl (sI μ13 x18 1 ((μ13.1 x18 1) + (1 : Int32))) fun μ20 => bd (f_X9_next (v0 + 1) μ20) fun r22 μ21 => vl (v3 + (1 : Int32)) fun x24 => some (0, (x24, μ21))) else some (3, (v3, μ13))
def f_X5_read (v0 : Nat) (v1 : Nat) (v2 : Int32) (μ : fMem) : Option (Int32 × fMem) :=
  vl (sI μ v0 0 (0 : Int32)) fun μ1 => vl (sI μ1 v0 1 (-1 : Int32)) fun μ2 => vl (μ2.2.2 v0 3) fun x3 => gd (kd x3 = (4, 2)) (bd (f_X2_clear x3 μ2) fun r6 μ5 => bd (f_X9_cut (v0 + 1) v1 v2 μ5) fun r9 μ8 => bd (lpn (fun (q : Int32 × fMem) => f_X5_read_L28 v0 q.1 q.2) fuel ((0 : Int32), μ8)) fun t25 q26 => (fun (x27 : Int32) (μ28 : fMem) => if t25 = 0 then gd (bl (1 : Int32)) (some ((1 : Int32), μ28)) else if t25 = 1 then gd (bl (0 : Int32)) (some ((0 : Int32), μ28)) else bd (f_X5_fail v0 (1 : Int32) μ28) fun r30 μ29 => gd (bl r30) (some (r30, μ29))) q26.1 q26.2)
def rm_X5_read : Room := { frames := 6, cells := 0, slots := 0, locals := 144 }
set_option maxHeartbeats 4000000 in
set_option maxRecDepth 100000 in
theorem m_X5_read (l : Launch) (w : fW) (hJ : fJ w) (hw : w.2.2.2 = sd 0) (v0 : Nat) (v1 : Nat) (v2 : Int32) (hk0 : kd v0 = (4, 5)) (hk1 : kd v1 = (0, (kd v1).2)) (hi1 : inW w.2.2.2 v1) (μ : fMem) {r : Int32} {μr : fMem} (h : f_X5_read v0 v1 v2 μ = some (r, μr)) : Met l yX5_read (.code yX5_read cX5_read 4 (some .boolean) :: gw) rm_X5_read (fPc w [.ref (w.2.2.1 v0), .ref (w.2.2.1 v1), .int v2] μ) (fQi w r μr) 0 0 (fA w) := by
  refine met_of hJ (by decide) ?_ (Nat.le_of_ble_eq_true rfl)
  generalize ([.ref (w.2.2.1 v0), .ref (w.2.2.1 v1), .int v2] : List Value).toArray = args
  intro p e s m below meth c ls C hr hP hl hS
  obtain ⟨hx, hb, hml, hown, hts, hK, -, hlk, hT⟩ := id C
  have hl : lv_has ls 4 [(0, .ref (w.2.2.1 v0)), (1, .ref (w.2.2.1 v1)), (2, .int v2)] := hl
  unfold f_X5_read at h
  refine lv_aload_n hx hb dX5_read_0 rfl (lv_at hl 0 rfl) ?_
  refine lv_iconst (v := (0)) hx hb dX5_read_1 (by decide) ?_
  refine r_putI C hP hS (iw hw (fi_5 hk0)) hk0 fp_X5_9 rfl dX5_read_2 (fun H locs hP hS => ?_)
  obtain ⟨μ1, eμ1, h⟩ := vl_ex h
  have hP : fP w μ1 H := by rw [eμ1]; exact hP
  refine lv_aload_n hx hb dX5_read_5 rfl (lv_at hl 0 rfl) ?_
  refine lv_iconst (v := (-1)) hx hb dX5_read_6 (by decide) ?_
  refine r_putI C hP hS (iw hw (fi_5 hk0)) hk0 fp_X5_15 rfl dX5_read_7 (fun H locs hP hS => ?_)
  obtain ⟨μ2, eμ2, h⟩ := vl_ex h
  have hP : fP w μ2 H := by rw [eμ2]; exact hP
  refine lv_aload_n hx hb dX5_read_10 rfl (lv_at hl 0 rfl) ?_
  refine r_getRx C hP (iw hw (fi_5 hk0)) hk0 fl_X5_28 rfl (zw hw) dX5_read_11 (fun x3 ex3 => ?_)
  replace h := vl_ok ex3 h
  obtain ⟨g4, h⟩ := gd_ok h
  obtain ⟨r6, μ5, h7, h⟩ := bd_ok h
  refine go_v (callV_run (As := []) (rest := []) C hl hP (hS.wide hJ).2.1 (iw hw (fi_2 g4)) g4 (m_X2_clear l w hJ hw x3 g4 μ2 h7) mv_X5_45 ⟨rfl, rfl, by decide, by decide⟩ rfl rfl (Nat.le_of_ble_eq_true rfl) ⟨Nat.zero_le _, Nat.zero_le _⟩ dX5_read_14) hS (fun H locs hP hS => ?_)
  refine lv_aload_n hx hb dX5_read_17 rfl (lv_at hl 0 rfl) ?_
  refine r_getF (off := 1) C hP (iw hw (fi_5 hk0)) hk0 fl_X5_21 rfl rfl (zw hw) dX5_read_18 ?_
  refine lv_aload_n hx hb dX5_read_21 rfl (lv_at hl 1 rfl) ?_
  refine lv_iload_n hx hb dX5_read_22 rfl (lv_at hl 2 rfl) ?_
  obtain ⟨r9, μ8, h10, h⟩ := bd_ok h
  refine go_v (callV_run (As := [.ref (w.2.2.1 v1), .int v2]) (rest := []) C hl hP (hS.wide hJ).2.1 (iw hw (ff_5_2 hk0).2) (ff_5_2 hk0).1 (m_X9_cut l w hJ hw (v0 + 1) v1 v2 (ff_5_2 hk0).1 (karr hk1) hi1 μ5 h10) mv_X5_48 ⟨rfl, rfl, by decide, by decide⟩ rfl rfl (Nat.le_of_ble_eq_true rfl) ⟨Nat.zero_le _, Nat.zero_le _⟩ dX5_read_23) hS (fun H locs hP hS => ?_)
  refine lv_iconst (v := (0)) hx hb dX5_read_26 (by decide) ?_
  refine lv_istore_n (lv' := [(3, .int (0 : Int32)), (0, .ref (w.2.2.1 v0)), (1, .ref (w.2.2.1 v1)), (2, .int v2)]) hx hb dX5_read_27 rfl hl (by decide) rfl (fun ls hl => ?_)
  obtain ⟨t25, q26, h32, h⟩ := bd_ok h
  refine lpn_ind (b := (fun (q : Int32 × fMem) => f_X5_read_L28 v0 q.1 q.2)) (P := fun (q : Int32 × fMem) => WW p l e rm_X5_read s m args below meth c (MQ below (fQi w r μr) args s 0 0 (fA w)) w q.2 4 28 [] [(0, .ref (w.2.2.1 v0)), (3, .int q.1)]) (K := fun t (q : Int32 × fMem) => (t = 0 → WW p l e rm_X5_read s m args below meth c (MQ below (fQi w r μr) args s 0 0 (fA w)) w q.2 4 100 [] []) ∧ (t = 1 → WW p l e rm_X5_read s m args below meth c (MQ below (fQi w r μr) args s 0 0 (fA w)) w q.2 4 54 [] []) ∧ (t = 2 → WW p l e rm_X5_read s m args below meth c (MQ below (fQi w r μr) args s 0 0 (fA w)) w q.2 4 68 [] [(0, .ref (w.2.2.1 v0))])) ?_ fuel ((0 : Int32), μ8) t25 q26 h32 ?_ _ _ _ hP hS (lv_sub hl [1, 0] rfl)
  · intro q tz28 sz28 h hP0_28 hK0_28 H locs ls hP hS hl
    obtain ⟨v3, μ⟩ := q
    have hP : fP w μ H := hP
    have hl : lv_has ls 4 [(0, .ref (w.2.2.1 v0)), (3, .int v3)] := hl
    have h : f_X5_read_L28 v0 v3 μ = some (tz28, sz28) := h
    unfold f_X5_read_L28 at h
    refine lv_iload_n hx hb dX5_read_28 rfl (lv_at hl 1 rfl) ?_
    refine lv_sipush (v := (700)) hx hb dX5_read_29 (by decide) ?_
    refine lv_icmp_gt (tgt := 100) hx hb dX5_read_32 (by decide) (fun c11 => ?_) (fun c11 => ?_)
    · replace h := if_t c11 h
      obtain ⟨rfl, rfl⟩ := leaf h
      exact ((hK0_28 0 rfl).1 rfl) _ _ _ hP hS (lv_sub hl [] rfl)
    · replace h := if_f c11 h
      refine lv_aload_n hx hb dX5_read_35 rfl (lv_at hl 0 rfl) ?_
      refine r_getF (off := 1) C hP (iw hw (fi_5 hk0)) hk0 fl_X5_21 rfl rfl (zw hw) dX5_read_36 ?_
      refine r_getI C hP (iw hw (ff_5_2 hk0).2) (ff_5_2 hk0).1 fl_X5_52 (Or.inl rfl) dX5_read_39 ?_
      refine lv_bipush (v := (22)) hx hb dX5_read_42 (by decide) ?_
      refine lv_icmp_eq (tgt := 100) hx hb dX5_read_44 (by decide) (fun c12 => ?_) (fun c12 => ?_)
      · replace h := if_t c12 h
        obtain ⟨rfl, rfl⟩ := leaf h
        exact ((hK0_28 0 rfl).1 rfl) _ _ _ hP hS (lv_sub hl [] rfl)
      · replace h := if_f c12 h
        refine lv_aload_n hx hb dX5_read_47 rfl (lv_at hl 0 rfl) ?_
        obtain ⟨r14, μ13, h15, h⟩ := bd_ok h
        refine go_i (callV_run (As := []) (rest := []) C hl hP (hS.wide hJ).2.1 (iw hw (fi_5 hk0)) hk0 (m_X5_readLine l w hJ hw v0 hk0 μ h15) mv_X5_55 ⟨rfl, rfl, by decide, by decide⟩ rfl rfl (Nat.le_of_ble_eq_true rfl) ⟨Nat.zero_le _, Nat.zero_le _⟩ dX5_read_48) hS (fun H locs hP hS => ?_)
        refine lv_if_ne (tgt := 56) hx hb dX5_read_51 (by decide) (fun c16 => ?_) (fun c16 => ?_)
        · replace h := if_f c16 h
          refine lv_aload_n hx hb dX5_read_56 rfl (lv_at hl 0 rfl) ?_
          refine r_getF (off := 1) C hP (iw hw (fi_5 hk0)) hk0 fl_X5_21 rfl rfl (zw hw) dX5_read_57 ?_
          refine r_getI C hP (iw hw (ff_5_2 hk0).2) (ff_5_2 hk0).1 fl_X5_52 (Or.inl rfl) dX5_read_60 ?_
          refine lv_bipush (v := (24)) hx hb dX5_read_63 (by decide) ?_
          refine lv_icmp_eq (tgt := 74) hx hb dX5_read_65 (by decide) (fun c17 => ?_) (fun c17 => ?_)
          · replace h := if_t c17 h
            refine lv_aload_n hx hb dX5_read_74 rfl (lv_at hl 0 rfl) ?_
            refine r_getRx C hP (iw hw (fi_5 hk0)) hk0 fl_X5_28 rfl (zw hw) dX5_read_75 (fun x18 ex18 => ?_)
            replace h := vl_ok ex18 h
            obtain ⟨g19, h⟩ := gd_ok h
            refine lv_dup hx hb dX5_read_78 rfl ?_
            refine r_getI C hP (iw hw (fi_2 g19)) g19 fl_X5_63 (Or.inl rfl) dX5_read_79 ?_
            refine lv_iconst (v := (1)) hx hb dX5_read_82 (by decide) ?_
            refine lv_iadd hx hb dX5_read_83 ?_
            refine r_putI C hP hS (iw hw (fi_2 g19)) g19 fp_X5_63 rfl dX5_read_84 (fun H locs hP hS => ?_)
            obtain ⟨μ20, eμ20, h⟩ := vl_ex h
            have hP : fP w μ20 H := by rw [eμ20]; exact hP
            refine lv_aload_n hx hb dX5_read_87 rfl (lv_at hl 0 rfl) ?_
            refine r_getF (off := 1) C hP (iw hw (fi_5 hk0)) hk0 fl_X5_21 rfl rfl (zw hw) dX5_read_88 ?_
            obtain ⟨r22, μ21, h23, h⟩ := bd_ok h
            refine go_v (callV_run (As := []) (rest := []) C hl hP (hS.wide hJ).2.1 (iw hw (ff_5_2 hk0).2) (ff_5_2 hk0).1 (m_X9_next l w hJ hw (v0 + 1) (ff_5_2 hk0).1 μ20 h23) mv_X5_66 ⟨rfl, rfl, by decide, by decide⟩ rfl rfl (Nat.le_of_ble_eq_true rfl) ⟨Nat.zero_le _, Nat.zero_le _⟩ dX5_read_91) hS (fun H locs hP hS => ?_)
            obtain ⟨x24, ex24⟩ : ∃ y : Int32, y = (v3 + (1 : Int32)) := ⟨_, rfl⟩
            replace h := vl_ok ex24 h
            refine lv_iinc (v := x24) (lv' := [(3, .int x24), (0, .ref (w.2.2.1 v0))]) hx hb dX5_read_94 hl (k := 1) rfl (by rw [ex24]; rfl) (by decide) rfl (fun ls hl => ?_)
            refine lv_goto (tgt := 28) hx hb dX5_read_97 (by decide) ?_
            obtain ⟨rfl, rfl⟩ := leaf h
            exact hP0_28 rfl _ _ _ hP hS (lv_sub hl [1, 0] rfl)
          · replace h := if_f c17 h
            obtain ⟨rfl, rfl⟩ := leaf h
            exact ((hK0_28 2 rfl).2.2 rfl) _ _ _ hP hS (lv_sub hl [0] rfl)
        · replace h := if_t c16 h
          obtain ⟨rfl, rfl⟩ := leaf h
          exact ((hK0_28 1 rfl).2.1 rfl) _ _ _ hP hS (lv_sub hl [] rfl)
  · obtain ⟨x27, μ28⟩ := q26
    try dsimp only at h
    refine ⟨fun ht => ?_, fun ht => ?_, fun ht => ?_⟩
    · intro H locs ls hP hS hl
      have hP : fP w μ28 H := hP
      have hl : lv_has ls 4 [] := hl
      replace h := if_t ht h
      refine lv_iconst (v := (1)) hx hb dX5_read_100 (by decide) ?_
      exact r_zret C hr hP hS h dX5_read_101
    · intro H locs ls hP hS hl
      have hP : fP w μ28 H := hP
      have hl : lv_has ls 4 [] := hl
      replace h := if_f (by rw [ht]; decide) h
      replace h := if_t ht h
      refine lv_iconst (v := (0)) hx hb dX5_read_54 (by decide) ?_
      exact r_zret C hr hP hS h dX5_read_55
    · intro H locs ls hP hS hl
      have hP : fP w μ28 H := hP
      have hl : lv_has ls 4 [(0, .ref (w.2.2.1 v0))] := hl
      replace h := if_f (by rw [ht]; decide) h
      replace h := if_f (by rw [ht]; decide) h
      refine lv_aload_n hx hb dX5_read_68 rfl (lv_at hl 0 rfl) ?_
      refine lv_iconst (v := (1)) hx hb dX5_read_69 (by decide) ?_
      obtain ⟨r30, μ29, h31, h⟩ := bd_ok h
      refine go_i (callV_run (As := [.int (1 : Int32)]) (rest := []) C hl hP (hS.wide hJ).2.1 (iw hw (fi_5 hk0)) hk0 (m_X5_fail l w hJ hw v0 (1 : Int32) hk0 μ28 h31) mv_X5_59 ⟨rfl, rfl, by decide, by decide⟩ rfl rfl (Nat.le_of_ble_eq_true rfl) ⟨Nat.zero_le _, Nat.zero_le _⟩ dX5_read_70) hS (fun H locs hP hS => ?_)
      exact r_zret C hr hP hS h dX5_read_73

def f_X5_trade (v0 : Nat) (v1 : Nat) (μ : fMem) : Option (Nat × fMem) :=
  vl (μ.2.2 v0 3) fun x1 => gd (kd x1 = (4, 2)) (vl (sR μ v0 3 v1) fun μ3 => some (x1, μ3))
def rm_X5_trade : Room := { frames := 0, cells := 0, slots := 0, locals := 0 }
set_option maxHeartbeats 4000000 in
set_option maxRecDepth 100000 in
theorem m_X5_trade (l : Launch) (w : fW) (hJ : fJ w) (hw : w.2.2.2 = sd 0) (v0 : Nat) (v1 : Nat) (hk0 : kd v0 = (4, 5)) (hk1 : kd v1 = (4, 2)) (μ : fMem) {r : Nat} {μr : fMem} (h : f_X5_trade v0 v1 μ = some (r, μr)) : Met l yX5_trade (.code yX5_trade cX5_trade 3 (some (.object "DeadMonday$House")) :: gw) rm_X5_trade (fPc w [.ref (w.2.2.1 v0), .ref (w.2.2.1 v1)] μ) (fQr w r μr) 0 0 (fA w) := by
  refine met_of hJ (by decide) ?_ (Nat.le_of_ble_eq_true rfl)
  generalize ([.ref (w.2.2.1 v0), .ref (w.2.2.1 v1)] : List Value).toArray = args
  intro p e s m below meth c ls C hr hP hl hS
  obtain ⟨hx, hb, hml, hown, hts, hK, -, hlk, hT⟩ := id C
  have hl : lv_has ls 3 [(0, .ref (w.2.2.1 v0)), (1, .ref (w.2.2.1 v1))] := hl
  unfold f_X5_trade at h
  refine lv_aload_n hx hb dX5_trade_0 rfl (lv_at hl 0 rfl) ?_
  refine r_getRx C hP (iw hw (fi_5 hk0)) hk0 fl_X5_28 rfl (zw hw) dX5_trade_1 (fun x1 ex1 => ?_)
  replace h := vl_ok ex1 h
  obtain ⟨g2, h⟩ := gd_ok h
  refine lv_astore_n (lv' := [(2, .ref (w.2.2.1 x1)), (0, .ref (w.2.2.1 v0)), (1, .ref (w.2.2.1 v1))]) hx hb dX5_trade_4 rfl hl (by decide) rfl (fun ls hl => ?_)
  refine lv_aload_n hx hb dX5_trade_5 rfl (lv_at hl 1 rfl) ?_
  refine lv_aload_n hx hb dX5_trade_6 rfl (lv_at hl 2 rfl) ?_
  refine r_putR C hP hS (iw hw (fi_5 hk0)) hk0 fp_X5_28 rfl (zw hw) dX5_trade_7 (fun H locs hP hS => ?_)
  obtain ⟨μ3, eμ3, h⟩ := vl_ex h
  have hP : fP w μ3 H := by rw [eμ3]; exact hP
  refine lv_aload_n hx hb dX5_trade_10 rfl (lv_at hl 0 rfl) ?_
  exact r_aret C hr hP hS h dX5_trade_11

def f_X6_weigh_j107 (v0 : Nat) (v1 : Nat) (v2 : Nat) (v3 : Nat) (v4 : Int32) (x15 : Int32) (v6 : Int32) (t0 : Nat) (t1 : Int32) (μ : fMem) : Option (Nat × (Int32 × fMem)) :=
  gd (ixo t1 2) (gd (ixo x15 6) (bd (f_X0_likes v3 v6 v4 x15 μ) fun r32 μ31 => gd (ixo x15 6) (vl (sI μ31 (t0 + 1 + (Int32.toNatClampNeg t1)) (Int32.toNatClampNeg x15) ((μ.1 (t0 + 1 + (Int32.toNatClampNeg t1)) (Int32.toNatClampNeg x15)) + r32)) fun μ34 => vl (v6 + (1 : Int32)) fun x36 => some (0, (x36, μ34)))))
def f_X6_weigh_L78 (v0 : Nat) (v1 : Nat) (v2 : Nat) (v3 : Nat) (v4 : Int32) (x15 : Int32) (v6 : Int32) (μ : fMem) : Option (Nat × (Int32 × fMem)) :=
  bd (f_X2_told v1 (3 : Int32) μ) fun r24 μ23 => if r24 ≤ v6 then some (1, (v6, μ23)) else gd (ixo v6 6) (if (μ23.1 (v1 + 13) (Int32.toNatClampNeg v6)) = 0 then f_X6_weigh_j107 v0 v1 v2 v3 v4 x15 v6 (v0 + 2) (0 : Int32) μ23 else f_X6_weigh_j107 v0 v1 v2 v3 v4 x15 v6 (v0 + 2) (1 : Int32) μ23)
def f_X6_weigh_L31 (v0 : Nat) (v1 : Nat) (v2 : Nat) (v3 : Nat) (v4 : Int32) (μ : fMem) : Option (Nat × (Int32 × fMem)) :=
  bd (f_X2_told v1 (2 : Int32) μ) fun r11 μ10 => if r11 ≤ v4 then some (1, (v4, μ10)) else gd (ixo v4 8) (vl (μ10.1 (v2 + 1) (Int32.toNatClampNeg v4)) fun x15 => bd (f_X2_has v1 (0 : Int32) x15 μ10) fun r17 μ16 => if r17 = 0 then vl (v4 + (1 : Int32)) fun x43 => some (0, (x43, μ16)) else gd (ixo x15 6) (gd (ixo x15 6) (vl (sI μ16 (v0 + 5) (Int32.toNatClampNeg x15) ((μ16.1 (v0 + 5) (Int32.toNatClampNeg x15)) + (10 : Int32))) fun μ21 => bd (lpn (fun (q : Int32 × fMem) => f_X6_weigh_L78 v0 v1 v2 v3 v4 x15 q.1 q.2) fuel ((0 : Int32), μ21)) fun t37 q38 => (fun (x39 : Int32) (μ40 : fMem) => vl (v4 + (1 : Int32)) fun x41 => some (0, (x41, μ40))) q38.1 q38.2)))
def f_X6_weigh (v0 : Nat) (v1 : Nat) (v2 : Nat) (v3 : Nat) (μ : fMem) : Option (Unit × fMem) :=
  bd (f_J7_fill_53178 ((v0 + 2) + 1 + 0) (0 : Int32) μ) fun r2 μ1 => bd (f_J7_fill_53178 ((v0 + 2) + 1 + 1) (0 : Int32) μ1) fun r5 μ4 => bd (f_J7_fill_53178 (v0 + 5) (0 : Int32) μ4) fun r8 μ7 => bd (lpn (fun (q : Int32 × fMem) => f_X6_weigh_L31 v0 v1 v2 v3 q.1 q.2) fuel ((0 : Int32), μ7)) fun t44 q45 => (fun (x46 : Int32) (μ47 : fMem) => some ((), μ47)) q45.1 q45.2
def rm_X6_weigh : Room := { frames := 3, cells := 0, slots := 0, locals := 131 }
set_option maxHeartbeats 4000000 in
set_option maxRecDepth 100000 in
theorem m_X6_weigh (l : Launch) (w : fW) (hJ : fJ w) (hw : w.2.2.2 = sd 0) (v0 : Nat) (v1 : Nat) (v2 : Nat) (v3 : Nat) (hk0 : kd v0 = (4, 6)) (hk1 : kd v1 = (4, 2)) (hk2 : kd v2 = (4, 7)) (hk3 : kd v3 = (4, 0)) (μ : fMem) {r : Unit} {μr : fMem} (h : f_X6_weigh v0 v1 v2 v3 μ = some (r, μr)) : Met l yX6_weigh (.code yX6_weigh cX6_weigh 7 none :: gw) rm_X6_weigh (fPc w [.ref (w.2.2.1 v0), .ref (w.2.2.1 v1), .ref (w.2.2.1 v2), .ref (w.2.2.1 v3)] μ) (fQv w μr) 0 0 (fA w) := by
  refine met_of hJ (by decide) ?_ (Nat.le_of_ble_eq_true rfl)
  generalize ([.ref (w.2.2.1 v0), .ref (w.2.2.1 v1), .ref (w.2.2.1 v2), .ref (w.2.2.1 v3)] : List Value).toArray = args
  intro p e s m below meth c ls C hr hP hl hS
  obtain ⟨hx, hb, hml, hown, hts, hK, -, hlk, hT⟩ := id C
  have hl : lv_has ls 7 [(0, .ref (w.2.2.1 v0)), (1, .ref (w.2.2.1 v1)), (2, .ref (w.2.2.1 v2)), (3, .ref (w.2.2.1 v3))] := hl
  unfold f_X6_weigh at h
  refine lv_aload_n hx hb dX6_weigh_0 rfl (lv_at hl 0 rfl) ?_
  refine r_getF (off := 2) C hP (iw hw (fi_6 hk0)) hk0 fl_X6_24 rfl rfl (zw hw) dX6_weigh_1 ?_
  refine lv_iconst (v := (0)) hx hb dX6_weigh_4 (by decide) ?_
  refine n_aald (j := 0) C hP (iw hw (ff_6_3 hk0).2) (ff_6_3 hk0).1 (by decide) (by decide) dX6_weigh_5 ?_
  refine lv_iconst (v := (0)) hx hb dX6_weigh_6 (by decide) ?_
  obtain ⟨r2, μ1, h3, h⟩ := bd_ok h
  refine go_v (callS_run (As := [.ref (w.2.2.1 ((v0 + 2) + 1 + 0)), .int (0 : Int32)]) (rest := []) C hl hP (hS.wide hJ).2.1 (m_J7_fill_53178 l w hJ ((v0 + 2) + 1 + 0) (0 : Int32) (karr (rowkd (fr_row (ff_6_3 hk0).1 (by decide)).1 (f2_6_3 hk0))) (iw hw (fr_row (ff_6_3 hk0).1 (by decide)).2) μ h3) ms_X6_50 ⟨rfl, rfl, by decide, by decide⟩ rfl rfl (Nat.le_of_ble_eq_true rfl) ⟨Nat.zero_le _, Nat.zero_le _⟩ dX6_weigh_7) hS (fun H locs hP hS => ?_)
  refine lv_aload_n hx hb dX6_weigh_10 rfl (lv_at hl 0 rfl) ?_
  refine r_getF (off := 2) C hP (iw hw (fi_6 hk0)) hk0 fl_X6_24 rfl rfl (zw hw) dX6_weigh_11 ?_
  refine lv_iconst (v := (1)) hx hb dX6_weigh_14 (by decide) ?_
  refine n_aald (j := 1) C hP (iw hw (ff_6_3 hk0).2) (ff_6_3 hk0).1 (by decide) (by decide) dX6_weigh_15 ?_
  refine lv_iconst (v := (0)) hx hb dX6_weigh_16 (by decide) ?_
  obtain ⟨r5, μ4, h6, h⟩ := bd_ok h
  refine go_v (callS_run (As := [.ref (w.2.2.1 ((v0 + 2) + 1 + 1)), .int (0 : Int32)]) (rest := []) C hl hP (hS.wide hJ).2.1 (m_J7_fill_53178 l w hJ ((v0 + 2) + 1 + 1) (0 : Int32) (karr (rowkd (fr_row (ff_6_3 hk0).1 (by decide)).1 (f2_6_3 hk0))) (iw hw (fr_row (ff_6_3 hk0).1 (by decide)).2) μ1 h6) ms_X6_50 ⟨rfl, rfl, by decide, by decide⟩ rfl rfl (Nat.le_of_ble_eq_true rfl) ⟨Nat.zero_le _, Nat.zero_le _⟩ dX6_weigh_17) hS (fun H locs hP hS => ?_)
  refine lv_aload_n hx hb dX6_weigh_20 rfl (lv_at hl 0 rfl) ?_
  refine r_getF (off := 5) C hP (iw hw (fi_6 hk0)) hk0 fl_X6_27 rfl rfl (zw hw) dX6_weigh_21 ?_
  refine lv_iconst (v := (0)) hx hb dX6_weigh_24 (by decide) ?_
  obtain ⟨r8, μ7, h9, h⟩ := bd_ok h
  refine go_v (callS_run (As := [.ref (w.2.2.1 (v0 + 5)), .int (0 : Int32)]) (rest := []) C hl hP (hS.wide hJ).2.1 (m_J7_fill_53178 l w hJ (v0 + 5) (0 : Int32) (karr (ff_6_4 hk0).1) (iw hw (ff_6_4 hk0).2) μ4 h9) ms_X6_50 ⟨rfl, rfl, by decide, by decide⟩ rfl rfl (Nat.le_of_ble_eq_true rfl) ⟨Nat.zero_le _, Nat.zero_le _⟩ dX6_weigh_25) hS (fun H locs hP hS => ?_)
  refine lv_iconst (v := (0)) hx hb dX6_weigh_28 (by decide) ?_
  refine lv_istore (lv' := [(4, .int (0 : Int32)), (0, .ref (w.2.2.1 v0)), (1, .ref (w.2.2.1 v1)), (2, .ref (w.2.2.1 v2)), (3, .ref (w.2.2.1 v3))]) hx hb dX6_weigh_29 hl (by decide) rfl (fun ls hl => ?_)
  obtain ⟨t44, q45, h48, h⟩ := bd_ok h
  refine lpn_ind (b := (fun (q : Int32 × fMem) => f_X6_weigh_L31 v0 v1 v2 v3 q.1 q.2)) (P := fun (q : Int32 × fMem) => WW p l e rm_X6_weigh s m args below meth c (MQ below (fQv w μr) args s 0 0 (fA w)) w q.2 7 31 [] [(0, .ref (w.2.2.1 v0)), (1, .ref (w.2.2.1 v1)), (2, .ref (w.2.2.1 v2)), (3, .ref (w.2.2.1 v3)), (4, .int q.1)]) (K := fun _ (q : Int32 × fMem) => WW p l e rm_X6_weigh s m args below meth c (MQ below (fQv w μr) args s 0 0 (fA w)) w q.2 7 136 [] []) ?_ fuel ((0 : Int32), μ7) t44 q45 h48 ?_ _ _ _ hP hS (lv_sub hl [1, 2, 3, 4, 0] rfl)
  · intro q tz31 sz31 h hP0_31 hK0_31 H locs ls hP hS hl
    obtain ⟨v4, μ⟩ := q
    have hP : fP w μ H := hP
    have hl : lv_has ls 7 [(0, .ref (w.2.2.1 v0)), (1, .ref (w.2.2.1 v1)), (2, .ref (w.2.2.1 v2)), (3, .ref (w.2.2.1 v3)), (4, .int v4)] := hl
    have h : f_X6_weigh_L31 v0 v1 v2 v3 v4 μ = some (tz31, sz31) := h
    unfold f_X6_weigh_L31 at h
    refine lv_iload hx hb dX6_weigh_31 (lv_at hl 4 rfl) ?_
    refine lv_aload_n hx hb dX6_weigh_33 rfl (lv_at hl 1 rfl) ?_
    refine lv_iconst (v := (2)) hx hb dX6_weigh_34 (by decide) ?_
    obtain ⟨r11, μ10, h12, h⟩ := bd_ok h
    refine go_i (callV_run (As := [.int (2 : Int32)]) (rest := [.int v4]) C hl hP (hS.wide hJ).2.1 (iw hw (fi_2 hk1)) hk1 (m_X2_told l w hJ hw v1 (2 : Int32) hk1 μ h12) mv_X6_30 ⟨rfl, rfl, by decide, by decide⟩ rfl rfl (Nat.le_of_ble_eq_true rfl) ⟨Nat.zero_le _, Nat.zero_le _⟩ dX6_weigh_35) hS (fun H locs hP hS => ?_)
    refine lv_icmp_ge (tgt := 136) hx hb dX6_weigh_38 (by decide) (fun c13 => ?_) (fun c13 => ?_)
    · replace h := if_t c13 h
      obtain ⟨rfl, rfl⟩ := leaf h
      exact (hK0_31 0 rfl) _ _ _ hP hS (lv_sub hl [] rfl)
    · replace h := if_f c13 h
      refine lv_aload_n hx hb dX6_weigh_41 rfl (lv_at hl 2 rfl) ?_
      refine r_getF (off := 1) C hP (iw hw (fi_7 hk2)) hk2 fl_X6_56 rfl rfl (zw hw) dX6_weigh_42 ?_
      refine lv_iload hx hb dX6_weigh_45 (lv_at hl 4 rfl) ?_
      obtain ⟨g14, h⟩ := gd_ok h
      refine r_iald C hP (iw hw (ff_7_0 hk2).2) (ff_7_0 hk2).1 g14 dX6_weigh_47 ?_
      refine lv_topi (fun x15 ex15 => ?_)
      replace h := vl_ok ex15 h
      refine lv_istore (lv' := [(5, .int x15), (0, .ref (w.2.2.1 v0)), (1, .ref (w.2.2.1 v1)), (2, .ref (w.2.2.1 v2)), (3, .ref (w.2.2.1 v3)), (4, .int v4)]) hx hb dX6_weigh_48 hl (by decide) rfl (fun ls hl => ?_)
      refine lv_aload_n hx hb dX6_weigh_50 rfl (lv_at hl 2 rfl) ?_
      refine lv_iconst (v := (0)) hx hb dX6_weigh_51 (by decide) ?_
      refine lv_iload hx hb dX6_weigh_52 (lv_at hl 0 rfl) ?_
      obtain ⟨r17, μ16, h18, h⟩ := bd_ok h
      refine go_i (callV_run (As := [.int (0 : Int32), .int x15]) (rest := []) C hl hP (hS.wide hJ).2.1 (iw hw (fi_2 hk1)) hk1 (m_X2_has l w hJ hw v1 (0 : Int32) x15 hk1 μ10 h18) mv_X6_61 ⟨rfl, rfl, by decide, by decide⟩ rfl rfl (Nat.le_of_ble_eq_true rfl) ⟨Nat.zero_le _, Nat.zero_le _⟩ dX6_weigh_54) hS (fun H locs hP hS => ?_)
      refine lv_if_ne (tgt := 63) hx hb dX6_weigh_57 (by decide) (fun c19 => ?_) (fun c19 => ?_)
      · replace h := if_f c19 h
        refine lv_aload_n hx hb dX6_weigh_63 rfl (lv_at hl 1 rfl) ?_
        refine r_getF (off := 5) C hP (iw hw (fi_6 hk0)) hk0 fl_X6_27 rfl rfl (zw hw) dX6_weigh_64 ?_
        refine lv_iload hx hb dX6_weigh_67 (lv_at hl 0 rfl) ?_
        refine lv_dup2_11 hx hb dX6_weigh_69 rfl rfl ?_
        obtain ⟨g20, h⟩ := gd_ok h
        refine r_iald C hP (iw hw (ff_6_4 hk0).2) (ff_6_4 hk0).1 g20 dX6_weigh_70 ?_
        refine lv_bipush (v := (10)) hx hb dX6_weigh_71 (by decide) ?_
        refine lv_iadd hx hb dX6_weigh_73 ?_
        obtain ⟨g22, h⟩ := gd_ok h
        refine r_iast C hP hS (iw hw (ff_6_4 hk0).2) (ff_6_4 hk0).1 g22 dX6_weigh_74 (fun H locs hP hS => ?_)
        obtain ⟨μ21, eμ21, h⟩ := vl_ex h
        have hP : fP w μ21 H := by rw [eμ21]; exact hP
        refine lv_iconst (v := (0)) hx hb dX6_weigh_75 (by decide) ?_
        refine lv_istore (lv' := [(6, .int (0 : Int32)), (5, .int x15), (0, .ref (w.2.2.1 v0)), (1, .ref (w.2.2.1 v1)), (2, .ref (w.2.2.1 v2)), (3, .ref (w.2.2.1 v3)), (4, .int v4)]) hx hb dX6_weigh_76 hl (by decide) rfl (fun ls hl => ?_)
        obtain ⟨t37, q38, h42, h⟩ := bd_ok h
        refine lpn_ind (b := (fun (q : Int32 × fMem) => f_X6_weigh_L78 v0 v1 v2 v3 v4 x15 q.1 q.2)) (P := fun (q : Int32 × fMem) => WW p l e rm_X6_weigh s m args below meth c (MQ below (fQv w μr) args s 0 0 (fA w)) w q.2 7 78 [] [(0, .ref (w.2.2.1 v0)), (1, .ref (w.2.2.1 v1)), (2, .ref (w.2.2.1 v2)), (3, .ref (w.2.2.1 v3)), (4, .int v4), (5, .int x15), (6, .int q.1)]) (K := fun _ (q : Int32 × fMem) => WW p l e rm_X6_weigh s m args below meth c (MQ below (fQv w μr) args s 0 0 (fA w)) w q.2 7 130 [] [(0, .ref (w.2.2.1 v0)), (1, .ref (w.2.2.1 v1)), (2, .ref (w.2.2.1 v2)), (3, .ref (w.2.2.1 v3)), (4, .int v4)]) ?_ fuel ((0 : Int32), μ21) t37 q38 h42 ?_ _ _ _ hP hS (lv_sub hl [2, 3, 4, 5, 6, 1, 0] rfl)
        · intro q tz78 sz78 h hP0_78 hK0_78 H locs ls hP hS hl
          obtain ⟨v6, μ⟩ := q
          have hP : fP w μ H := hP
          have hl : lv_has ls 7 [(0, .ref (w.2.2.1 v0)), (1, .ref (w.2.2.1 v1)), (2, .ref (w.2.2.1 v2)), (3, .ref (w.2.2.1 v3)), (4, .int v4), (5, .int x15), (6, .int v6)] := hl
          have h : f_X6_weigh_L78 v0 v1 v2 v3 v4 x15 v6 μ = some (tz78, sz78) := h
          unfold f_X6_weigh_L78 at h
          have J107 : ∀ (v6 : Int32) (t0 : Nat) (t1 : Int32) (μ : fMem) (_ : kd t0 = (3, 2)) (_ : inW w.2.2.2 t0) (_ : (kd (t0 + 1)).2 = 6), f_X6_weigh_j107 v0 v1 v2 v3 v4 x15 v6 t0 t1 μ = some (tz78, sz78) → WW p l e rm_X6_weigh s m args below meth c (MQ below (fQv w μr) args s 0 0 (fA w)) w μ 7 107 [.int t1, .ref (w.2.2.1 t0)] [(0, .ref (w.2.2.1 v0)), (1, .ref (w.2.2.1 v1)), (2, .ref (w.2.2.1 v2)), (3, .ref (w.2.2.1 v3)), (4, .int v4), (5, .int x15), (6, .int v6)] := by
            intro v6 t0 t1 μ kt0 it0 rt0 h H locs ls hP hS hl
            unfold f_X6_weigh_j107 at h
            obtain ⟨g29, h⟩ := gd_ok h
            refine r_aald C hP it0 kt0 g29 dX6_weigh_107 ?_
            refine lv_iload hx hb dX6_weigh_108 (lv_at hl 5 rfl) ?_
            refine lv_dup2_11 hx hb dX6_weigh_110 rfl rfl ?_
            obtain ⟨g30, h⟩ := gd_ok h
            refine r_iald C hP (iw hw (fr_row kt0 (ixlt g29)).2) (rowkd (fr_row kt0 (ixlt g29)).1 rt0) g30 dX6_weigh_111 ?_
            refine lv_aload_n hx hb dX6_weigh_112 rfl (lv_at hl 3 rfl) ?_
            refine lv_iload hx hb dX6_weigh_113 (lv_at hl 6 rfl) ?_
            refine lv_iload hx hb dX6_weigh_115 (lv_at hl 4 rfl) ?_
            refine lv_iload hx hb dX6_weigh_117 (lv_at hl 5 rfl) ?_
            obtain ⟨r32, μ31, h33, h⟩ := bd_ok h
            refine go_i (callV_run (As := [.int v6, .int v4, .int x15]) (rest := [.int (μ.1 (t0 + 1 + (Int32.toNatClampNeg t1)) (Int32.toNatClampNeg x15)), .int x15, .ref (w.2.2.1 (t0 + 1 + (Int32.toNatClampNeg t1)))]) C hl hP (hS.wide hJ).2.1 (iw hw (fi_0 hk3)) hk3 (m_X0_likes l w hJ hw v3 v6 v4 x15 hk3 μ h33) mv_X6_68 ⟨rfl, rfl, by decide, by decide⟩ rfl rfl (Nat.le_of_ble_eq_true rfl) ⟨Nat.zero_le _, Nat.zero_le _⟩ dX6_weigh_119) hS (fun H locs hP hS => ?_)
            refine lv_iadd hx hb dX6_weigh_122 ?_
            obtain ⟨g35, h⟩ := gd_ok h
            refine r_iast C hP hS (iw hw (fr_row kt0 (ixlt g29)).2) (rowkd (fr_row kt0 (ixlt g29)).1 rt0) g35 dX6_weigh_123 (fun H locs hP hS => ?_)
            obtain ⟨μ34, eμ34, h⟩ := vl_ex h
            have hP : fP w μ34 H := by rw [eμ34]; exact hP
            obtain ⟨x36, ex36⟩ : ∃ y : Int32, y = (v6 + (1 : Int32)) := ⟨_, rfl⟩
            replace h := vl_ok ex36 h
            refine lv_iinc (v := x36) (lv' := [(6, .int x36), (0, .ref (w.2.2.1 v0)), (1, .ref (w.2.2.1 v1)), (2, .ref (w.2.2.1 v2)), (3, .ref (w.2.2.1 v3)), (4, .int v4), (5, .int x15)]) hx hb dX6_weigh_124 hl (k := 6) rfl (by rw [ex36]; rfl) (by decide) rfl (fun ls hl => ?_)
            refine lv_goto (tgt := 78) hx hb dX6_weigh_127 (by decide) ?_
            obtain ⟨rfl, rfl⟩ := leaf h
            exact hP0_78 rfl _ _ _ hP hS (lv_sub hl [1, 2, 3, 4, 5, 6, 0] rfl)
          refine lv_iload hx hb dX6_weigh_78 (lv_at hl 6 rfl) ?_
          refine lv_aload_n hx hb dX6_weigh_80 rfl (lv_at hl 1 rfl) ?_
          refine lv_iconst (v := (3)) hx hb dX6_weigh_81 (by decide) ?_
          obtain ⟨r24, μ23, h25, h⟩ := bd_ok h
          refine go_i (callV_run (As := [.int (3 : Int32)]) (rest := [.int v6]) C hl hP (hS.wide hJ).2.1 (iw hw (fi_2 hk1)) hk1 (m_X2_told l w hJ hw v1 (3 : Int32) hk1 μ h25) mv_X6_30 ⟨rfl, rfl, by decide, by decide⟩ rfl rfl (Nat.le_of_ble_eq_true rfl) ⟨Nat.zero_le _, Nat.zero_le _⟩ dX6_weigh_82) hS (fun H locs hP hS => ?_)
          refine lv_icmp_ge (tgt := 130) hx hb dX6_weigh_85 (by decide) (fun c26 => ?_) (fun c26 => ?_)
          · replace h := if_t c26 h
            obtain ⟨rfl, rfl⟩ := leaf h
            exact (hK0_78 0 rfl) _ _ _ hP hS (lv_sub hl [0, 1, 2, 3, 4] rfl)
          · replace h := if_f c26 h
            refine lv_aload_n hx hb dX6_weigh_88 rfl (lv_at hl 0 rfl) ?_
            refine r_getF (off := 2) C hP (iw hw (fi_6 hk0)) hk0 fl_X6_24 rfl rfl (zw hw) dX6_weigh_89 ?_
            refine lv_aload_n hx hb dX6_weigh_92 rfl (lv_at hl 1 rfl) ?_
            refine r_getF (off := 13) C hP (iw hw (fi_2 hk1)) hk1 fl_X6_65 rfl rfl (zw hw) dX6_weigh_93 ?_
            refine lv_iload hx hb dX6_weigh_96 (lv_at hl 6 rfl) ?_
            obtain ⟨g27, h⟩ := gd_ok h
            refine r_iald C hP (iw hw (ff_2_10 hk1).2) (ff_2_10 hk1).1 g27 dX6_weigh_98 ?_
            refine lv_if_ne (tgt := 106) hx hb dX6_weigh_99 (by decide) (fun c28 => ?_) (fun c28 => ?_)
            · replace h := if_f c28 h
              refine lv_iconst (v := (1)) hx hb dX6_weigh_106 (by decide) ?_
              exact J107 v6 (v0 + 2) (1 : Int32) μ23 (ff_6_3 hk0).1 (iw hw (ff_6_3 hk0).2) (f2_6_3 hk0) h _ _ _ hP hS (lv_sub hl [0, 1, 2, 3, 4, 5, 6] rfl)
            · replace h := if_t c28 h
              refine lv_iconst (v := (0)) hx hb dX6_weigh_102 (by decide) ?_
              refine lv_goto (tgt := 107) hx hb dX6_weigh_103 (by decide) ?_
              exact J107 v6 (v0 + 2) (0 : Int32) μ23 (ff_6_3 hk0).1 (iw hw (ff_6_3 hk0).2) (f2_6_3 hk0) h _ _ _ hP hS (lv_sub hl [0, 1, 2, 3, 4, 5, 6] rfl)
        · obtain ⟨x39, μ40⟩ := q38
          intro H locs ls hP hS hl
          have hP : fP w μ40 H := hP
          have hl : lv_has ls 7 [(0, .ref (w.2.2.1 v0)), (1, .ref (w.2.2.1 v1)), (2, .ref (w.2.2.1 v2)), (3, .ref (w.2.2.1 v3)), (4, .int v4)] := hl
          try dsimp only at h
          obtain ⟨x41, ex41⟩ : ∃ y : Int32, y = (v4 + (1 : Int32)) := ⟨_, rfl⟩
          replace h := vl_ok ex41 h
          refine lv_iinc (v := x41) (lv' := [(4, .int x41), (0, .ref (w.2.2.1 v0)), (1, .ref (w.2.2.1 v1)), (2, .ref (w.2.2.1 v2)), (3, .ref (w.2.2.1 v3))]) hx hb dX6_weigh_130 hl (k := 4) rfl (by rw [ex41]; rfl) (by decide) rfl (fun ls hl => ?_)
          refine lv_goto (tgt := 31) hx hb dX6_weigh_133 (by decide) ?_
          obtain ⟨rfl, rfl⟩ := leaf h
          exact hP0_31 rfl _ _ _ hP hS (lv_sub hl [1, 2, 3, 4, 0] rfl)
      · replace h := if_t c19 h
        refine lv_goto (tgt := 130) hx hb dX6_weigh_60 (by decide) ?_
        obtain ⟨x43, ex43⟩ : ∃ y : Int32, y = (v4 + (1 : Int32)) := ⟨_, rfl⟩
        replace h := vl_ok ex43 h
        refine lv_iinc (v := x43) (lv' := [(4, .int x43), (5, .int x15), (0, .ref (w.2.2.1 v0)), (1, .ref (w.2.2.1 v1)), (2, .ref (w.2.2.1 v2)), (3, .ref (w.2.2.1 v3))]) hx hb dX6_weigh_130 hl (k := 5) rfl (by rw [ex43]; rfl) (by decide) rfl (fun ls hl => ?_)
        refine lv_goto (tgt := 31) hx hb dX6_weigh_133 (by decide) ?_
        obtain ⟨rfl, rfl⟩ := leaf h
        exact hP0_31 rfl _ _ _ hP hS (lv_sub hl [2, 3, 4, 5, 0] rfl)
  · obtain ⟨x46, μ47⟩ := q45
    intro H locs ls hP hS hl
    have hP : fP w μ47 H := hP
    have hl : lv_has ls 7 [] := hl
    try dsimp only at h
    exact r_vret C hr hP hS h dX6_weigh_136

