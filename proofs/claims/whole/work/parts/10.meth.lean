def f_J7_fill_53178_L5 (v0 : Nat) (v1 : Int32) (x1 : Int32) (v2 : Int32) (μ : fMem) : Option (Nat × (Int32 × fMem)) :=
  if x1 ≤ v2 then some (1, (v2, μ)) else gd (ixo v2 (kd v0).2) (vl (sI μ v0 (Int32.toNatClampNeg v2) v1) fun μ3 => vl (v2 + (1 : Int32)) fun x5 => some (0, (x5, μ3)))
def f_J7_fill_53178 (v0 : Nat) (v1 : Int32) (μ : fMem) : Option (Unit × fMem) :=
  vl (Int32.ofNat (kd v0).2) fun x1 => bd (lpn (fun (q : Int32 × fMem) => f_J7_fill_53178_L5 v0 v1 x1 q.1 q.2) fuel ((0 : Int32), μ)) fun t6 q7 => (fun (x8 : Int32) (μ9 : fMem) => some ((), μ9)) q7.1 q7.2
def rm_J7_fill_53178 : Room := { frames := 0, cells := 0, slots := 0, locals := 0 }
set_option maxHeartbeats 4000000 in
set_option maxRecDepth 100000 in
theorem m_J7_fill_53178 (l : Launch) (w : fW) (hJ : fJ w) (v0 : Nat) (v1 : Int32) (hk0 : kd v0 = (0, (kd v0).2)) (hi0 : inW w.2.2.2 v0) (μ : fMem) {r : Unit} {μr : fMem} (h : f_J7_fill_53178 v0 v1 μ = some (r, μr)) : Met l yJ7_fill_53178 (.code yJ7_fill_53178 cJ7_fill_53178 4 none :: gw) rm_J7_fill_53178 (fPc w [.ref (w.2.2.1 v0), .int v1] μ) (fQv w μr) 0 0 (fA w) := by
  refine met_of hJ (by decide) ?_ (Nat.le_of_ble_eq_true rfl)
  generalize ([.ref (w.2.2.1 v0), .int v1] : List Value).toArray = args
  intro p e s m below meth c ls C hr hP hl hS
  obtain ⟨hx, hb, hml, hown, hts, hK, -, hlk, hT⟩ := id C
  have hl : lv_has ls 4 [(0, .ref (w.2.2.1 v0)), (1, .int v1)] := hl
  unfold f_J7_fill_53178 at h
  refine lv_iconst (v := (0)) hx hb dJ7_fill_53178_0 (by decide) ?_
  refine lv_istore_n (lv' := [(2, .int (0 : Int32)), (0, .ref (w.2.2.1 v0)), (1, .int v1)]) hx hb dJ7_fill_53178_1 rfl hl (by decide) rfl (fun ls hl => ?_)
  refine lv_aload_n hx hb dJ7_fill_53178_2 rfl (lv_at hl 1 rfl) ?_
  refine r_alen C hP hi0 (Or.inl hk0) rfl dJ7_fill_53178_3 ?_
  refine lv_topi (fun x1 ex1 => ?_)
  replace h := vl_ok ex1 h
  refine lv_istore_n (lv' := [(3, .int x1), (2, .int (0 : Int32)), (0, .ref (w.2.2.1 v0)), (1, .int v1)]) hx hb dJ7_fill_53178_4 rfl hl (by decide) rfl (fun ls hl => ?_)
  obtain ⟨t6, q7, h10, h⟩ := bd_ok h
  refine lpn_ind (b := (fun (q : Int32 × fMem) => f_J7_fill_53178_L5 v0 v1 x1 q.1 q.2)) (P := fun (q : Int32 × fMem) => WW p l e rm_J7_fill_53178 s m args below meth c (MQ below (fQv w μr) args s 0 0 (fA w)) w q.2 4 5 [] [(0, .ref (w.2.2.1 v0)), (1, .int v1), (2, .int q.1), (3, .int x1)]) (K := fun _ (q : Int32 × fMem) => WW p l e rm_J7_fill_53178 s m args below meth c (MQ below (fQv w μr) args s 0 0 (fA w)) w q.2 4 20 [] []) ?_ fuel ((0 : Int32), μ) t6 q7 h10 ?_ _ _ _ hP hS (lv_sub hl [2, 3, 1, 0] rfl)
  · intro q tz5 sz5 h hP0_5 hK0_5 H locs ls hP hS hl
    obtain ⟨v2, μ⟩ := q
    have hP : fP w μ H := hP
    have hl : lv_has ls 4 [(0, .ref (w.2.2.1 v0)), (1, .int v1), (2, .int v2), (3, .int x1)] := hl
    have h : f_J7_fill_53178_L5 v0 v1 x1 v2 μ = some (tz5, sz5) := h
    unfold f_J7_fill_53178_L5 at h
    refine lv_iload_n hx hb dJ7_fill_53178_5 rfl (lv_at hl 2 rfl) ?_
    refine lv_iload_n hx hb dJ7_fill_53178_6 rfl (lv_at hl 3 rfl) ?_
    refine lv_icmp_ge (tgt := 20) hx hb dJ7_fill_53178_7 (by decide) (fun c2 => ?_) (fun c2 => ?_)
    · replace h := if_t c2 h
      obtain ⟨rfl, rfl⟩ := leaf h
      exact (hK0_5 0 rfl) _ _ _ hP hS (lv_sub hl [] rfl)
    · replace h := if_f c2 h
      refine lv_aload_n hx hb dJ7_fill_53178_10 rfl (lv_at hl 0 rfl) ?_
      refine lv_iload_n hx hb dJ7_fill_53178_11 rfl (lv_at hl 2 rfl) ?_
      refine lv_iload_n hx hb dJ7_fill_53178_12 rfl (lv_at hl 1 rfl) ?_
      obtain ⟨g4, h⟩ := gd_ok h
      refine r_iast C hP hS hi0 hk0 g4 dJ7_fill_53178_13 (fun H locs hP hS => ?_)
      obtain ⟨μ3, eμ3, h⟩ := vl_ex h
      have hP : fP w μ3 H := by rw [eμ3]; exact hP
      obtain ⟨x5, ex5⟩ : ∃ y : Int32, y = (v2 + (1 : Int32)) := ⟨_, rfl⟩
      replace h := vl_ok ex5 h
      refine lv_iinc (v := x5) (lv' := [(2, .int x5), (0, .ref (w.2.2.1 v0)), (1, .int v1), (3, .int x1)]) hx hb dJ7_fill_53178_14 hl (k := 2) rfl (by rw [ex5]; rfl) (by decide) rfl (fun ls hl => ?_)
      refine lv_goto (tgt := 5) hx hb dJ7_fill_53178_17 (by decide) ?_
      obtain ⟨rfl, rfl⟩ := leaf h
      exact hP0_5 rfl _ _ _ hP hS (lv_sub hl [1, 2, 0, 3] rfl)
  · obtain ⟨x8, μ9⟩ := q7
    intro H locs ls hP hS hl
    have hP : fP w μ9 H := hP
    have hl : lv_has ls 4 [] := hl
    dsimp only at h
    exact r_vret C hr hP hS h dJ7_fill_53178_20

def f_X2_told (v0 : Nat) (v1 : Int32) (μ : fMem) : Option (Int32 × fMem) :=
  if v1 < 0 then some ((0 : Int32), μ) else if (6 : Int32) ≤ v1 then some ((0 : Int32), μ) else gd (ixo v1 6) (some ((μ.1 (v0 + 1) (Int32.toNatClampNeg v1)), μ))
def rm_X2_told : Room := { frames := 0, cells := 0, slots := 0, locals := 0 }
set_option maxHeartbeats 4000000 in
set_option maxRecDepth 100000 in
theorem m_X2_told (l : Launch) (w : fW) (hJ : fJ w) (hw : w.2.2.2 = 0) (v0 : Nat) (v1 : Int32) (hk0 : kd v0 = (4, 2)) (μ : fMem) {r : Int32} {μr : fMem} (h : f_X2_told v0 v1 μ = some (r, μr)) : Met l yX2_told (.code yX2_told cX2_told 2 (some .int) :: gw) rm_X2_told (fPc w [.ref (w.2.2.1 v0), .int v1] μ) (fQi w r μr) 0 0 (fA w) := by
  refine met_of hJ (by decide) ?_ (Nat.le_of_ble_eq_true rfl)
  generalize ([.ref (w.2.2.1 v0), .int v1] : List Value).toArray = args
  intro p e s m below meth c ls C hr hP hl hS
  obtain ⟨hx, hb, hml, hown, hts, hK, -, hlk, hT⟩ := id C
  have hl : lv_has ls 2 [(0, .ref (w.2.2.1 v0)), (1, .int v1)] := hl
  unfold f_X2_told at h
  refine lv_iload_n hx hb dX2_told_0 rfl (lv_at hl 1 rfl) ?_
  refine lv_if_lt (tgt := 22) hx hb dX2_told_1 (by decide) (fun c1 => ?_) (fun c1 => ?_)
  · replace h := if_t c1 h
    refine lv_iconst (v := (0)) hx hb dX2_told_22 (by decide) ?_
    exact r_iret C hr hP hS h dX2_told_23
  · replace h := if_f c1 h
    refine lv_iload_n hx hb dX2_told_4 rfl (lv_at hl 1 rfl) ?_
    refine lv_aload_n hx hb dX2_told_5 rfl (lv_at hl 0 rfl) ?_
    refine r_getF (off := 1) C hP (iw hw (fi_2 hk0)) hk0 fl_X2_9 rfl rfl dX2_told_6 ?_
    refine r_alen (v := 6) C hP (iw hw (ff_2_0 hk0).2) (Or.inl (ff_2_0 hk0).1) (by decide) dX2_told_9 ?_
    refine lv_icmp_ge (tgt := 22) hx hb dX2_told_10 (by decide) (fun c2 => ?_) (fun c2 => ?_)
    · replace h := if_t c2 h
      refine lv_iconst (v := (0)) hx hb dX2_told_22 (by decide) ?_
      exact r_iret C hr hP hS h dX2_told_23
    · replace h := if_f c2 h
      refine lv_aload_n hx hb dX2_told_13 rfl (lv_at hl 0 rfl) ?_
      refine r_getF (off := 1) C hP (iw hw (fi_2 hk0)) hk0 fl_X2_9 rfl rfl dX2_told_14 ?_
      refine lv_iload_n hx hb dX2_told_17 rfl (lv_at hl 1 rfl) ?_
      obtain ⟨g3, h⟩ := gd_ok h
      refine r_iald C hP (iw hw (ff_2_0 hk0).2) (ff_2_0 hk0).1 g3 dX2_told_18 ?_
      refine lv_goto (tgt := 23) hx hb dX2_told_19 (by decide) ?_
      exact r_iret C hr hP hS h dX2_told_23

def f_X2_glassOf (v0 : Nat) (v1 : Int32) (μ : fMem) : Option (Int32 × fMem) :=
  bd (f_X2_told v0 (4 : Int32) μ) fun r2 μ1 => if r2 ≤ 0 then some ((50 : Int32), μ1) else if (9 : Int32) < r2 then some ((50 : Int32), μ1) else if 0 ≤ v1 then gd (¬ r2 = 0) (gd (ixo (irm v1 r2) 9) (some ((μ1.1 (v0 + 15) (Int32.toNatClampNeg (irm v1 r2))), μ1))) else some ((50 : Int32), μ1)
def rm_X2_glassOf : Room := { frames := 1, cells := 0, slots := 0, locals := 21 }
set_option maxHeartbeats 4000000 in
set_option maxRecDepth 100000 in
theorem m_X2_glassOf (l : Launch) (w : fW) (hJ : fJ w) (hw : w.2.2.2 = 0) (v0 : Nat) (v1 : Int32) (hk0 : kd v0 = (4, 2)) (μ : fMem) {r : Int32} {μr : fMem} (h : f_X2_glassOf v0 v1 μ = some (r, μr)) : Met l yX2_glassOf (.code yX2_glassOf cX2_glassOf 3 (some .int) :: gw) rm_X2_glassOf (fPc w [.ref (w.2.2.1 v0), .int v1] μ) (fQi w r μr) 0 0 (fA w) := by
  refine met_of hJ (by decide) ?_ (Nat.le_of_ble_eq_true rfl)
  generalize ([.ref (w.2.2.1 v0), .int v1] : List Value).toArray = args
  intro p e s m below meth c ls C hr hP hl hS
  obtain ⟨hx, hb, hml, hown, hts, hK, -, hlk, hT⟩ := id C
  have hl : lv_has ls 3 [(0, .ref (w.2.2.1 v0)), (1, .int v1)] := hl
  unfold f_X2_glassOf at h
  refine lv_aload_n hx hb dX2_glassOf_0 rfl (lv_at hl 0 rfl) ?_
  refine lv_iconst (v := (4)) hx hb dX2_glassOf_1 (by decide) ?_
  obtain ⟨r2, μ1, h3, h⟩ := bd_ok h
  refine go_i (callV_run (As := [.int (4 : Int32)]) (rest := []) C hl hP hS (iw hw (fi_2 hk0)) hk0 (m_X2_told l w hJ hw v0 (4 : Int32) hk0 μ h3) mv_X2_76 ⟨rfl, rfl, by decide, by decide⟩ rfl rfl (Nat.le_of_ble_eq_true rfl) ⟨Nat.zero_le _, Nat.zero_le _⟩ dX2_glassOf_2) hS (fun H locs hP hS => ?_)
  refine lv_istore_n (lv' := [(2, .int r2), (0, .ref (w.2.2.1 v0)), (1, .int v1)]) hx hb dX2_glassOf_5 rfl hl (by decide) rfl (fun ls hl => ?_)
  refine lv_iload_n hx hb dX2_glassOf_6 rfl (lv_at hl 0 rfl) ?_
  refine lv_if_le (tgt := 23) hx hb dX2_glassOf_7 (by decide) (fun c4 => ?_) (fun c4 => ?_)
  · replace h := if_t c4 h
    refine lv_bipush (v := (50)) hx hb dX2_glassOf_23 (by decide) ?_
    exact r_iret C hr hP hS h dX2_glassOf_25
  · replace h := if_f c4 h
    refine lv_iload_n hx hb dX2_glassOf_10 rfl (lv_at hl 0 rfl) ?_
    refine lv_aload_n hx hb dX2_glassOf_11 rfl (lv_at hl 1 rfl) ?_
    refine r_getF (off := 15) C hP (iw hw (fi_2 hk0)) hk0 fl_X2_51 rfl rfl dX2_glassOf_12 ?_
    refine r_alen (v := 9) C hP (iw hw (ff_2_12 hk0).2) (Or.inl (ff_2_12 hk0).1) (by decide) dX2_glassOf_15 ?_
    refine lv_icmp_gt (tgt := 23) hx hb dX2_glassOf_16 (by decide) (fun c5 => ?_) (fun c5 => ?_)
    · replace h := if_t c5 h
      refine lv_bipush (v := (50)) hx hb dX2_glassOf_23 (by decide) ?_
      exact r_iret C hr hP hS h dX2_glassOf_25
    · replace h := if_f c5 h
      refine lv_iload_n hx hb dX2_glassOf_19 rfl (lv_at hl 2 rfl) ?_
      refine lv_if_ge (tgt := 26) hx hb dX2_glassOf_20 (by decide) (fun c6 => ?_) (fun c6 => ?_)
      · replace h := if_t c6 h
        refine lv_aload_n hx hb dX2_glassOf_26 rfl (lv_at hl 1 rfl) ?_
        refine r_getF (off := 15) C hP (iw hw (fi_2 hk0)) hk0 fl_X2_51 rfl rfl dX2_glassOf_27 ?_
        refine lv_iload_n hx hb dX2_glassOf_30 rfl (lv_at hl 2 rfl) ?_
        refine lv_iload_n hx hb dX2_glassOf_31 rfl (lv_at hl 0 rfl) ?_
        obtain ⟨g7, h⟩ := gd_ok h
        refine r_irem hx hb dX2_glassOf_32 g7 ?_
        obtain ⟨g8, h⟩ := gd_ok h
        refine r_iald C hP (iw hw (ff_2_12 hk0).2) (ff_2_12 hk0).1 g8 dX2_glassOf_33 ?_
        exact r_iret C hr hP hS h dX2_glassOf_34
      · replace h := if_f c6 h
        refine lv_bipush (v := (50)) hx hb dX2_glassOf_23 (by decide) ?_
        exact r_iret C hr hP hS h dX2_glassOf_25

def f_X2_has (v0 : Nat) (v1 : Int32) (v2 : Int32) (μ : fMem) : Option (Int32 × fMem) :=
  if v1 < 0 then gd (bl (0 : Int32)) (some ((0 : Int32), μ)) else if (6 : Int32) ≤ v1 then gd (bl (0 : Int32)) (some ((0 : Int32), μ)) else if v2 < 0 then gd (bl (0 : Int32)) (some ((0 : Int32), μ)) else gd (ixo v1 6) (if (μ.1 (v0 + 1) (Int32.toNatClampNeg v1)) ≤ v2 then gd (bl (0 : Int32)) (some ((0 : Int32), μ)) else gd (bl (1 : Int32)) (some ((1 : Int32), μ)))
def rm_X2_has : Room := { frames := 0, cells := 0, slots := 0, locals := 0 }
set_option maxHeartbeats 4000000 in
set_option maxRecDepth 100000 in
theorem m_X2_has (l : Launch) (w : fW) (hJ : fJ w) (hw : w.2.2.2 = 0) (v0 : Nat) (v1 : Int32) (v2 : Int32) (hk0 : kd v0 = (4, 2)) (μ : fMem) {r : Int32} {μr : fMem} (h : f_X2_has v0 v1 v2 μ = some (r, μr)) : Met l yX2_has (.code yX2_has cX2_has 3 (some .boolean) :: gw) rm_X2_has (fPc w [.ref (w.2.2.1 v0), .int v1, .int v2] μ) (fQi w r μr) 0 0 (fA w) := by
  refine met_of hJ (by decide) ?_ (Nat.le_of_ble_eq_true rfl)
  generalize ([.ref (w.2.2.1 v0), .int v1, .int v2] : List Value).toArray = args
  intro p e s m below meth c ls C hr hP hl hS
  obtain ⟨hx, hb, hml, hown, hts, hK, -, hlk, hT⟩ := id C
  have hl : lv_has ls 3 [(0, .ref (w.2.2.1 v0)), (1, .int v1), (2, .int v2)] := hl
  unfold f_X2_has at h
  refine lv_iload_n hx hb dX2_has_0 rfl (lv_at hl 1 rfl) ?_
  refine lv_if_lt (tgt := 31) hx hb dX2_has_1 (by decide) (fun c1 => ?_) (fun c1 => ?_)
  · replace h := if_t c1 h
    refine lv_iconst (v := (0)) hx hb dX2_has_31 (by decide) ?_
    exact r_zret C hr hP hS h dX2_has_32
  · replace h := if_f c1 h
    refine lv_iload_n hx hb dX2_has_4 rfl (lv_at hl 1 rfl) ?_
    refine lv_aload_n hx hb dX2_has_5 rfl (lv_at hl 0 rfl) ?_
    refine r_getF (off := 1) C hP (iw hw (fi_2 hk0)) hk0 fl_X2_9 rfl rfl dX2_has_6 ?_
    refine r_alen (v := 6) C hP (iw hw (ff_2_0 hk0).2) (Or.inl (ff_2_0 hk0).1) (by decide) dX2_has_9 ?_
    refine lv_icmp_ge (tgt := 31) hx hb dX2_has_10 (by decide) (fun c2 => ?_) (fun c2 => ?_)
    · replace h := if_t c2 h
      refine lv_iconst (v := (0)) hx hb dX2_has_31 (by decide) ?_
      exact r_zret C hr hP hS h dX2_has_32
    · replace h := if_f c2 h
      refine lv_iload_n hx hb dX2_has_13 rfl (lv_at hl 2 rfl) ?_
      refine lv_if_lt (tgt := 31) hx hb dX2_has_14 (by decide) (fun c3 => ?_) (fun c3 => ?_)
      · replace h := if_t c3 h
        refine lv_iconst (v := (0)) hx hb dX2_has_31 (by decide) ?_
        exact r_zret C hr hP hS h dX2_has_32
      · replace h := if_f c3 h
        refine lv_iload_n hx hb dX2_has_17 rfl (lv_at hl 2 rfl) ?_
        refine lv_aload_n hx hb dX2_has_18 rfl (lv_at hl 0 rfl) ?_
        refine r_getF (off := 1) C hP (iw hw (fi_2 hk0)) hk0 fl_X2_9 rfl rfl dX2_has_19 ?_
        refine lv_iload_n hx hb dX2_has_22 rfl (lv_at hl 1 rfl) ?_
        obtain ⟨g4, h⟩ := gd_ok h
        refine r_iald C hP (iw hw (ff_2_0 hk0).2) (ff_2_0 hk0).1 g4 dX2_has_23 ?_
        refine lv_icmp_ge (tgt := 31) hx hb dX2_has_24 (by decide) (fun c5 => ?_) (fun c5 => ?_)
        · replace h := if_t c5 h
          refine lv_iconst (v := (0)) hx hb dX2_has_31 (by decide) ?_
          exact r_zret C hr hP hS h dX2_has_32
        · replace h := if_f c5 h
          refine lv_iconst (v := (1)) hx hb dX2_has_27 (by decide) ?_
          refine lv_goto (tgt := 32) hx hb dX2_has_28 (by decide) ?_
          exact r_zret C hr hP hS h dX2_has_32

def f_X2_leads (v0 : Nat) (v1 : Int32) (v2 : Int32) (μ : fMem) : Option (Int32 × fMem) :=
  if v1 < 0 then gd (bl (0 : Int32)) (some ((0 : Int32), μ)) else if (6 : Int32) ≤ v1 then gd (bl (0 : Int32)) (some ((0 : Int32), μ)) else gd (ixo v1 6) (if ((μ.1 (v0 + 7) (Int32.toNatClampNeg v1)) &&& (shl (1 : Int32) v2)) = 0 then gd (bl (0 : Int32)) (some ((0 : Int32), μ)) else gd (bl (1 : Int32)) (some ((1 : Int32), μ)))
def rm_X2_leads : Room := { frames := 0, cells := 0, slots := 0, locals := 0 }
set_option maxHeartbeats 4000000 in
set_option maxRecDepth 100000 in
theorem m_X2_leads (l : Launch) (w : fW) (hJ : fJ w) (hw : w.2.2.2 = 0) (v0 : Nat) (v1 : Int32) (v2 : Int32) (hk0 : kd v0 = (4, 2)) (μ : fMem) {r : Int32} {μr : fMem} (h : f_X2_leads v0 v1 v2 μ = some (r, μr)) : Met l yX2_leads (.code yX2_leads cX2_leads 3 (some .boolean) :: gw) rm_X2_leads (fPc w [.ref (w.2.2.1 v0), .int v1, .int v2] μ) (fQi w r μr) 0 0 (fA w) := by
  refine met_of hJ (by decide) ?_ (Nat.le_of_ble_eq_true rfl)
  generalize ([.ref (w.2.2.1 v0), .int v1, .int v2] : List Value).toArray = args
  intro p e s m below meth c ls C hr hP hl hS
  obtain ⟨hx, hb, hml, hown, hts, hK, -, hlk, hT⟩ := id C
  have hl : lv_has ls 3 [(0, .ref (w.2.2.1 v0)), (1, .int v1), (2, .int v2)] := hl
  unfold f_X2_leads at h
  refine lv_iload_n hx hb dX2_leads_0 rfl (lv_at hl 1 rfl) ?_
  refine lv_if_lt (tgt := 30) hx hb dX2_leads_1 (by decide) (fun c1 => ?_) (fun c1 => ?_)
  · replace h := if_t c1 h
    refine lv_iconst (v := (0)) hx hb dX2_leads_30 (by decide) ?_
    exact r_zret C hr hP hS h dX2_leads_31
  · replace h := if_f c1 h
    refine lv_iload_n hx hb dX2_leads_4 rfl (lv_at hl 1 rfl) ?_
    refine lv_aload_n hx hb dX2_leads_5 rfl (lv_at hl 0 rfl) ?_
    refine r_getF (off := 7) C hP (iw hw (fi_2 hk0)) hk0 fl_X2_27 rfl rfl dX2_leads_6 ?_
    refine r_alen (v := 6) C hP (iw hw (ff_2_4 hk0).2) (Or.inl (ff_2_4 hk0).1) (by decide) dX2_leads_9 ?_
    refine lv_icmp_ge (tgt := 30) hx hb dX2_leads_10 (by decide) (fun c2 => ?_) (fun c2 => ?_)
    · replace h := if_t c2 h
      refine lv_iconst (v := (0)) hx hb dX2_leads_30 (by decide) ?_
      exact r_zret C hr hP hS h dX2_leads_31
    · replace h := if_f c2 h
      refine lv_aload_n hx hb dX2_leads_13 rfl (lv_at hl 0 rfl) ?_
      refine r_getF (off := 7) C hP (iw hw (fi_2 hk0)) hk0 fl_X2_27 rfl rfl dX2_leads_14 ?_
      refine lv_iload_n hx hb dX2_leads_17 rfl (lv_at hl 1 rfl) ?_
      obtain ⟨g3, h⟩ := gd_ok h
      refine r_iald C hP (iw hw (ff_2_4 hk0).2) (ff_2_4 hk0).1 g3 dX2_leads_18 ?_
      refine lv_iconst (v := (1)) hx hb dX2_leads_19 (by decide) ?_
      refine lv_iload_n hx hb dX2_leads_20 rfl (lv_at hl 2 rfl) ?_
      refine r_ishl hx hb dX2_leads_21 ?_
      refine lv_iand hx hb dX2_leads_22 ?_
      refine lv_if_eq (tgt := 30) hx hb dX2_leads_23 (by decide) (fun c4 => ?_) (fun c4 => ?_)
      · replace h := if_t c4 h
        refine lv_iconst (v := (0)) hx hb dX2_leads_30 (by decide) ?_
        exact r_zret C hr hP hS h dX2_leads_31
      · replace h := if_f c4 h
        refine lv_iconst (v := (1)) hx hb dX2_leads_26 (by decide) ?_
        refine lv_goto (tgt := 31) hx hb dX2_leads_27 (by decide) ?_
        exact r_zret C hr hP hS h dX2_leads_31

def f_X2_firstBehind_L2 (v0 : Nat) (v1 : Int32) (v2 : Int32) (μ : fMem) : Option (Nat × (Int32 × fMem)) :=
  bd (f_X2_told v0 (0 : Int32) μ) fun r2 μ1 => if r2 ≤ v2 then some (1, (v2, μ1)) else bd (f_X2_leads v0 v1 v2 μ1) fun r6 μ5 => if r6 = 0 then vl (v2 + (1 : Int32)) fun x9 => some (0, (x9, μ5)) else some (2, (v2, μ5))
def f_X2_firstBehind (v0 : Nat) (v1 : Int32) (μ : fMem) : Option (Int32 × fMem) :=
  bd (lpn (fun (q : Int32 × fMem) => f_X2_firstBehind_L2 v0 v1 q.1 q.2) fuel ((0 : Int32), μ)) fun t10 q11 => (fun (x12 : Int32) (μ13 : fMem) => if t10 = 0 then some ((-1 : Int32), μ13) else some (x12, μ13)) q11.1 q11.2
def rm_X2_firstBehind : Room := { frames := 1, cells := 0, slots := 0, locals := 22 }
set_option maxHeartbeats 4000000 in
set_option maxRecDepth 100000 in
theorem m_X2_firstBehind (l : Launch) (w : fW) (hJ : fJ w) (hw : w.2.2.2 = 0) (v0 : Nat) (v1 : Int32) (hk0 : kd v0 = (4, 2)) (μ : fMem) {r : Int32} {μr : fMem} (h : f_X2_firstBehind v0 v1 μ = some (r, μr)) : Met l yX2_firstBehind (.code yX2_firstBehind cX2_firstBehind 3 (some .int) :: gw) rm_X2_firstBehind (fPc w [.ref (w.2.2.1 v0), .int v1] μ) (fQi w r μr) 0 0 (fA w) := by
  refine met_of hJ (by decide) ?_ (Nat.le_of_ble_eq_true rfl)
  generalize ([.ref (w.2.2.1 v0), .int v1] : List Value).toArray = args
  intro p e s m below meth c ls C hr hP hl hS
  obtain ⟨hx, hb, hml, hown, hts, hK, -, hlk, hT⟩ := id C
  have hl : lv_has ls 3 [(0, .ref (w.2.2.1 v0)), (1, .int v1)] := hl
  unfold f_X2_firstBehind at h
  refine lv_iconst (v := (0)) hx hb dX2_firstBehind_0 (by decide) ?_
  refine lv_istore_n (lv' := [(2, .int (0 : Int32)), (0, .ref (w.2.2.1 v0)), (1, .int v1)]) hx hb dX2_firstBehind_1 rfl hl (by decide) rfl (fun ls hl => ?_)
  obtain ⟨t10, q11, h14, h⟩ := bd_ok h
  refine lpn_ind (b := (fun (q : Int32 × fMem) => f_X2_firstBehind_L2 v0 v1 q.1 q.2)) (P := fun (q : Int32 × fMem) => WW p l e rm_X2_firstBehind s m args below meth c (MQ below (fQi w r μr) args s 0 0 (fA w)) w q.2 3 2 [] [(0, .ref (w.2.2.1 v0)), (1, .int v1), (2, .int q.1)]) (K := fun t (q : Int32 × fMem) => (t = 0 → WW p l e rm_X2_firstBehind s m args below meth c (MQ below (fQi w r μr) args s 0 0 (fA w)) w q.2 3 28 [] []) ∧ (t = 1 → WW p l e rm_X2_firstBehind s m args below meth c (MQ below (fQi w r μr) args s 0 0 (fA w)) w q.2 3 20 [] [(2, .int q.1)])) ?_ fuel ((0 : Int32), μ) t10 q11 h14 ?_ _ _ _ hP hS (lv_sub hl [1, 2, 0] rfl)
  · intro q tz2 sz2 h hP0_2 hK0_2 H locs ls hP hS hl
    obtain ⟨v2, μ⟩ := q
    have hP : fP w μ H := hP
    have hl : lv_has ls 3 [(0, .ref (w.2.2.1 v0)), (1, .int v1), (2, .int v2)] := hl
    have h : f_X2_firstBehind_L2 v0 v1 v2 μ = some (tz2, sz2) := h
    unfold f_X2_firstBehind_L2 at h
    refine lv_iload_n hx hb dX2_firstBehind_2 rfl (lv_at hl 2 rfl) ?_
    refine lv_aload_n hx hb dX2_firstBehind_3 rfl (lv_at hl 0 rfl) ?_
    refine lv_iconst (v := (0)) hx hb dX2_firstBehind_4 (by decide) ?_
    obtain ⟨r2, μ1, h3, h⟩ := bd_ok h
    refine go_i (callV_run (As := [.int (0 : Int32)]) (rest := [.int v2]) C hl hP hS (iw hw (fi_2 hk0)) hk0 (m_X2_told l w hJ hw v0 (0 : Int32) hk0 μ h3) mv_X2_76 ⟨rfl, rfl, by decide, by decide⟩ rfl rfl (Nat.le_of_ble_eq_true rfl) ⟨Nat.zero_le _, Nat.zero_le _⟩ dX2_firstBehind_5) hS (fun H locs hP hS => ?_)
    refine lv_icmp_ge (tgt := 28) hx hb dX2_firstBehind_8 (by decide) (fun c4 => ?_) (fun c4 => ?_)
    · replace h := if_t c4 h
      obtain ⟨rfl, rfl⟩ := leaf h
      exact ((hK0_2 0 rfl).1 rfl) _ _ _ hP hS (lv_sub hl [] rfl)
    · replace h := if_f c4 h
      refine lv_aload_n hx hb dX2_firstBehind_11 rfl (lv_at hl 0 rfl) ?_
      refine lv_iload_n hx hb dX2_firstBehind_12 rfl (lv_at hl 1 rfl) ?_
      refine lv_iload_n hx hb dX2_firstBehind_13 rfl (lv_at hl 2 rfl) ?_
      obtain ⟨r6, μ5, h7, h⟩ := bd_ok h
      refine go_i (callV_run (As := [.int v1, .int v2]) (rest := []) C hl hP hS (iw hw (fi_2 hk0)) hk0 (m_X2_leads l w hJ hw v0 v1 v2 hk0 μ1 h7) mv_X2_80 ⟨rfl, rfl, by decide, by decide⟩ rfl rfl (Nat.le_of_ble_eq_true rfl) ⟨Nat.zero_le _, Nat.zero_le _⟩ dX2_firstBehind_14) hS (fun H locs hP hS => ?_)
      refine lv_if_eq (tgt := 22) hx hb dX2_firstBehind_17 (by decide) (fun c8 => ?_) (fun c8 => ?_)
      · replace h := if_t c8 h
        obtain ⟨x9, ex9⟩ : ∃ y : Int32, y = (v2 + (1 : Int32)) := ⟨_, rfl⟩
        replace h := vl_ok ex9 h
        refine lv_iinc (v := x9) (lv' := [(2, .int x9), (0, .ref (w.2.2.1 v0)), (1, .int v1)]) hx hb dX2_firstBehind_22 hl (k := 2) rfl (by rw [ex9]; rfl) (by decide) rfl (fun ls hl => ?_)
        refine lv_goto (tgt := 2) hx hb dX2_firstBehind_25 (by decide) ?_
        obtain ⟨rfl, rfl⟩ := leaf h
        exact hP0_2 rfl _ _ _ hP hS (lv_sub hl [1, 2, 0] rfl)
      · replace h := if_f c8 h
        obtain ⟨rfl, rfl⟩ := leaf h
        exact ((hK0_2 1 rfl).2 rfl) _ _ _ hP hS (lv_sub hl [2] rfl)
  · obtain ⟨x12, μ13⟩ := q11
    dsimp only at h
    refine ⟨fun ht => ?_, fun ht => ?_⟩
    · intro H locs ls hP hS hl
      have hP : fP w μ13 H := hP
      have hl : lv_has ls 3 [] := hl
      replace h := if_t ht h
      refine lv_iconst (v := (-1)) hx hb dX2_firstBehind_28 (by decide) ?_
      exact r_iret C hr hP hS h dX2_firstBehind_29
    · intro H locs ls hP hS hl
      have hP : fP w μ13 H := hP
      have hl : lv_has ls 3 [(2, .int x12)] := hl
      replace h := if_f (by rw [ht]; decide) h
      refine lv_iload_n hx hb dX2_firstBehind_20 rfl (lv_at hl 0 rfl) ?_
      exact r_iret C hr hP hS h dX2_firstBehind_21

def f_X2_lawOf (v0 : Nat) (v1 : Int32) (μ : fMem) : Option (Nat × fMem) :=
  if v1 = 0 then some ((v0 + 16), μ) else if v1 = (1 : Int32) then some ((v0 + 20), μ) else some ((v0 + 24), μ)
def rm_X2_lawOf : Room := { frames := 0, cells := 0, slots := 0, locals := 0 }
set_option maxHeartbeats 4000000 in
set_option maxRecDepth 100000 in
theorem m_X2_lawOf (l : Launch) (w : fW) (hJ : fJ w) (hw : w.2.2.2 = 0) (v0 : Nat) (v1 : Int32) (hk0 : kd v0 = (4, 2)) (μ : fMem) {r : Nat} {μr : fMem} (h : f_X2_lawOf v0 v1 μ = some (r, μr)) : Met l yX2_lawOf (.code yX2_lawOf cX2_lawOf 2 (some (.object "DeadMonday$Law")) :: gw) rm_X2_lawOf (fPc w [.ref (w.2.2.1 v0), .int v1] μ) (fQr w r μr) 0 0 (fA w) := by
  refine met_of hJ (by decide) ?_ (Nat.le_of_ble_eq_true rfl)
  generalize ([.ref (w.2.2.1 v0), .int v1] : List Value).toArray = args
  intro p e s m below meth c ls C hr hP hl hS
  obtain ⟨hx, hb, hml, hown, hts, hK, -, hlk, hT⟩ := id C
  have hl : lv_has ls 2 [(0, .ref (w.2.2.1 v0)), (1, .int v1)] := hl
  unfold f_X2_lawOf at h
  refine lv_iload_n hx hb dX2_lawOf_0 rfl (lv_at hl 1 rfl) ?_
  refine lv_if_ne (tgt := 11) hx hb dX2_lawOf_1 (by decide) (fun c1 => ?_) (fun c1 => ?_)
  · replace h := if_f c1 h
    refine lv_iload_n hx hb dX2_lawOf_11 rfl (lv_at hl 1 rfl) ?_
    refine lv_iconst (v := (1)) hx hb dX2_lawOf_12 (by decide) ?_
    refine lv_icmp_ne (tgt := 23) hx hb dX2_lawOf_13 (by decide) (fun c2 => ?_) (fun c2 => ?_)
    · replace h := if_f c2 h
      refine lv_aload_n hx hb dX2_lawOf_23 rfl (lv_at hl 0 rfl) ?_
      refine r_getF (off := 24) C hP (iw hw (fi_2 hk0)) hk0 fl_X2_64 rfl rfl dX2_lawOf_24 ?_
      exact r_aret C hr hP hS h dX2_lawOf_27
    · replace h := if_t c2 h
      refine lv_aload_n hx hb dX2_lawOf_16 rfl (lv_at hl 0 rfl) ?_
      refine r_getF (off := 20) C hP (iw hw (fi_2 hk0)) hk0 fl_X2_61 rfl rfl dX2_lawOf_17 ?_
      refine lv_goto (tgt := 27) hx hb dX2_lawOf_20 (by decide) ?_
      exact r_aret C hr hP hS h dX2_lawOf_27
  · replace h := if_t c1 h
    refine lv_aload_n hx hb dX2_lawOf_4 rfl (lv_at hl 0 rfl) ?_
    refine r_getF (off := 16) C hP (iw hw (fi_2 hk0)) hk0 fl_X2_57 rfl rfl dX2_lawOf_5 ?_
    refine lv_goto (tgt := 27) hx hb dX2_lawOf_8 (by decide) ?_
    exact r_aret C hr hP hS h dX2_lawOf_27

def f_X3_clear (v0 : Nat) (μ : fMem) : Option (Unit × fMem) :=
  vl (sI μ v0 0 (0 : Int32)) fun μ1 => vl (sI μ1 v0 1 (0 : Int32)) fun μ2 => vl (sI μ2 v0 2 (0 : Int32)) fun μ3 => some ((), μ3)
def rm_X3_clear : Room := { frames := 0, cells := 0, slots := 0, locals := 0 }
set_option maxHeartbeats 4000000 in
set_option maxRecDepth 100000 in
theorem m_X3_clear (l : Launch) (w : fW) (hJ : fJ w) (hw : w.2.2.2 = 0) (v0 : Nat) (hk0 : kd v0 = (4, 3)) (μ : fMem) {r : Unit} {μr : fMem} (h : f_X3_clear v0 μ = some (r, μr)) : Met l yX3_clear (.code yX3_clear cX3_clear 1 none :: gw) rm_X3_clear (fPc w [.ref (w.2.2.1 v0)] μ) (fQv w μr) 0 0 (fA w) := by
  refine met_of hJ (by decide) ?_ (Nat.le_of_ble_eq_true rfl)
  generalize ([.ref (w.2.2.1 v0)] : List Value).toArray = args
  intro p e s m below meth c ls C hr hP hl hS
  obtain ⟨hx, hb, hml, hown, hts, hK, -, hlk, hT⟩ := id C
  have hl : lv_has ls 1 [(0, .ref (w.2.2.1 v0))] := hl
  unfold f_X3_clear at h
  refine lv_aload_n hx hb dX3_clear_0 rfl (lv_at hl 0 rfl) ?_
  refine lv_iconst (v := (0)) hx hb dX3_clear_1 (by decide) ?_
  refine r_putZ C hP hS (iw hw (fi_3 hk0)) hk0 fp_X3_9 rfl (Or.inl rfl) dX3_clear_2 (fun H locs hP hS => ?_)
  obtain ⟨μ1, eμ1, h⟩ := vl_ex h
  have hP : fP w μ1 H := by rw [eμ1]; exact hP
  refine lv_aload_n hx hb dX3_clear_5 rfl (lv_at hl 0 rfl) ?_
  refine lv_iconst (v := (0)) hx hb dX3_clear_6 (by decide) ?_
  refine r_putI C hP hS (iw hw (fi_3 hk0)) hk0 fp_X3_15 rfl dX3_clear_7 (fun H locs hP hS => ?_)
  obtain ⟨μ2, eμ2, h⟩ := vl_ex h
  have hP : fP w μ2 H := by rw [eμ2]; exact hP
  refine lv_aload_n hx hb dX3_clear_10 rfl (lv_at hl 0 rfl) ?_
  refine lv_iconst (v := (0)) hx hb dX3_clear_11 (by decide) ?_
  refine r_putI C hP hS (iw hw (fi_3 hk0)) hk0 fp_X3_19 rfl dX3_clear_12 (fun H locs hP hS => ?_)
  obtain ⟨μ3, eμ3, h⟩ := vl_ex h
  have hP : fP w μ3 H := by rw [eμ3]; exact hP
  exact r_vret C hr hP hS h dX3_clear_15

def f_X2_clear (v0 : Nat) (μ : fMem) : Option (Unit × fMem) :=
  bd (f_J7_fill_53178 (v0 + 1) (0 : Int32) μ) fun r2 μ1 => bd (f_J7_fill_53178 (v0 + 7) (0 : Int32) μ1) fun r5 μ4 => vl (sI μ4 v0 1 (0 : Int32)) fun μ7 => vl (sI μ7 v0 2 (0 : Int32)) fun μ8 => bd (f_X3_clear (v0 + 16) μ8) fun r10 μ9 => bd (f_X3_clear (v0 + 20) μ9) fun r13 μ12 => bd (f_X3_clear (v0 + 24) μ12) fun r16 μ15 => some ((), μ15)
def rm_X2_clear : Room := { frames := 1, cells := 0, slots := 0, locals := 23 }
set_option maxHeartbeats 4000000 in
set_option maxRecDepth 100000 in
theorem m_X2_clear (l : Launch) (w : fW) (hJ : fJ w) (hw : w.2.2.2 = 0) (v0 : Nat) (hk0 : kd v0 = (4, 2)) (μ : fMem) {r : Unit} {μr : fMem} (h : f_X2_clear v0 μ = some (r, μr)) : Met l yX2_clear (.code yX2_clear cX2_clear 1 none :: gw) rm_X2_clear (fPc w [.ref (w.2.2.1 v0)] μ) (fQv w μr) 0 0 (fA w) := by
  refine met_of hJ (by decide) ?_ (Nat.le_of_ble_eq_true rfl)
  generalize ([.ref (w.2.2.1 v0)] : List Value).toArray = args
  intro p e s m below meth c ls C hr hP hl hS
  obtain ⟨hx, hb, hml, hown, hts, hK, -, hlk, hT⟩ := id C
  have hl : lv_has ls 1 [(0, .ref (w.2.2.1 v0))] := hl
  unfold f_X2_clear at h
  refine lv_aload_n hx hb dX2_clear_0 rfl (lv_at hl 0 rfl) ?_
  refine r_getF (off := 1) C hP (iw hw (fi_2 hk0)) hk0 fl_X2_9 rfl rfl dX2_clear_1 ?_
  refine lv_iconst (v := (0)) hx hb dX2_clear_4 (by decide) ?_
  obtain ⟨r2, μ1, h3, h⟩ := bd_ok h
  refine go_v (callS_run (As := [.ref (w.2.2.1 (v0 + 1)), .int (0 : Int32)]) (rest := []) C hl hP hS (m_J7_fill_53178 l w hJ (v0 + 1) (0 : Int32) (karr (ff_2_0 hk0).1) (iw hw (ff_2_0 hk0).2) μ h3) ms_X2_67 ⟨rfl, rfl, by decide, by decide⟩ rfl rfl (Nat.le_of_ble_eq_true rfl) ⟨Nat.zero_le _, Nat.zero_le _⟩ dX2_clear_5) hS (fun H locs hP hS => ?_)
  refine lv_aload_n hx hb dX2_clear_8 rfl (lv_at hl 0 rfl) ?_
  refine r_getF (off := 7) C hP (iw hw (fi_2 hk0)) hk0 fl_X2_27 rfl rfl dX2_clear_9 ?_
  refine lv_iconst (v := (0)) hx hb dX2_clear_12 (by decide) ?_
  obtain ⟨r5, μ4, h6, h⟩ := bd_ok h
  refine go_v (callS_run (As := [.ref (w.2.2.1 (v0 + 7)), .int (0 : Int32)]) (rest := []) C hl hP hS (m_J7_fill_53178 l w hJ (v0 + 7) (0 : Int32) (karr (ff_2_4 hk0).1) (iw hw (ff_2_4 hk0).2) μ1 h6) ms_X2_67 ⟨rfl, rfl, by decide, by decide⟩ rfl rfl (Nat.le_of_ble_eq_true rfl) ⟨Nat.zero_le _, Nat.zero_le _⟩ dX2_clear_13) hS (fun H locs hP hS => ?_)
  refine lv_aload_n hx hb dX2_clear_16 rfl (lv_at hl 0 rfl) ?_
  refine lv_iconst (v := (0)) hx hb dX2_clear_17 (by decide) ?_
  refine r_putI C hP hS (iw hw (fi_2 hk0)) hk0 fp_X2_15 rfl dX2_clear_18 (fun H locs hP hS => ?_)
  obtain ⟨μ7, eμ7, h⟩ := vl_ex h
  have hP : fP w μ7 H := by rw [eμ7]; exact hP
  refine lv_aload_n hx hb dX2_clear_21 rfl (lv_at hl 0 rfl) ?_
  refine lv_iconst (v := (0)) hx hb dX2_clear_22 (by decide) ?_
  refine r_putI C hP hS (iw hw (fi_2 hk0)) hk0 fp_X2_19 rfl dX2_clear_23 (fun H locs hP hS => ?_)
  obtain ⟨μ8, eμ8, h⟩ := vl_ex h
  have hP : fP w μ8 H := by rw [eμ8]; exact hP
  refine lv_aload_n hx hb dX2_clear_26 rfl (lv_at hl 0 rfl) ?_
  refine r_getF (off := 16) C hP (iw hw (fi_2 hk0)) hk0 fl_X2_57 rfl rfl dX2_clear_27 ?_
  obtain ⟨r10, μ9, h11, h⟩ := bd_ok h
  refine go_v (callV_run (As := []) (rest := []) C hl hP hS (iw hw (ff_2_13 hk0).2) (ff_2_13 hk0).1 (m_X3_clear l w hJ hw (v0 + 16) (ff_2_13 hk0).1 μ8 h11) mv_X2_73 ⟨rfl, rfl, by decide, by decide⟩ rfl rfl (Nat.le_of_ble_eq_true rfl) ⟨Nat.zero_le _, Nat.zero_le _⟩ dX2_clear_30) hS (fun H locs hP hS => ?_)
  refine lv_aload_n hx hb dX2_clear_33 rfl (lv_at hl 0 rfl) ?_
  refine r_getF (off := 20) C hP (iw hw (fi_2 hk0)) hk0 fl_X2_61 rfl rfl dX2_clear_34 ?_
  obtain ⟨r13, μ12, h14, h⟩ := bd_ok h
  refine go_v (callV_run (As := []) (rest := []) C hl hP hS (iw hw (ff_2_14 hk0).2) (ff_2_14 hk0).1 (m_X3_clear l w hJ hw (v0 + 20) (ff_2_14 hk0).1 μ9 h14) mv_X2_73 ⟨rfl, rfl, by decide, by decide⟩ rfl rfl (Nat.le_of_ble_eq_true rfl) ⟨Nat.zero_le _, Nat.zero_le _⟩ dX2_clear_37) hS (fun H locs hP hS => ?_)
  refine lv_aload_n hx hb dX2_clear_40 rfl (lv_at hl 0 rfl) ?_
  refine r_getF (off := 24) C hP (iw hw (fi_2 hk0)) hk0 fl_X2_64 rfl rfl dX2_clear_41 ?_
  obtain ⟨r16, μ15, h17, h⟩ := bd_ok h
  refine go_v (callV_run (As := []) (rest := []) C hl hP hS (iw hw (ff_2_15 hk0).2) (ff_2_15 hk0).1 (m_X3_clear l w hJ hw (v0 + 24) (ff_2_15 hk0).1 μ12 h17) mv_X2_73 ⟨rfl, rfl, by decide, by decide⟩ rfl rfl (Nat.le_of_ble_eq_true rfl) ⟨Nat.zero_le _, Nat.zero_le _⟩ dX2_clear_44) hS (fun H locs hP hS => ?_)
  exact r_vret C hr hP hS h dX2_clear_47

def f_X2_find_L17 (v0 : Nat) (v1 : Int32) (v2 : Int32) (v3 : Int32) (μ : fMem) : Option (Nat × (Int32 × fMem)) :=
  bd (f_X2_told v0 v1 μ) fun r4 μ3 => if r4 ≤ v3 then some (1, (v3, μ3)) else gd (ixo v1 4) (if (8 : Int32) ≤ v3 then some (1, (v3, μ3)) else gd (ixo v1 4) (gd (ixo v3 8) (if (μ3.1 ((v0 + 2) + 1 + (Int32.toNatClampNeg v1)) (Int32.toNatClampNeg v3)) = v2 then some (2, (v3, μ3)) else vl (v3 + (1 : Int32)) fun x12 => some (0, (x12, μ3)))))
def f_X2_find (v0 : Nat) (v1 : Int32) (v2 : Int32) (μ : fMem) : Option (Int32 × fMem) :=
  if v1 < 0 then some ((-1 : Int32), μ) else if v1 < (4 : Int32) then bd (lpn (fun (q : Int32 × fMem) => f_X2_find_L17 v0 v1 v2 q.1 q.2) fuel ((0 : Int32), μ)) fun t13 q14 => (fun (x15 : Int32) (μ16 : fMem) => if t13 = 0 then some ((-1 : Int32), μ16) else some (x15, μ16)) q14.1 q14.2 else some ((-1 : Int32), μ)
def rm_X2_find : Room := { frames := 1, cells := 0, slots := 0, locals := 21 }
set_option maxHeartbeats 4000000 in
set_option maxRecDepth 100000 in
theorem m_X2_find (l : Launch) (w : fW) (hJ : fJ w) (hw : w.2.2.2 = 0) (v0 : Nat) (v1 : Int32) (v2 : Int32) (hk0 : kd v0 = (4, 2)) (μ : fMem) {r : Int32} {μr : fMem} (h : f_X2_find v0 v1 v2 μ = some (r, μr)) : Met l yX2_find (.code yX2_find cX2_find 4 (some .int) :: gw) rm_X2_find (fPc w [.ref (w.2.2.1 v0), .int v1, .int v2] μ) (fQi w r μr) 0 0 (fA w) := by
  refine met_of hJ (by decide) ?_ (Nat.le_of_ble_eq_true rfl)
  generalize ([.ref (w.2.2.1 v0), .int v1, .int v2] : List Value).toArray = args
  intro p e s m below meth c ls C hr hP hl hS
  obtain ⟨hx, hb, hml, hown, hts, hK, -, hlk, hT⟩ := id C
  have hl : lv_has ls 4 [(0, .ref (w.2.2.1 v0)), (1, .int v1), (2, .int v2)] := hl
  unfold f_X2_find at h
  refine lv_iload_n hx hb dX2_find_0 rfl (lv_at hl 1 rfl) ?_
  refine lv_if_lt (tgt := 13) hx hb dX2_find_1 (by decide) (fun c1 => ?_) (fun c1 => ?_)
  · replace h := if_t c1 h
    refine lv_iconst (v := (-1)) hx hb dX2_find_13 (by decide) ?_
    exact r_iret C hr hP hS h dX2_find_14
  · replace h := if_f c1 h
    refine lv_iload_n hx hb dX2_find_4 rfl (lv_at hl 1 rfl) ?_
    refine lv_aload_n hx hb dX2_find_5 rfl (lv_at hl 0 rfl) ?_
    refine r_getF (off := 2) C hP (iw hw (fi_2 hk0)) hk0 fl_X2_24 rfl rfl dX2_find_6 ?_
    refine r_alen (v := 4) C hP (iw hw (ff_2_3 hk0).2) (Or.inr (Or.inr (Or.inr (ff_2_3 hk0).1))) (by decide) dX2_find_9 ?_
    refine lv_icmp_lt (tgt := 15) hx hb dX2_find_10 (by decide) (fun c2 => ?_) (fun c2 => ?_)
    · replace h := if_t c2 h
      refine lv_iconst (v := (0)) hx hb dX2_find_15 (by decide) ?_
      refine lv_istore_n (lv' := [(3, .int (0 : Int32)), (0, .ref (w.2.2.1 v0)), (1, .int v1), (2, .int v2)]) hx hb dX2_find_16 rfl hl (by decide) rfl (fun ls hl => ?_)
      obtain ⟨t13, q14, h17, h⟩ := bd_ok h
      refine lpn_ind (b := (fun (q : Int32 × fMem) => f_X2_find_L17 v0 v1 v2 q.1 q.2)) (P := fun (q : Int32 × fMem) => WW p l e rm_X2_find s m args below meth c (MQ below (fQi w r μr) args s 0 0 (fA w)) w q.2 4 17 [] [(0, .ref (w.2.2.1 v0)), (1, .int v1), (2, .int v2), (3, .int q.1)]) (K := fun t (q : Int32 × fMem) => (t = 0 → WW p l e rm_X2_find s m args below meth c (MQ below (fQi w r μr) args s 0 0 (fA w)) w q.2 4 57 [] []) ∧ (t = 1 → WW p l e rm_X2_find s m args below meth c (MQ below (fQi w r μr) args s 0 0 (fA w)) w q.2 4 49 [] [(3, .int q.1)])) ?_ fuel ((0 : Int32), μ) t13 q14 h17 ?_ _ _ _ hP hS (lv_sub hl [1, 2, 3, 0] rfl)
      · intro q tz17 sz17 h hP0_17 hK0_17 H locs ls hP hS hl
        obtain ⟨v3, μ⟩ := q
        have hP : fP w μ H := hP
        have hl : lv_has ls 4 [(0, .ref (w.2.2.1 v0)), (1, .int v1), (2, .int v2), (3, .int v3)] := hl
        have h : f_X2_find_L17 v0 v1 v2 v3 μ = some (tz17, sz17) := h
        unfold f_X2_find_L17 at h
        refine lv_iload_n hx hb dX2_find_17 rfl (lv_at hl 3 rfl) ?_
        refine lv_aload_n hx hb dX2_find_18 rfl (lv_at hl 0 rfl) ?_
        refine lv_iload_n hx hb dX2_find_19 rfl (lv_at hl 1 rfl) ?_
        obtain ⟨r4, μ3, h5, h⟩ := bd_ok h
        refine go_i (callV_run (As := [.int v1]) (rest := [.int v3]) C hl hP hS (iw hw (fi_2 hk0)) hk0 (m_X2_told l w hJ hw v0 v1 hk0 μ h5) mv_X2_76 ⟨rfl, rfl, by decide, by decide⟩ rfl rfl (Nat.le_of_ble_eq_true rfl) ⟨Nat.zero_le _, Nat.zero_le _⟩ dX2_find_20) hS (fun H locs hP hS => ?_)
        refine lv_icmp_ge (tgt := 57) hx hb dX2_find_23 (by decide) (fun c6 => ?_) (fun c6 => ?_)
        · replace h := if_t c6 h
          obtain ⟨rfl, rfl⟩ := leaf h
          exact ((hK0_17 0 rfl).1 rfl) _ _ _ hP hS (lv_sub hl [] rfl)
        · replace h := if_f c6 h
          refine lv_iload_n hx hb dX2_find_26 rfl (lv_at hl 3 rfl) ?_
          refine lv_aload_n hx hb dX2_find_27 rfl (lv_at hl 0 rfl) ?_
          refine r_getF (off := 2) C hP (iw hw (fi_2 hk0)) hk0 fl_X2_24 rfl rfl dX2_find_28 ?_
          refine lv_iload_n hx hb dX2_find_31 rfl (lv_at hl 1 rfl) ?_
          obtain ⟨g7, h⟩ := gd_ok h
          refine r_aald C hP (iw hw (ff_2_3 hk0).2) (ff_2_3 hk0).1 g7 dX2_find_32 ?_
          refine r_alen (v := 8) C hP (iw hw (fr_row (ff_2_3 hk0).1 (ixlt g7)).2) (Or.inl (rowkd (fr_row (ff_2_3 hk0).1 (ixlt g7)).1 (f2_2_3 hk0))) (by decide) dX2_find_33 ?_
          refine lv_icmp_ge (tgt := 57) hx hb dX2_find_34 (by decide) (fun c8 => ?_) (fun c8 => ?_)
          · replace h := if_t c8 h
            obtain ⟨rfl, rfl⟩ := leaf h
            exact ((hK0_17 0 rfl).1 rfl) _ _ _ hP hS (lv_sub hl [] rfl)
          · replace h := if_f c8 h
            refine lv_aload_n hx hb dX2_find_37 rfl (lv_at hl 0 rfl) ?_
            refine r_getF (off := 2) C hP (iw hw (fi_2 hk0)) hk0 fl_X2_24 rfl rfl dX2_find_38 ?_
            refine lv_iload_n hx hb dX2_find_41 rfl (lv_at hl 1 rfl) ?_
            obtain ⟨g9, h⟩ := gd_ok h
            refine r_aald C hP (iw hw (ff_2_3 hk0).2) (ff_2_3 hk0).1 g9 dX2_find_42 ?_
            refine lv_iload_n hx hb dX2_find_43 rfl (lv_at hl 3 rfl) ?_
            obtain ⟨g10, h⟩ := gd_ok h
            refine r_iald C hP (iw hw (fr_row (ff_2_3 hk0).1 (ixlt g9)).2) (rowkd (fr_row (ff_2_3 hk0).1 (ixlt g9)).1 (f2_2_3 hk0)) g10 dX2_find_44 ?_
            refine lv_iload_n hx hb dX2_find_45 rfl (lv_at hl 2 rfl) ?_
            refine lv_icmp_ne (tgt := 51) hx hb dX2_find_46 (by decide) (fun c11 => ?_) (fun c11 => ?_)
            · replace h := if_f c11 h
              obtain ⟨x12, ex12⟩ : ∃ y : Int32, y = (v3 + (1 : Int32)) := ⟨_, rfl⟩
              replace h := vl_ok ex12 h
              refine lv_iinc (v := x12) (lv' := [(3, .int x12), (0, .ref (w.2.2.1 v0)), (1, .int v1), (2, .int v2)]) hx hb dX2_find_51 hl (k := 3) rfl (by rw [ex12]; rfl) (by decide) rfl (fun ls hl => ?_)
              refine lv_goto (tgt := 17) hx hb dX2_find_54 (by decide) ?_
              obtain ⟨rfl, rfl⟩ := leaf h
              exact hP0_17 rfl _ _ _ hP hS (lv_sub hl [1, 2, 3, 0] rfl)
            · replace h := if_t c11 h
              obtain ⟨rfl, rfl⟩ := leaf h
              exact ((hK0_17 1 rfl).2 rfl) _ _ _ hP hS (lv_sub hl [3] rfl)
      · obtain ⟨x15, μ16⟩ := q14
        dsimp only at h
        refine ⟨fun ht => ?_, fun ht => ?_⟩
        · intro H locs ls hP hS hl
          have hP : fP w μ16 H := hP
          have hl : lv_has ls 4 [] := hl
          replace h := if_t ht h
          refine lv_iconst (v := (-1)) hx hb dX2_find_57 (by decide) ?_
          exact r_iret C hr hP hS h dX2_find_58
        · intro H locs ls hP hS hl
          have hP : fP w μ16 H := hP
          have hl : lv_has ls 4 [(3, .int x15)] := hl
          replace h := if_f (by rw [ht]; decide) h
          refine lv_iload_n hx hb dX2_find_49 rfl (lv_at hl 0 rfl) ?_
          exact r_iret C hr hP hS h dX2_find_50
    · replace h := if_f c2 h
      refine lv_iconst (v := (-1)) hx hb dX2_find_13 (by decide) ?_
      exact r_iret C hr hP hS h dX2_find_14

def f_X2_nextTo_L4 (v0 : Nat) (v1 : Int32) (v2 : Int32) (v3 : Int32) (μ : fMem) : Option (Nat × (Int32 × Int32 × fMem)) :=
  if (6 : Int32) ≤ v3 then some (1, (v2, v3, μ)) else if (v1 &&& (shl (1 : Int32) v3)) = 0 then vl (v3 + (1 : Int32)) fun x3 => some (0, (v2, x3, μ)) else gd (ixo v3 6) (vl (v2 ||| (μ.1 (v0 + 7) (Int32.toNatClampNeg v3))) fun x5 => vl (v3 + (1 : Int32)) fun x6 => some (0, (x5, x6, μ)))
def f_X2_nextTo (v0 : Nat) (v1 : Int32) (μ : fMem) : Option (Int32 × fMem) :=
  bd (lpn (fun (q : Int32 × Int32 × fMem) => f_X2_nextTo_L4 v0 v1 q.1 q.2.1 q.2.2) fuel ((0 : Int32), (0 : Int32), μ)) fun t7 q8 => (fun (x9 : Int32) (x10 : Int32) (μ11 : fMem) => some (x9, μ11)) q8.1 q8.2.1 q8.2.2
def rm_X2_nextTo : Room := { frames := 0, cells := 0, slots := 0, locals := 0 }
set_option maxHeartbeats 4000000 in
set_option maxRecDepth 100000 in
theorem m_X2_nextTo (l : Launch) (w : fW) (hJ : fJ w) (hw : w.2.2.2 = 0) (v0 : Nat) (v1 : Int32) (hk0 : kd v0 = (4, 2)) (μ : fMem) {r : Int32} {μr : fMem} (h : f_X2_nextTo v0 v1 μ = some (r, μr)) : Met l yX2_nextTo (.code yX2_nextTo cX2_nextTo 4 (some .int) :: gw) rm_X2_nextTo (fPc w [.ref (w.2.2.1 v0), .int v1] μ) (fQi w r μr) 0 0 (fA w) := by
  refine met_of hJ (by decide) ?_ (Nat.le_of_ble_eq_true rfl)
  generalize ([.ref (w.2.2.1 v0), .int v1] : List Value).toArray = args
  intro p e s m below meth c ls C hr hP hl hS
  obtain ⟨hx, hb, hml, hown, hts, hK, -, hlk, hT⟩ := id C
  have hl : lv_has ls 4 [(0, .ref (w.2.2.1 v0)), (1, .int v1)] := hl
  unfold f_X2_nextTo at h
  refine lv_iconst (v := (0)) hx hb dX2_nextTo_0 (by decide) ?_
  refine lv_istore_n (lv' := [(2, .int (0 : Int32)), (0, .ref (w.2.2.1 v0)), (1, .int v1)]) hx hb dX2_nextTo_1 rfl hl (by decide) rfl (fun ls hl => ?_)
  refine lv_iconst (v := (0)) hx hb dX2_nextTo_2 (by decide) ?_
  refine lv_istore_n (lv' := [(3, .int (0 : Int32)), (2, .int (0 : Int32)), (0, .ref (w.2.2.1 v0)), (1, .int v1)]) hx hb dX2_nextTo_3 rfl hl (by decide) rfl (fun ls hl => ?_)
  obtain ⟨t7, q8, h12, h⟩ := bd_ok h
  refine lpn_ind (b := (fun (q : Int32 × Int32 × fMem) => f_X2_nextTo_L4 v0 v1 q.1 q.2.1 q.2.2)) (P := fun (q : Int32 × Int32 × fMem) => WW p l e rm_X2_nextTo s m args below meth c (MQ below (fQi w r μr) args s 0 0 (fA w)) w q.2.2 4 4 [] [(0, .ref (w.2.2.1 v0)), (1, .int v1), (2, .int q.1), (3, .int q.2.1)]) (K := fun _ (q : Int32 × Int32 × fMem) => WW p l e rm_X2_nextTo s m args below meth c (MQ below (fQi w r μr) args s 0 0 (fA w)) w q.2.2 4 36 [] [(2, .int q.1)]) ?_ fuel ((0 : Int32), (0 : Int32), μ) t7 q8 h12 ?_ _ _ _ hP hS (lv_sub hl [2, 3, 1, 0] rfl)
  · intro q tz4 sz4 h hP0_4 hK0_4 H locs ls hP hS hl
    obtain ⟨v2, v3, μ⟩ := q
    have hP : fP w μ H := hP
    have hl : lv_has ls 4 [(0, .ref (w.2.2.1 v0)), (1, .int v1), (2, .int v2), (3, .int v3)] := hl
    have h : f_X2_nextTo_L4 v0 v1 v2 v3 μ = some (tz4, sz4) := h
    unfold f_X2_nextTo_L4 at h
    refine lv_iload_n hx hb dX2_nextTo_4 rfl (lv_at hl 3 rfl) ?_
    refine lv_aload_n hx hb dX2_nextTo_5 rfl (lv_at hl 0 rfl) ?_
    refine r_getF (off := 7) C hP (iw hw (fi_2 hk0)) hk0 fl_X2_27 rfl rfl dX2_nextTo_6 ?_
    refine r_alen (v := 6) C hP (iw hw (ff_2_4 hk0).2) (Or.inl (ff_2_4 hk0).1) (by decide) dX2_nextTo_9 ?_
    refine lv_icmp_ge (tgt := 36) hx hb dX2_nextTo_10 (by decide) (fun c1 => ?_) (fun c1 => ?_)
    · replace h := if_t c1 h
      obtain ⟨rfl, rfl⟩ := leaf h
      exact (hK0_4 0 rfl) _ _ _ hP hS (lv_sub hl [2] rfl)
    · replace h := if_f c1 h
      refine lv_iload_n hx hb dX2_nextTo_13 rfl (lv_at hl 1 rfl) ?_
      refine lv_iconst (v := (1)) hx hb dX2_nextTo_14 (by decide) ?_
      refine lv_iload_n hx hb dX2_nextTo_15 rfl (lv_at hl 3 rfl) ?_
      refine r_ishl hx hb dX2_nextTo_16 ?_
      refine lv_iand hx hb dX2_nextTo_17 ?_
      refine lv_if_eq (tgt := 30) hx hb dX2_nextTo_18 (by decide) (fun c2 => ?_) (fun c2 => ?_)
      · replace h := if_t c2 h
        obtain ⟨x3, ex3⟩ : ∃ y : Int32, y = (v3 + (1 : Int32)) := ⟨_, rfl⟩
        replace h := vl_ok ex3 h
        refine lv_iinc (v := x3) (lv' := [(3, .int x3), (0, .ref (w.2.2.1 v0)), (1, .int v1), (2, .int v2)]) hx hb dX2_nextTo_30 hl (k := 3) rfl (by rw [ex3]; rfl) (by decide) rfl (fun ls hl => ?_)
        refine lv_goto (tgt := 4) hx hb dX2_nextTo_33 (by decide) ?_
        obtain ⟨rfl, rfl⟩ := leaf h
        exact hP0_4 rfl _ _ _ hP hS (lv_sub hl [1, 2, 3, 0] rfl)
      · replace h := if_f c2 h
        refine lv_iload_n hx hb dX2_nextTo_21 rfl (lv_at hl 2 rfl) ?_
        refine lv_aload_n hx hb dX2_nextTo_22 rfl (lv_at hl 0 rfl) ?_
        refine r_getF (off := 7) C hP (iw hw (fi_2 hk0)) hk0 fl_X2_27 rfl rfl dX2_nextTo_23 ?_
        refine lv_iload_n hx hb dX2_nextTo_26 rfl (lv_at hl 3 rfl) ?_
        obtain ⟨g4, h⟩ := gd_ok h
        refine r_iald C hP (iw hw (ff_2_4 hk0).2) (ff_2_4 hk0).1 g4 dX2_nextTo_27 ?_
        refine lv_ior hx hb dX2_nextTo_28 ?_
        refine lv_topi (fun x5 ex5 => ?_)
        replace h := vl_ok ex5 h
        refine lv_istore_n (lv' := [(2, .int x5), (0, .ref (w.2.2.1 v0)), (1, .int v1), (3, .int v3)]) hx hb dX2_nextTo_29 rfl hl (by decide) rfl (fun ls hl => ?_)
        obtain ⟨x6, ex6⟩ : ∃ y : Int32, y = (v3 + (1 : Int32)) := ⟨_, rfl⟩
        replace h := vl_ok ex6 h
        refine lv_iinc (v := x6) (lv' := [(3, .int x6), (2, .int x5), (0, .ref (w.2.2.1 v0)), (1, .int v1)]) hx hb dX2_nextTo_30 hl (k := 3) rfl (by rw [ex6]; rfl) (by decide) rfl (fun ls hl => ?_)
        refine lv_goto (tgt := 4) hx hb dX2_nextTo_33 (by decide) ?_
        obtain ⟨rfl, rfl⟩ := leaf h
        exact hP0_4 rfl _ _ _ hP hS (lv_sub hl [2, 3, 1, 0] rfl)
  · obtain ⟨x9, x10, μ11⟩ := q8
    intro H locs ls hP hS hl
    have hP : fP w μ11 H := hP
    have hl : lv_has ls 4 [(2, .int x9)] := hl
    dsimp only at h
    refine lv_iload_n hx hb dX2_nextTo_36 rfl (lv_at hl 0 rfl) ?_
    exact r_iret C hr hP hS h dX2_nextTo_37

