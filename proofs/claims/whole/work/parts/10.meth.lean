def f_J6_bitCount_0f7a4 (v0 : Int32) (μ : fMem) : Option (Int32 × fMem) :=
  vl (v0 - ((ushr v0 (1 : Int32)) &&& (1431655765 : Int32))) fun x1 => vl ((x1 &&& (858993459 : Int32)) + ((ushr x1 (2 : Int32)) &&& (858993459 : Int32))) fun x2 => vl ((x2 + (ushr x2 (4 : Int32))) &&& (252645135 : Int32)) fun x3 => vl (x3 + (ushr x3 (8 : Int32))) fun x4 => vl (x4 + (ushr x4 (16 : Int32))) fun x5 => some ((x5 &&& (63 : Int32)), μ)
def rm_J6_bitCount_0f7a4 : Room := { frames := 0, cells := 0, slots := 0, locals := 0 }
set_option maxHeartbeats 4000000 in
set_option maxRecDepth 100000 in
theorem m_J6_bitCount_0f7a4 (l : Launch) (w : fW) (hJ : fJ w) (v0 : Int32) (μ : fMem) {r : Int32} {μr : fMem} (h : f_J6_bitCount_0f7a4 v0 μ = some (r, μr)) : Met l yJ6_bitCount_0f7a4 (.code yJ6_bitCount_0f7a4 cJ6_bitCount_0f7a4 1 (some .int) :: gw) rm_J6_bitCount_0f7a4 (fPc w [.int v0] μ) (fQi w r μr) 0 0 (fA w) := by
  refine met_of hJ (by decide) ?_ (Nat.le_of_ble_eq_true rfl)
  generalize ([.int v0] : List Value).toArray = args
  intro p e s m below meth c ls C hr hP hl hS
  obtain ⟨hx, hb, hml, hown, hts, hK, -, hlk, hT⟩ := id C
  have hl : lv_has ls 1 [(0, .int v0)] := hl
  unfold f_J6_bitCount_0f7a4 at h
  refine lv_iload_n hx hb dJ6_bitCount_0f7a4_0 rfl (lv_at hl 0 rfl) ?_
  refine lv_iload_n hx hb dJ6_bitCount_0f7a4_1 rfl (lv_at hl 0 rfl) ?_
  refine lv_iconst (v := (1)) hx hb dJ6_bitCount_0f7a4_2 (by decide) ?_
  refine r_iushr hx hb dJ6_bitCount_0f7a4_3 ?_
  refine lv_ldcw hx hb hown (hts _ ct_J6_265) dJ6_bitCount_0f7a4_4 ?_
  refine lv_iand hx hb dJ6_bitCount_0f7a4_7 ?_
  refine lv_isub hx hb dJ6_bitCount_0f7a4_8 ?_
  refine lv_topi (fun x1 ex1 => ?_)
  replace h := vl_ok ex1 h
  refine lv_istore_n (lv' := [(0, .int x1)]) hx hb dJ6_bitCount_0f7a4_9 rfl hl (by decide) rfl (fun ls hl => ?_)
  refine lv_iload_n hx hb dJ6_bitCount_0f7a4_10 rfl (lv_at hl 0 rfl) ?_
  refine lv_ldcw hx hb hown (hts _ ct_J6_266) dJ6_bitCount_0f7a4_11 ?_
  refine lv_iand hx hb dJ6_bitCount_0f7a4_14 ?_
  refine lv_iload_n hx hb dJ6_bitCount_0f7a4_15 rfl (lv_at hl 0 rfl) ?_
  refine lv_iconst (v := (2)) hx hb dJ6_bitCount_0f7a4_16 (by decide) ?_
  refine r_iushr hx hb dJ6_bitCount_0f7a4_17 ?_
  refine lv_ldcw hx hb hown (hts _ ct_J6_266) dJ6_bitCount_0f7a4_18 ?_
  refine lv_iand hx hb dJ6_bitCount_0f7a4_21 ?_
  refine lv_iadd hx hb dJ6_bitCount_0f7a4_22 ?_
  refine lv_topi (fun x2 ex2 => ?_)
  replace h := vl_ok ex2 h
  refine lv_istore_n (lv' := [(0, .int x2)]) hx hb dJ6_bitCount_0f7a4_23 rfl hl (by decide) rfl (fun ls hl => ?_)
  refine lv_iload_n hx hb dJ6_bitCount_0f7a4_24 rfl (lv_at hl 0 rfl) ?_
  refine lv_iload_n hx hb dJ6_bitCount_0f7a4_25 rfl (lv_at hl 0 rfl) ?_
  refine lv_iconst (v := (4)) hx hb dJ6_bitCount_0f7a4_26 (by decide) ?_
  refine r_iushr hx hb dJ6_bitCount_0f7a4_27 ?_
  refine lv_iadd hx hb dJ6_bitCount_0f7a4_28 ?_
  refine lv_ldcw hx hb hown (hts _ ct_J6_267) dJ6_bitCount_0f7a4_29 ?_
  refine lv_iand hx hb dJ6_bitCount_0f7a4_32 ?_
  refine lv_topi (fun x3 ex3 => ?_)
  replace h := vl_ok ex3 h
  refine lv_istore_n (lv' := [(0, .int x3)]) hx hb dJ6_bitCount_0f7a4_33 rfl hl (by decide) rfl (fun ls hl => ?_)
  refine lv_iload_n hx hb dJ6_bitCount_0f7a4_34 rfl (lv_at hl 0 rfl) ?_
  refine lv_iload_n hx hb dJ6_bitCount_0f7a4_35 rfl (lv_at hl 0 rfl) ?_
  refine lv_bipush (v := (8)) hx hb dJ6_bitCount_0f7a4_36 (by decide) ?_
  refine r_iushr hx hb dJ6_bitCount_0f7a4_38 ?_
  refine lv_iadd hx hb dJ6_bitCount_0f7a4_39 ?_
  refine lv_topi (fun x4 ex4 => ?_)
  replace h := vl_ok ex4 h
  refine lv_istore_n (lv' := [(0, .int x4)]) hx hb dJ6_bitCount_0f7a4_40 rfl hl (by decide) rfl (fun ls hl => ?_)
  refine lv_iload_n hx hb dJ6_bitCount_0f7a4_41 rfl (lv_at hl 0 rfl) ?_
  refine lv_iload_n hx hb dJ6_bitCount_0f7a4_42 rfl (lv_at hl 0 rfl) ?_
  refine lv_bipush (v := (16)) hx hb dJ6_bitCount_0f7a4_43 (by decide) ?_
  refine r_iushr hx hb dJ6_bitCount_0f7a4_45 ?_
  refine lv_iadd hx hb dJ6_bitCount_0f7a4_46 ?_
  refine lv_topi (fun x5 ex5 => ?_)
  replace h := vl_ok ex5 h
  refine lv_istore_n (lv' := [(0, .int x5)]) hx hb dJ6_bitCount_0f7a4_47 rfl hl (by decide) rfl (fun ls hl => ?_)
  refine lv_iload_n hx hb dJ6_bitCount_0f7a4_48 rfl (lv_at hl 0 rfl) ?_
  refine lv_bipush (v := (63)) hx hb dJ6_bitCount_0f7a4_49 (by decide) ?_
  refine lv_iand hx hb dJ6_bitCount_0f7a4_51 ?_
  exact r_iret C hr hP hS h dJ6_bitCount_0f7a4_52

def f_J7_fill_d0a16_L6 (v0 : Nat) (v1 : Int64) (x1 : Int32) (v3 : Int32) (μ : fMem) : Option (Nat × (Int32 × fMem)) :=
  if x1 ≤ v3 then some (1, (v3, μ)) else gd (ixo v3 (kd v0).2) (vl (sL μ v0 (Int32.toNatClampNeg v3) v1) fun μ3 => vl (v3 + (1 : Int32)) fun x5 => some (0, (x5, μ3)))
def f_J7_fill_d0a16 (v0 : Nat) (v1 : Int64) (μ : fMem) : Option (Unit × fMem) :=
  vl (Int32.ofNat (kd v0).2) fun x1 => bd (lpn (fun (q : Int32 × fMem) => f_J7_fill_d0a16_L6 v0 v1 x1 q.1 q.2) fuel ((0 : Int32), μ)) fun t6 q7 => (fun (x8 : Int32) (μ9 : fMem) => some ((), μ9)) q7.1 q7.2
def rm_J7_fill_d0a16 : Room := { frames := 0, cells := 0, slots := 0, locals := 0 }
set_option maxHeartbeats 4000000 in
set_option maxRecDepth 100000 in
theorem m_J7_fill_d0a16 (l : Launch) (w : fW) (hJ : fJ w) (v0 : Nat) (v1 : Int64) (hk0 : kd v0 = (2, (kd v0).2)) (hi0 : inW w.2.2.2 v0) (μ : fMem) {r : Unit} {μr : fMem} (h : f_J7_fill_d0a16 v0 v1 μ = some (r, μr)) : Met l yJ7_fill_d0a16 (.code yJ7_fill_d0a16 cJ7_fill_d0a16 5 none :: gw) rm_J7_fill_d0a16 (fPc w [.ref (w.2.2.1 v0), .long v1] μ) (fQv w μr) 0 0 (fA w) := by
  refine met_of hJ (by decide) ?_ (Nat.le_of_ble_eq_true rfl)
  generalize ([.ref (w.2.2.1 v0), .long v1] : List Value).toArray = args
  intro p e s m below meth c ls C hr hP hl hS
  obtain ⟨hx, hb, hml, hown, hts, hK, -, hlk, hT⟩ := id C
  have hl : lv_has ls 5 [(0, .ref (w.2.2.1 v0)), (1, .long v1)] := hl
  unfold f_J7_fill_d0a16 at h
  refine lv_iconst (v := (0)) hx hb dJ7_fill_d0a16_0 (by decide) ?_
  refine lv_istore_n (lv' := [(3, .int (0 : Int32)), (0, .ref (w.2.2.1 v0)), (1, .long v1)]) hx hb dJ7_fill_d0a16_1 rfl hl (by decide) rfl (fun ls hl => ?_)
  refine lv_aload_n hx hb dJ7_fill_d0a16_2 rfl (lv_at hl 1 rfl) ?_
  refine r_alen C hP hi0 (Or.inr (Or.inr (Or.inl hk0))) rfl dJ7_fill_d0a16_3 ?_
  refine lv_topi (fun x1 ex1 => ?_)
  replace h := vl_ok ex1 h
  refine lv_istore (lv' := [(4, .int x1), (3, .int (0 : Int32)), (0, .ref (w.2.2.1 v0)), (1, .long v1)]) hx hb dJ7_fill_d0a16_4 hl (by decide) rfl (fun ls hl => ?_)
  obtain ⟨t6, q7, h10, h⟩ := bd_ok h
  refine lpn_ind (b := (fun (q : Int32 × fMem) => f_J7_fill_d0a16_L6 v0 v1 x1 q.1 q.2)) (P := fun (q : Int32 × fMem) => WW p l e rm_J7_fill_d0a16 s m args below meth c (MQ below (fQv w μr) args s 0 0 (fA w)) w q.2 5 6 [] [(0, .ref (w.2.2.1 v0)), (1, .long v1), (3, .int q.1), (4, .int x1)]) (K := fun _ (q : Int32 × fMem) => WW p l e rm_J7_fill_d0a16 s m args below meth c (MQ below (fQv w μr) args s 0 0 (fA w)) w q.2 5 22 [] []) ?_ fuel ((0 : Int32), μ) t6 q7 h10 ?_ _ _ _ hP hS (lv_sub hl [2, 3, 1, 0] rfl)
  · intro q tz6 sz6 h hP0_6 hK0_6 H locs ls hP hS hl
    obtain ⟨v3, μ⟩ := q
    have hP : fP w μ H := hP
    have hl : lv_has ls 5 [(0, .ref (w.2.2.1 v0)), (1, .long v1), (3, .int v3), (4, .int x1)] := hl
    have h : f_J7_fill_d0a16_L6 v0 v1 x1 v3 μ = some (tz6, sz6) := h
    unfold f_J7_fill_d0a16_L6 at h
    refine lv_iload_n hx hb dJ7_fill_d0a16_6 rfl (lv_at hl 2 rfl) ?_
    refine lv_iload hx hb dJ7_fill_d0a16_7 (lv_at hl 3 rfl) ?_
    refine lv_icmp_ge (tgt := 22) hx hb dJ7_fill_d0a16_9 (by decide) (fun c2 => ?_) (fun c2 => ?_)
    · replace h := if_t c2 h
      obtain ⟨rfl, rfl⟩ := leaf h
      exact (hK0_6 0 rfl) _ _ _ hP hS (lv_sub hl [] rfl)
    · replace h := if_f c2 h
      refine lv_aload_n hx hb dJ7_fill_d0a16_12 rfl (lv_at hl 0 rfl) ?_
      refine lv_iload_n hx hb dJ7_fill_d0a16_13 rfl (lv_at hl 2 rfl) ?_
      refine lv_lload_n hx hb dJ7_fill_d0a16_14 rfl (lv_at hl 1 rfl) ?_
      obtain ⟨g4, h⟩ := gd_ok h
      refine r_last C hP hS hi0 hk0 g4 dJ7_fill_d0a16_15 (fun H locs hP hS => ?_)
      obtain ⟨μ3, eμ3, h⟩ := vl_ex h
      have hP : fP w μ3 H := by rw [eμ3]; exact hP
      obtain ⟨x5, ex5⟩ : ∃ y : Int32, y = (v3 + (1 : Int32)) := ⟨_, rfl⟩
      replace h := vl_ok ex5 h
      refine lv_iinc (v := x5) (lv' := [(3, .int x5), (0, .ref (w.2.2.1 v0)), (1, .long v1), (4, .int x1)]) hx hb dJ7_fill_d0a16_16 hl (k := 2) rfl (by rw [ex5]; rfl) (by decide) rfl (fun ls hl => ?_)
      refine lv_goto (tgt := 6) hx hb dJ7_fill_d0a16_19 (by decide) ?_
      obtain ⟨rfl, rfl⟩ := leaf h
      exact hP0_6 rfl _ _ _ hP hS (lv_sub hl [1, 2, 0, 3] rfl)
  · obtain ⟨x8, μ9⟩ := q7
    intro H locs ls hP hS hl
    have hP : fP w μ9 H := hP
    have hl : lv_has ls 5 [] := hl
    try dsimp only at h
    exact r_vret C hr hP hS h dJ7_fill_d0a16_22

def f_J7_fill_53178_L5 (v0 : Nat) (v1 : Int32) (x1 : Int32) (v2 : Int32) (μ : fMem) : Option (Nat × (Int32 × fMem)) :=
  if x1 ≤ v2 then some (1, (v2, μ)) else gd (ixo v2 (kd v0).2) (vl (sI μ v0 (Int32.toNatClampNeg v2) v1) fun μ3 => vl (v2 + (1 : Int32)) fun x5 => some (0, (x5, μ3)))
def f_J7_fill_53178 (v0 : Nat) (v1 : Int32) (μ : fMem) : Option (Unit × fMem) :=
  vl (Int32.ofNat (kd v0).2) fun x1 => bd (lpn (fun (q : Int32 × fMem) => f_J7_fill_53178_L5 v0 v1 x1 q.1 q.2) fuel ((0 : Int32), μ)) fun t6 q7 => (fun (x8 : Int32) (μ9 : fMem) => some ((), μ9)) q7.1 q7.2
def rm_J7_fill_53178 : Room := { frames := 0, cells := 0, slots := 0, locals := 0 }
set_option maxHeartbeats 4000000 in
set_option maxRecDepth 100000 in
theorem m_J7_fill_53178 (l : Launch) (w : fW) (hJ : fJ w) (v0 : Nat) (v1 : Int32) (hk0 : kd v0 = (0, (kd v0).2)) (hi0 : inW w.2.2.2 v0) (μ : fMem) {r : Unit} {μr : fMem} (h : f_J7_fill_53178 v0 v1 μ = some (r, μr)) : Met l yJ7_fill_53178 (.code yJ7_fill_53178 cJ7_fill_53178 4 none :: gw) rm_J7_fill_53178 (fPc w [.ref (w.2.2.1 v0), .int v1] μ) (fQv w μr) 0 0 (fA w) := by
  refine met_of hJ (by decide) ?_ (Nat.le_of_ble_eq_true rfl)
  generalize ([.ref (w.2.2.1 v0), .int v1] : List Value).toArray = args
  intro p e s m below meth c ls C hr hP hl hS
  obtain ⟨hx, hb, hml, hown, hts, hK, -, hlk, hT⟩ := id C
  have hl : lv_has ls 4 [(0, .ref (w.2.2.1 v0)), (1, .int v1)] := hl
  unfold f_J7_fill_53178 at h
  refine lv_iconst (v := (0)) hx hb dJ7_fill_53178_0 (by decide) ?_
  refine lv_istore_n (lv' := [(2, .int (0 : Int32)), (0, .ref (w.2.2.1 v0)), (1, .int v1)]) hx hb dJ7_fill_53178_1 rfl hl (by decide) rfl (fun ls hl => ?_)
  refine lv_aload_n hx hb dJ7_fill_53178_2 rfl (lv_at hl 1 rfl) ?_
  refine r_alen C hP hi0 (Or.inl hk0) rfl dJ7_fill_53178_3 ?_
  refine lv_topi (fun x1 ex1 => ?_)
  replace h := vl_ok ex1 h
  refine lv_istore_n (lv' := [(3, .int x1), (2, .int (0 : Int32)), (0, .ref (w.2.2.1 v0)), (1, .int v1)]) hx hb dJ7_fill_53178_4 rfl hl (by decide) rfl (fun ls hl => ?_)
  obtain ⟨t6, q7, h10, h⟩ := bd_ok h
  refine lpn_ind (b := (fun (q : Int32 × fMem) => f_J7_fill_53178_L5 v0 v1 x1 q.1 q.2)) (P := fun (q : Int32 × fMem) => WW p l e rm_J7_fill_53178 s m args below meth c (MQ below (fQv w μr) args s 0 0 (fA w)) w q.2 4 5 [] [(0, .ref (w.2.2.1 v0)), (1, .int v1), (2, .int q.1), (3, .int x1)]) (K := fun _ (q : Int32 × fMem) => WW p l e rm_J7_fill_53178 s m args below meth c (MQ below (fQv w μr) args s 0 0 (fA w)) w q.2 4 20 [] []) ?_ fuel ((0 : Int32), μ) t6 q7 h10 ?_ _ _ _ hP hS (lv_sub hl [2, 3, 1, 0] rfl)
  · intro q tz5 sz5 h hP0_5 hK0_5 H locs ls hP hS hl
    obtain ⟨v2, μ⟩ := q
    have hP : fP w μ H := hP
    have hl : lv_has ls 4 [(0, .ref (w.2.2.1 v0)), (1, .int v1), (2, .int v2), (3, .int x1)] := hl
    have h : f_J7_fill_53178_L5 v0 v1 x1 v2 μ = some (tz5, sz5) := h
    unfold f_J7_fill_53178_L5 at h
    refine lv_iload_n hx hb dJ7_fill_53178_5 rfl (lv_at hl 2 rfl) ?_
    refine lv_iload_n hx hb dJ7_fill_53178_6 rfl (lv_at hl 3 rfl) ?_
    refine lv_icmp_ge (tgt := 20) hx hb dJ7_fill_53178_7 (by decide) (fun c2 => ?_) (fun c2 => ?_)
    · replace h := if_t c2 h
      obtain ⟨rfl, rfl⟩ := leaf h
      exact (hK0_5 0 rfl) _ _ _ hP hS (lv_sub hl [] rfl)
    · replace h := if_f c2 h
      refine lv_aload_n hx hb dJ7_fill_53178_10 rfl (lv_at hl 0 rfl) ?_
      refine lv_iload_n hx hb dJ7_fill_53178_11 rfl (lv_at hl 2 rfl) ?_
      refine lv_iload_n hx hb dJ7_fill_53178_12 rfl (lv_at hl 1 rfl) ?_
      obtain ⟨g4, h⟩ := gd_ok h
      refine r_iast C hP hS hi0 hk0 g4 dJ7_fill_53178_13 (fun H locs hP hS => ?_)
      obtain ⟨μ3, eμ3, h⟩ := vl_ex h
      have hP : fP w μ3 H := by rw [eμ3]; exact hP
      obtain ⟨x5, ex5⟩ : ∃ y : Int32, y = (v2 + (1 : Int32)) := ⟨_, rfl⟩
      replace h := vl_ok ex5 h
      refine lv_iinc (v := x5) (lv' := [(2, .int x5), (0, .ref (w.2.2.1 v0)), (1, .int v1), (3, .int x1)]) hx hb dJ7_fill_53178_14 hl (k := 2) rfl (by rw [ex5]; rfl) (by decide) rfl (fun ls hl => ?_)
      refine lv_goto (tgt := 5) hx hb dJ7_fill_53178_17 (by decide) ?_
      obtain ⟨rfl, rfl⟩ := leaf h
      exact hP0_5 rfl _ _ _ hP hS (lv_sub hl [1, 2, 0, 3] rfl)
  · obtain ⟨x8, μ9⟩ := q7
    intro H locs ls hP hS hl
    have hP : fP w μ9 H := hP
    have hl : lv_has ls 4 [] := hl
    try dsimp only at h
    exact r_vret C hr hP hS h dJ7_fill_53178_20

def f_X0_forget (v0 : Nat) (μ : fMem) : Option (Unit × fMem) :=
  bd (f_J7_fill_d0a16 (v0 + 37) (-1 : Int64) μ) fun r2 μ1 => some ((), μ1)
def rm_X0_forget : Room := { frames := 1, cells := 0, slots := 0, locals := 24 }
set_option maxHeartbeats 4000000 in
set_option maxRecDepth 100000 in
theorem m_X0_forget (l : Launch) (w : fW) (hJ : fJ w) (hw : w.2.2.2 = sd 0) (v0 : Nat) (hk0 : kd v0 = (4, 0)) (μ : fMem) {r : Unit} {μr : fMem} (h : f_X0_forget v0 μ = some (r, μr)) : Met l yX0_forget (.code yX0_forget cX0_forget 1 none :: gw) rm_X0_forget (fPc w [.ref (w.2.2.1 v0)] μ) (fQv w μr) 0 0 (fA w) := by
  refine met_of hJ (by decide) ?_ (Nat.le_of_ble_eq_true rfl)
  generalize ([.ref (w.2.2.1 v0)] : List Value).toArray = args
  intro p e s m below meth c ls C hr hP hl hS
  obtain ⟨hx, hb, hml, hown, hts, hK, -, hlk, hT⟩ := id C
  have hl : lv_has ls 1 [(0, .ref (w.2.2.1 v0))] := hl
  unfold f_X0_forget at h
  refine lv_aload_n hx hb dX0_forget_0 rfl (lv_at hl 0 rfl) ?_
  refine r_getF (off := 37) C hP (iw hw (fi_0 hk0)) hk0 fl_X0_63 rfl rfl (zw hw) dX0_forget_1 ?_
  refine lv_ldc2 hx hb hown (hts _ ct_X0_75) dX0_forget_4 ?_
  obtain ⟨r2, μ1, h3, h⟩ := bd_ok h
  refine go_v (callS_run (As := [.ref (w.2.2.1 (v0 + 37)), .long (-1 : Int64)]) (rest := []) C hl hP (hS.wide hJ).2.1 (m_J7_fill_d0a16 l w hJ (v0 + 37) (-1 : Int64) (karr (ff_0_13 hk0).1) (iw hw (ff_0_13 hk0).2) μ h3) ms_X0_77 ⟨rfl, rfl, by decide, by decide⟩ rfl rfl (Nat.le_of_ble_eq_true rfl) ⟨Nat.zero_le _, Nat.zero_le _⟩ dX0_forget_7) hS (fun H locs hP hS => ?_)
  exact r_vret C hr hP hS h dX0_forget_10

def f_X2_told (v0 : Nat) (v1 : Int32) (μ : fMem) : Option (Int32 × fMem) :=
  if v1 < 0 then some ((0 : Int32), μ) else if (6 : Int32) ≤ v1 then some ((0 : Int32), μ) else gd (ixo v1 6) (some ((μ.1 (v0 + 1) (Int32.toNatClampNeg v1)), μ))
def rm_X2_told : Room := { frames := 0, cells := 0, slots := 0, locals := 0 }
set_option maxHeartbeats 4000000 in
set_option maxRecDepth 100000 in
theorem m_X2_told (l : Launch) (w : fW) (hJ : fJ w) (hw : w.2.2.2 = sd 0) (v0 : Nat) (v1 : Int32) (hk0 : kd v0 = (4, 2)) (μ : fMem) {r : Int32} {μr : fMem} (h : f_X2_told v0 v1 μ = some (r, μr)) : Met l yX2_told (.code yX2_told cX2_told 2 (some .int) :: gw) rm_X2_told (fPc w [.ref (w.2.2.1 v0), .int v1] μ) (fQi w r μr) 0 0 (fA w) := by
  refine met_of hJ (by decide) ?_ (Nat.le_of_ble_eq_true rfl)
  generalize ([.ref (w.2.2.1 v0), .int v1] : List Value).toArray = args
  intro p e s m below meth c ls C hr hP hl hS
  obtain ⟨hx, hb, hml, hown, hts, hK, -, hlk, hT⟩ := id C
  have hl : lv_has ls 2 [(0, .ref (w.2.2.1 v0)), (1, .int v1)] := hl
  unfold f_X2_told at h
  refine lv_iload_n hx hb dX2_told_0 rfl (lv_at hl 1 rfl) ?_
  refine lv_if_lt (tgt := 22) hx hb dX2_told_1 (by decide) (fun c1 => ?_) (fun c1 => ?_)
  · replace h := if_t c1 h
    refine lv_iconst (v := (0)) hx hb dX2_told_22 (by decide) ?_
    exact r_iret C hr hP hS h dX2_told_23
  · replace h := if_f c1 h
    refine lv_iload_n hx hb dX2_told_4 rfl (lv_at hl 1 rfl) ?_
    refine lv_aload_n hx hb dX2_told_5 rfl (lv_at hl 0 rfl) ?_
    refine r_getF (off := 1) C hP (iw hw (fi_2 hk0)) hk0 fl_X2_9 rfl rfl (zw hw) dX2_told_6 ?_
    refine r_alen (v := 6) C hP (iw hw (ff_2_0 hk0).2) (Or.inl (ff_2_0 hk0).1) (by decide) dX2_told_9 ?_
    refine lv_icmp_ge (tgt := 22) hx hb dX2_told_10 (by decide) (fun c2 => ?_) (fun c2 => ?_)
    · replace h := if_t c2 h
      refine lv_iconst (v := (0)) hx hb dX2_told_22 (by decide) ?_
      exact r_iret C hr hP hS h dX2_told_23
    · replace h := if_f c2 h
      refine lv_aload_n hx hb dX2_told_13 rfl (lv_at hl 0 rfl) ?_
      refine r_getF (off := 1) C hP (iw hw (fi_2 hk0)) hk0 fl_X2_9 rfl rfl (zw hw) dX2_told_14 ?_
      refine lv_iload_n hx hb dX2_told_17 rfl (lv_at hl 1 rfl) ?_
      obtain ⟨g3, h⟩ := gd_ok h
      refine r_iald C hP (iw hw (ff_2_0 hk0).2) (ff_2_0 hk0).1 g3 dX2_told_18 ?_
      refine lv_goto (tgt := 23) hx hb dX2_told_19 (by decide) ?_
      exact r_iret C hr hP hS h dX2_told_23

def f_X2_glassOf (v0 : Nat) (v1 : Int32) (μ : fMem) : Option (Int32 × fMem) :=
  bd (f_X2_told v0 (4 : Int32) μ) fun r2 μ1 => if r2 ≤ 0 then some ((50 : Int32), μ1) else if (9 : Int32) < r2 then some ((50 : Int32), μ1) else if 0 ≤ v1 then gd (¬ r2 = 0) (gd (ixo (irm v1 r2) 9) (some ((μ1.1 (v0 + 15) (Int32.toNatClampNeg (irm v1 r2))), μ1))) else some ((50 : Int32), μ1)
def rm_X2_glassOf : Room := { frames := 1, cells := 0, slots := 0, locals := 21 }
set_option maxHeartbeats 4000000 in
set_option maxRecDepth 100000 in
theorem m_X2_glassOf (l : Launch) (w : fW) (hJ : fJ w) (hw : w.2.2.2 = sd 0) (v0 : Nat) (v1 : Int32) (hk0 : kd v0 = (4, 2)) (μ : fMem) {r : Int32} {μr : fMem} (h : f_X2_glassOf v0 v1 μ = some (r, μr)) : Met l yX2_glassOf (.code yX2_glassOf cX2_glassOf 3 (some .int) :: gw) rm_X2_glassOf (fPc w [.ref (w.2.2.1 v0), .int v1] μ) (fQi w r μr) 0 0 (fA w) := by
  refine met_of hJ (by decide) ?_ (Nat.le_of_ble_eq_true rfl)
  generalize ([.ref (w.2.2.1 v0), .int v1] : List Value).toArray = args
  intro p e s m below meth c ls C hr hP hl hS
  obtain ⟨hx, hb, hml, hown, hts, hK, -, hlk, hT⟩ := id C
  have hl : lv_has ls 3 [(0, .ref (w.2.2.1 v0)), (1, .int v1)] := hl
  unfold f_X2_glassOf at h
  refine lv_aload_n hx hb dX2_glassOf_0 rfl (lv_at hl 0 rfl) ?_
  refine lv_iconst (v := (4)) hx hb dX2_glassOf_1 (by decide) ?_
  obtain ⟨r2, μ1, h3, h⟩ := bd_ok h
  refine go_i (callV_run (As := [.int (4 : Int32)]) (rest := []) C hl hP (hS.wide hJ).2.1 (iw hw (fi_2 hk0)) hk0 (m_X2_told l w hJ hw v0 (4 : Int32) hk0 μ h3) mv_X2_76 ⟨rfl, rfl, by decide, by decide⟩ rfl rfl (Nat.le_of_ble_eq_true rfl) ⟨Nat.zero_le _, Nat.zero_le _⟩ dX2_glassOf_2) hS (fun H locs hP hS => ?_)
  refine lv_istore_n (lv' := [(2, .int r2), (0, .ref (w.2.2.1 v0)), (1, .int v1)]) hx hb dX2_glassOf_5 rfl hl (by decide) rfl (fun ls hl => ?_)
  refine lv_iload_n hx hb dX2_glassOf_6 rfl (lv_at hl 0 rfl) ?_
  refine lv_if_le (tgt := 23) hx hb dX2_glassOf_7 (by decide) (fun c4 => ?_) (fun c4 => ?_)
  · replace h := if_t c4 h
    refine lv_bipush (v := (50)) hx hb dX2_glassOf_23 (by decide) ?_
    exact r_iret C hr hP hS h dX2_glassOf_25
  · replace h := if_f c4 h
    refine lv_iload_n hx hb dX2_glassOf_10 rfl (lv_at hl 0 rfl) ?_
    refine lv_aload_n hx hb dX2_glassOf_11 rfl (lv_at hl 1 rfl) ?_
    refine r_getF (off := 15) C hP (iw hw (fi_2 hk0)) hk0 fl_X2_51 rfl rfl (zw hw) dX2_glassOf_12 ?_
    refine r_alen (v := 9) C hP (iw hw (ff_2_12 hk0).2) (Or.inl (ff_2_12 hk0).1) (by decide) dX2_glassOf_15 ?_
    refine lv_icmp_gt (tgt := 23) hx hb dX2_glassOf_16 (by decide) (fun c5 => ?_) (fun c5 => ?_)
    · replace h := if_t c5 h
      refine lv_bipush (v := (50)) hx hb dX2_glassOf_23 (by decide) ?_
      exact r_iret C hr hP hS h dX2_glassOf_25
    · replace h := if_f c5 h
      refine lv_iload_n hx hb dX2_glassOf_19 rfl (lv_at hl 2 rfl) ?_
      refine lv_if_ge (tgt := 26) hx hb dX2_glassOf_20 (by decide) (fun c6 => ?_) (fun c6 => ?_)
      · replace h := if_t c6 h
        refine lv_aload_n hx hb dX2_glassOf_26 rfl (lv_at hl 1 rfl) ?_
        refine r_getF (off := 15) C hP (iw hw (fi_2 hk0)) hk0 fl_X2_51 rfl rfl (zw hw) dX2_glassOf_27 ?_
        refine lv_iload_n hx hb dX2_glassOf_30 rfl (lv_at hl 2 rfl) ?_
        refine lv_iload_n hx hb dX2_glassOf_31 rfl (lv_at hl 0 rfl) ?_
        obtain ⟨g7, h⟩ := gd_ok h
        refine r_irem hx hb dX2_glassOf_32 g7 ?_
        obtain ⟨g8, h⟩ := gd_ok h
        refine r_iald C hP (iw hw (ff_2_12 hk0).2) (ff_2_12 hk0).1 g8 dX2_glassOf_33 ?_
        exact r_iret C hr hP hS h dX2_glassOf_34
      · replace h := if_f c6 h
        refine lv_bipush (v := (50)) hx hb dX2_glassOf_23 (by decide) ?_
        exact r_iret C hr hP hS h dX2_glassOf_25

def f_X3_looksAt (v0 : Nat) (v1 : Int32) (μ : fMem) : Option (Int32 × fMem) :=
  if ((μ.1 v0 2) &&& (shl (1 : Int32) v1)) = 0 then gd (bl (0 : Int32)) (some ((0 : Int32), μ)) else gd (bl (1 : Int32)) (some ((1 : Int32), μ))
def rm_X3_looksAt : Room := { frames := 0, cells := 0, slots := 0, locals := 0 }
set_option maxHeartbeats 4000000 in
set_option maxRecDepth 100000 in
theorem m_X3_looksAt (l : Launch) (w : fW) (hJ : fJ w) (hw : w.2.2.2 = sd 0) (v0 : Nat) (v1 : Int32) (hk0 : kd v0 = (4, 3)) (μ : fMem) {r : Int32} {μr : fMem} (h : f_X3_looksAt v0 v1 μ = some (r, μr)) : Met l yX3_looksAt (.code yX3_looksAt cX3_looksAt 2 (some .boolean) :: gw) rm_X3_looksAt (fPc w [.ref (w.2.2.1 v0), .int v1] μ) (fQi w r μr) 0 0 (fA w) := by
  refine met_of hJ (by decide) ?_ (Nat.le_of_ble_eq_true rfl)
  generalize ([.ref (w.2.2.1 v0), .int v1] : List Value).toArray = args
  intro p e s m below meth c ls C hr hP hl hS
  obtain ⟨hx, hb, hml, hown, hts, hK, -, hlk, hT⟩ := id C
  have hl : lv_has ls 2 [(0, .ref (w.2.2.1 v0)), (1, .int v1)] := hl
  unfold f_X3_looksAt at h
  refine lv_aload_n hx hb dX3_looksAt_0 rfl (lv_at hl 0 rfl) ?_
  refine r_getI C hP (iw hw (fi_3 hk0)) hk0 fl_X3_19 (Or.inl rfl) dX3_looksAt_1 ?_
  refine lv_iconst (v := (1)) hx hb dX3_looksAt_4 (by decide) ?_
  refine lv_iload_n hx hb dX3_looksAt_5 rfl (lv_at hl 1 rfl) ?_
  refine r_ishl hx hb dX3_looksAt_6 ?_
  refine lv_iand hx hb dX3_looksAt_7 ?_
  refine lv_if_eq (tgt := 15) hx hb dX3_looksAt_8 (by decide) (fun c1 => ?_) (fun c1 => ?_)
  · replace h := if_t c1 h
    refine lv_iconst (v := (0)) hx hb dX3_looksAt_15 (by decide) ?_
    exact r_zret C hr hP hS h dX3_looksAt_16
  · replace h := if_f c1 h
    refine lv_iconst (v := (1)) hx hb dX3_looksAt_11 (by decide) ?_
    refine lv_goto (tgt := 16) hx hb dX3_looksAt_12 (by decide) ?_
    exact r_zret C hr hP hS h dX3_looksAt_16

def f_X0_look_j120 (v0 : Nat) (v1 : Nat) (t0 : Nat) (t1 : Int64) (t2 : Int64) (μ : fMem) : Option (Unit × fMem) :=
  vl (sL μ t0 15 (t1 + t2)) fun μ25 => bd (f_X3_looksAt v1 (4 : Int32) μ25) fun r27 μ26 => gd (bl r27) (vl (sI μ26 v0 16 r27) fun μ29 => some ((), μ29))
def f_X0_look_j95 (v0 : Nat) (v1 : Nat) (t0 : Nat) (t1 : Int64) (μ : fMem) : Option (Unit × fMem) :=
  bd (f_X3_looksAt v1 (6 : Int32) μ) fun r20 μ19 => if r20 = 0 then f_X0_look_j120 v0 v1 t0 t1 (0 : Int64) μ19 else vl (μ19.2.2 v0 9) fun x23 => gd (kd x23 = (4, 7)) (f_X0_look_j120 v0 v1 t0 t1 ((((μ19.1 x23 6)).toInt64) * (2048 : Int64)) μ19)
def f_X0_look_j65 (v0 : Nat) (μ : fMem) : Option (Unit × fMem) :=
  vl (μ.2.2 v0 8) fun x12 => gd (kd x12 = (4, 2)) (vl (x12 + 16) fun x14 => bd (f_X3_looksAt x14 (5 : Int32) μ) fun r16 μ15 => if r16 = 0 then f_X0_look_j95 v0 x14 v0 (0 : Int64) μ15 else f_X0_look_j95 v0 x14 v0 ((((μ15.1 v0 10)).toInt64) * (16 : Int64)) μ15)
def f_X0_look (v0 : Nat) (μ : fMem) : Option (Unit × fMem) :=
  if (μ.1 v0 7) = 0 then vl (μ.2.2 v0 8) fun x2 => gd (kd x2 = (4, 2)) (vl (μ.2.2 v0 9) fun x4 => gd (kd x4 = (4, 7)) (bd (f_X2_glassOf x2 (μ.1 x4 6) μ) fun r7 μ6 => vl (sI μ6 v0 10 r7) fun μ9 => f_X0_look_j65 v0 μ9)) else vl (sL μ v0 6 ((((μ.2.1 v0 6) * (1103515245 : Int64)) + (12345 : Int64)) &&& (2147483647 : Int64))) fun μ10 => vl (sI μ10 v0 10 (Int64.toInt32 (lrm ((μ10.2.1 v0 6) / (65536 : Int64)) (100 : Int64)))) fun μ11 => f_X0_look_j65 v0 μ11
def rm_X0_look : Room := { frames := 2, cells := 0, slots := 0, locals := 43 }
set_option maxHeartbeats 4000000 in
set_option maxRecDepth 100000 in
theorem m_X0_look (l : Launch) (w : fW) (hJ : fJ w) (hw : w.2.2.2 = sd 0) (v0 : Nat) (hk0 : kd v0 = (4, 0)) (μ : fMem) {r : Unit} {μr : fMem} (h : f_X0_look v0 μ = some (r, μr)) : Met l yX0_look (.code yX0_look cX0_look 2 none :: gw) rm_X0_look (fPc w [.ref (w.2.2.1 v0)] μ) (fQv w μr) 0 0 (fA w) := by
  refine met_of hJ (by decide) ?_ (Nat.le_of_ble_eq_true rfl)
  generalize ([.ref (w.2.2.1 v0)] : List Value).toArray = args
  intro p e s m below meth c ls C hr hP hl hS
  obtain ⟨hx, hb, hml, hown, hts, hK, -, hlk, hT⟩ := id C
  have hl : lv_has ls 2 [(0, .ref (w.2.2.1 v0))] := hl
  unfold f_X0_look at h
  have J120 : ∀ (v1 : Nat) (t0 : Nat) (t1 : Int64) (t2 : Int64) (μ : fMem) (_ : kd v1 = (4, 3)) (_ : inW w.2.2.2 v1) (_ : kd t0 = (4, 0)) (_ : inW w.2.2.2 t0), f_X0_look_j120 v0 v1 t0 t1 t2 μ = some (r, μr) → WW p l e rm_X0_look s m args below meth c (MQ below (fQv w μr) args s 0 0 (fA w)) w μ 2 120 [.long t2, .long t1, .ref (w.2.2.1 t0)] [(0, .ref (w.2.2.1 v0)), (1, .ref (w.2.2.1 v1))] := by
    intro v1 t0 t1 t2 μ kv1 iv1 kt0 it0 h H locs ls hP hS hl
    unfold f_X0_look_j120 at h
    refine lv_ladd hx hb dX0_look_120 ?_
    refine r_putL C hP hS it0 kt0 fp_X0_69 rfl dX0_look_121 (fun H locs hP hS => ?_)
    obtain ⟨μ25, eμ25, h⟩ := vl_ex h
    have hP : fP w μ25 H := by rw [eμ25]; exact hP
    refine lv_aload_n hx hb dX0_look_124 rfl (lv_at hl 0 rfl) ?_
    refine lv_aload_n hx hb dX0_look_125 rfl (lv_at hl 1 rfl) ?_
    refine lv_iconst (v := (4)) hx hb dX0_look_126 (by decide) ?_
    obtain ⟨r27, μ26, h28, h⟩ := bd_ok h
    refine go_i (callV_run (As := [.int (4 : Int32)]) (rest := [.ref (w.2.2.1 v0)]) C hl hP (hS.wide hJ).2.1 iv1 kv1 (m_X3_looksAt l w hJ hw v1 (4 : Int32) kv1 μ25 h28) mv_X0_107 ⟨rfl, rfl, by decide, by decide⟩ rfl rfl (Nat.le_of_ble_eq_true rfl) ⟨Nat.zero_le _, Nat.zero_le _⟩ dX0_look_127) hS (fun H locs hP hS => ?_)
    obtain ⟨g30, h⟩ := gd_ok h
    refine r_putZ C hP hS (iw hw (fi_0 hk0)) hk0 fp_X0_72 rfl g30 dX0_look_130 (fun H locs hP hS => ?_)
    obtain ⟨μ29, eμ29, h⟩ := vl_ex h
    have hP : fP w μ29 H := by rw [eμ29]; exact hP
    exact r_vret C hr hP hS h dX0_look_133
  have J95 : ∀ (v1 : Nat) (t0 : Nat) (t1 : Int64) (μ : fMem) (_ : kd v1 = (4, 3)) (_ : inW w.2.2.2 v1) (_ : kd t0 = (4, 0)) (_ : inW w.2.2.2 t0), f_X0_look_j95 v0 v1 t0 t1 μ = some (r, μr) → WW p l e rm_X0_look s m args below meth c (MQ below (fQv w μr) args s 0 0 (fA w)) w μ 2 95 [.long t1, .ref (w.2.2.1 t0)] [(0, .ref (w.2.2.1 v0)), (1, .ref (w.2.2.1 v1))] := by
    intro v1 t0 t1 μ kv1 iv1 kt0 it0 h H locs ls hP hS hl
    unfold f_X0_look_j95 at h
    refine lv_aload_n hx hb dX0_look_95 rfl (lv_at hl 1 rfl) ?_
    refine lv_bipush (v := (6)) hx hb dX0_look_96 (by decide) ?_
    obtain ⟨r20, μ19, h21, h⟩ := bd_ok h
    refine go_i (callV_run (As := [.int (6 : Int32)]) (rest := [.long t1, .ref (w.2.2.1 t0)]) C hl hP (hS.wide hJ).2.1 iv1 kv1 (m_X3_looksAt l w hJ hw v1 (6 : Int32) kv1 μ h21) mv_X0_107 ⟨rfl, rfl, by decide, by decide⟩ rfl rfl (Nat.le_of_ble_eq_true rfl) ⟨Nat.zero_le _, Nat.zero_le _⟩ dX0_look_98) hS (fun H locs hP hS => ?_)
    refine lv_if_eq (tgt := 119) hx hb dX0_look_101 (by decide) (fun c22 => ?_) (fun c22 => ?_)
    · replace h := if_t c22 h
      refine lv_lconst (v := 0) hx hb dX0_look_119 (by decide) ?_
      exact J120 v1 t0 t1 (0 : Int64) μ19 kv1 iv1 kt0 it0 h _ _ _ hP hS (lv_sub hl [0, 1] rfl)
    · replace h := if_f c22 h
      refine lv_aload_n hx hb dX0_look_104 rfl (lv_at hl 0 rfl) ?_
      refine r_getRx C hP (iw hw (fi_0 hk0)) hk0 fl_X0_48 rfl (zw hw) dX0_look_105 (fun x23 ex23 => ?_)
      replace h := vl_ok ex23 h
      obtain ⟨g24, h⟩ := gd_ok h
      refine r_getI C hP (iw hw (fi_7 g24)) g24 fl_X0_96 (Or.inl rfl) dX0_look_108 ?_
      refine lv_i2l hx hb dX0_look_111 rfl ?_
      refine lv_ldc2 hx hb hown (hts _ ct_X0_115) dX0_look_112 ?_
      refine lv_lmul hx hb dX0_look_115 ?_
      refine lv_goto (tgt := 120) hx hb dX0_look_116 (by decide) ?_
      exact J120 v1 t0 t1 ((((μ19.1 x23 6)).toInt64) * (2048 : Int64)) μ19 kv1 iv1 kt0 it0 h _ _ _ hP hS (lv_sub hl [0, 1] rfl)
  have J65 : ∀  (μ : fMem), f_X0_look_j65 v0 μ = some (r, μr) → WW p l e rm_X0_look s m args below meth c (MQ below (fQv w μr) args s 0 0 (fA w)) w μ 2 65 [] [(0, .ref (w.2.2.1 v0))] := by
    intro  μ  h H locs ls hP hS hl
    unfold f_X0_look_j65 at h
    refine lv_aload_n hx hb dX0_look_65 rfl (lv_at hl 0 rfl) ?_
    refine r_getRx C hP (iw hw (fi_0 hk0)) hk0 fl_X0_41 rfl (zw hw) dX0_look_66 (fun x12 ex12 => ?_)
    replace h := vl_ok ex12 h
    obtain ⟨g13, h⟩ := gd_ok h
    refine r_getF (off := 16) C hP (iw hw (fi_2 g13)) g13 fl_X0_103 rfl rfl (zw hw) dX0_look_69 ?_
    refine r_topr (fun x14 ex14 => ?_)
    replace h := vl_ok ex14 h
    refine lv_astore_n (lv' := [(1, .ref (w.2.2.1 x14)), (0, .ref (w.2.2.1 v0))]) hx hb dX0_look_72 rfl hl (by decide) rfl (fun ls hl => ?_)
    refine lv_aload_n hx hb dX0_look_73 rfl (lv_at hl 1 rfl) ?_
    refine lv_aload_n hx hb dX0_look_74 rfl (lv_at hl 0 rfl) ?_
    refine lv_iconst (v := (5)) hx hb dX0_look_75 (by decide) ?_
    obtain ⟨r16, μ15, h17, h⟩ := bd_ok h
    refine go_i (callV_run (As := [.int (5 : Int32)]) (rest := [.ref (w.2.2.1 v0)]) C hl hP (hS.wide hJ).2.1 (by rw [ex14]; exact (iw hw (ff_2_13 g13).2)) (by rw [ex14]; exact (ff_2_13 g13).1) (m_X3_looksAt l w hJ hw x14 (5 : Int32) (by rw [ex14]; exact (ff_2_13 g13).1) μ h17) mv_X0_107 ⟨rfl, rfl, by decide, by decide⟩ rfl rfl (Nat.le_of_ble_eq_true rfl) ⟨Nat.zero_le _, Nat.zero_le _⟩ dX0_look_76) hS (fun H locs hP hS => ?_)
    refine lv_if_eq (tgt := 94) hx hb dX0_look_79 (by decide) (fun c18 => ?_) (fun c18 => ?_)
    · replace h := if_t c18 h
      refine lv_lconst (v := 0) hx hb dX0_look_94 (by decide) ?_
      exact J95 x14 v0 (0 : Int64) μ15 (by rw [ex14]; exact (ff_2_13 g13).1) (by rw [ex14]; exact (iw hw (ff_2_13 g13).2)) hk0 (iw hw (fi_0 hk0)) h _ _ _ hP hS (lv_sub hl [1, 0] rfl)
    · replace h := if_f c18 h
      refine lv_aload_n hx hb dX0_look_82 rfl (lv_at hl 1 rfl) ?_
      refine r_getI C hP (iw hw (fi_0 hk0)) hk0 fl_X0_52 (Or.inl rfl) dX0_look_83 ?_
      refine lv_i2l hx hb dX0_look_86 rfl ?_
      refine lv_ldc2 hx hb hown (hts _ ct_X0_113) dX0_look_87 ?_
      refine lv_lmul hx hb dX0_look_90 ?_
      refine lv_goto (tgt := 95) hx hb dX0_look_91 (by decide) ?_
      exact J95 x14 v0 ((((μ15.1 v0 10)).toInt64) * (16 : Int64)) μ15 (by rw [ex14]; exact (ff_2_13 g13).1) (by rw [ex14]; exact (iw hw (ff_2_13 g13).2)) hk0 (iw hw (fi_0 hk0)) h _ _ _ hP hS (lv_sub hl [1, 0] rfl)
  refine lv_aload_n hx hb dX0_look_0 rfl (lv_at hl 0 rfl) ?_
  refine r_getI C hP (iw hw (fi_0 hk0)) hk0 fl_X0_35 (Or.inr rfl) dX0_look_1 ?_
  refine lv_if_eq (tgt := 47) hx hb dX0_look_4 (by decide) (fun c1 => ?_) (fun c1 => ?_)
  · replace h := if_t c1 h
    refine lv_aload_n hx hb dX0_look_47 rfl (lv_at hl 0 rfl) ?_
    refine lv_aload_n hx hb dX0_look_48 rfl (lv_at hl 0 rfl) ?_
    refine r_getRx C hP (iw hw (fi_0 hk0)) hk0 fl_X0_41 rfl (zw hw) dX0_look_49 (fun x2 ex2 => ?_)
    replace h := vl_ok ex2 h
    obtain ⟨g3, h⟩ := gd_ok h
    refine lv_aload_n hx hb dX0_look_52 rfl (lv_at hl 0 rfl) ?_
    refine r_getRx C hP (iw hw (fi_0 hk0)) hk0 fl_X0_48 rfl (zw hw) dX0_look_53 (fun x4 ex4 => ?_)
    replace h := vl_ok ex4 h
    obtain ⟨g5, h⟩ := gd_ok h
    refine r_getI C hP (iw hw (fi_7 g5)) g5 fl_X0_96 (Or.inl rfl) dX0_look_56 ?_
    obtain ⟨r7, μ6, h8, h⟩ := bd_ok h
    refine go_i (callV_run (As := [.int (μ.1 x4 6)]) (rest := [.ref (w.2.2.1 v0)]) C hl hP (hS.wide hJ).2.1 (iw hw (fi_2 g3)) g3 (m_X2_glassOf l w hJ hw x2 (μ.1 x4 6) g3 μ h8) mv_X0_99 ⟨rfl, rfl, by decide, by decide⟩ rfl rfl (Nat.le_of_ble_eq_true rfl) ⟨Nat.zero_le _, Nat.zero_le _⟩ dX0_look_59) hS (fun H locs hP hS => ?_)
    refine r_putI C hP hS (iw hw (fi_0 hk0)) hk0 fp_X0_52 rfl dX0_look_62 (fun H locs hP hS => ?_)
    obtain ⟨μ9, eμ9, h⟩ := vl_ex h
    have hP : fP w μ9 H := by rw [eμ9]; exact hP
    exact J65  μ9  h _ _ _ hP hS (lv_sub hl [0] rfl)
  · replace h := if_f c1 h
    refine lv_aload_n hx hb dX0_look_7 rfl (lv_at hl 0 rfl) ?_
    refine lv_aload_n hx hb dX0_look_8 rfl (lv_at hl 0 rfl) ?_
    refine r_getL C hP (iw hw (fi_0 hk0)) hk0 fl_X0_31 rfl dX0_look_9 ?_
    refine lv_ldc2 hx hb hown (hts _ ct_X0_86) dX0_look_12 ?_
    refine lv_lmul hx hb dX0_look_15 ?_
    refine lv_ldc2 hx hb hown (hts _ ct_X0_88) dX0_look_16 ?_
    refine lv_ladd hx hb dX0_look_19 ?_
    refine lv_ldc2 hx hb hown (hts _ ct_X0_90) dX0_look_20 ?_
    refine lv_land hx hb dX0_look_23 ?_
    refine r_putL C hP hS (iw hw (fi_0 hk0)) hk0 fp_X0_31 rfl dX0_look_24 (fun H locs hP hS => ?_)
    obtain ⟨μ10, eμ10, h⟩ := vl_ex h
    have hP : fP w μ10 H := by rw [eμ10]; exact hP
    refine lv_aload_n hx hb dX0_look_27 rfl (lv_at hl 0 rfl) ?_
    refine lv_aload_n hx hb dX0_look_28 rfl (lv_at hl 0 rfl) ?_
    refine r_getL C hP (iw hw (fi_0 hk0)) hk0 fl_X0_31 rfl dX0_look_29 ?_
    refine lv_ldc2 hx hb hown (hts _ ct_X0_92) dX0_look_32 ?_
    refine lv_ldiv hx hb dX0_look_35 (by decide) ?_
    refine lv_ldc2 hx hb hown (hts _ ct_X0_94) dX0_look_36 ?_
    refine r_lrem hx hb dX0_look_39 (by decide) ?_
    refine lv_l2i hx hb dX0_look_40 rfl ?_
    refine r_putI C hP hS (iw hw (fi_0 hk0)) hk0 fp_X0_52 rfl dX0_look_41 (fun H locs hP hS => ?_)
    obtain ⟨μ11, eμ11, h⟩ := vl_ex h
    have hP : fP w μ11 H := by rw [eμ11]; exact hP
    refine lv_goto (tgt := 65) hx hb dX0_look_44 (by decide) ?_
    exact J65  μ11  h _ _ _ hP hS (lv_sub hl [0] rfl)

def f_X0_begin (v0 : Nat) (v1 : Nat) (v2 : Nat) (μ : fMem) : Option (Unit × fMem) :=
  vl (sR μ v0 8 v1) fun μ1 => vl (sR μ1 v0 9 v2) fun μ2 => vl (sI μ2 v0 0 (0 : Int32)) fun μ3 => vl (sI μ3 v0 1 (0 : Int32)) fun μ4 => vl (sI μ4 v0 2 (-1 : Int32)) fun μ5 => vl (sI μ5 v0 3 (0 : Int32)) fun μ6 => vl (sI μ6 v0 4 (-1 : Int32)) fun μ7 => vl (sI μ7 v0 7 (0 : Int32)) fun μ8 => bd (f_X0_look v0 μ8) fun r10 μ9 => some ((), μ9)
def rm_X0_begin : Room := { frames := 3, cells := 0, slots := 0, locals := 64 }
set_option maxHeartbeats 4000000 in
set_option maxRecDepth 100000 in
theorem m_X0_begin (l : Launch) (w : fW) (hJ : fJ w) (hw : w.2.2.2 = sd 0) (v0 : Nat) (v1 : Nat) (v2 : Nat) (hk0 : kd v0 = (4, 0)) (hk1 : kd v1 = (4, 2)) (hk2 : kd v2 = (4, 7)) (μ : fMem) {r : Unit} {μr : fMem} (h : f_X0_begin v0 v1 v2 μ = some (r, μr)) : Met l yX0_begin (.code yX0_begin cX0_begin 3 none :: gw) rm_X0_begin (fPc w [.ref (w.2.2.1 v0), .ref (w.2.2.1 v1), .ref (w.2.2.1 v2)] μ) (fQv w μr) 0 0 (fA w) := by
  refine met_of hJ (by decide) ?_ (Nat.le_of_ble_eq_true rfl)
  generalize ([.ref (w.2.2.1 v0), .ref (w.2.2.1 v1), .ref (w.2.2.1 v2)] : List Value).toArray = args
  intro p e s m below meth c ls C hr hP hl hS
  obtain ⟨hx, hb, hml, hown, hts, hK, -, hlk, hT⟩ := id C
  have hl : lv_has ls 3 [(0, .ref (w.2.2.1 v0)), (1, .ref (w.2.2.1 v1)), (2, .ref (w.2.2.1 v2))] := hl
  unfold f_X0_begin at h
  refine lv_aload_n hx hb dX0_begin_0 rfl (lv_at hl 0 rfl) ?_
  refine lv_aload_n hx hb dX0_begin_1 rfl (lv_at hl 1 rfl) ?_
  refine r_putR C hP hS (iw hw (fi_0 hk0)) hk0 fp_X0_41 rfl (zw hw) dX0_begin_2 (fun H locs hP hS => ?_)
  obtain ⟨μ1, eμ1, h⟩ := vl_ex h
  have hP : fP w μ1 H := by rw [eμ1]; exact hP
  refine lv_aload_n hx hb dX0_begin_5 rfl (lv_at hl 0 rfl) ?_
  refine lv_aload_n hx hb dX0_begin_6 rfl (lv_at hl 2 rfl) ?_
  refine r_putR C hP hS (iw hw (fi_0 hk0)) hk0 fp_X0_48 rfl (zw hw) dX0_begin_7 (fun H locs hP hS => ?_)
  obtain ⟨μ2, eμ2, h⟩ := vl_ex h
  have hP : fP w μ2 H := by rw [eμ2]; exact hP
  refine lv_aload_n hx hb dX0_begin_10 rfl (lv_at hl 0 rfl) ?_
  refine lv_iconst (v := (0)) hx hb dX0_begin_11 (by decide) ?_
  refine r_putI C hP hS (iw hw (fi_0 hk0)) hk0 fp_X0_9 rfl dX0_begin_12 (fun H locs hP hS => ?_)
  obtain ⟨μ3, eμ3, h⟩ := vl_ex h
  have hP : fP w μ3 H := by rw [eμ3]; exact hP
  refine lv_aload_n hx hb dX0_begin_15 rfl (lv_at hl 0 rfl) ?_
  refine lv_iconst (v := (0)) hx hb dX0_begin_16 (by decide) ?_
  refine r_putI C hP hS (iw hw (fi_0 hk0)) hk0 fp_X0_15 rfl dX0_begin_17 (fun H locs hP hS => ?_)
  obtain ⟨μ4, eμ4, h⟩ := vl_ex h
  have hP : fP w μ4 H := by rw [eμ4]; exact hP
  refine lv_aload_n hx hb dX0_begin_20 rfl (lv_at hl 0 rfl) ?_
  refine lv_iconst (v := (-1)) hx hb dX0_begin_21 (by decide) ?_
  refine r_putI C hP hS (iw hw (fi_0 hk0)) hk0 fp_X0_18 rfl dX0_begin_22 (fun H locs hP hS => ?_)
  obtain ⟨μ5, eμ5, h⟩ := vl_ex h
  have hP : fP w μ5 H := by rw [eμ5]; exact hP
  refine lv_aload_n hx hb dX0_begin_25 rfl (lv_at hl 0 rfl) ?_
  refine lv_iconst (v := (0)) hx hb dX0_begin_26 (by decide) ?_
  refine r_putZ C hP hS (iw hw (fi_0 hk0)) hk0 fp_X0_21 rfl (Or.inl rfl) dX0_begin_27 (fun H locs hP hS => ?_)
  obtain ⟨μ6, eμ6, h⟩ := vl_ex h
  have hP : fP w μ6 H := by rw [eμ6]; exact hP
  refine lv_aload_n hx hb dX0_begin_30 rfl (lv_at hl 0 rfl) ?_
  refine lv_iconst (v := (-1)) hx hb dX0_begin_31 (by decide) ?_
  refine r_putI C hP hS (iw hw (fi_0 hk0)) hk0 fp_X0_25 rfl dX0_begin_32 (fun H locs hP hS => ?_)
  obtain ⟨μ7, eμ7, h⟩ := vl_ex h
  have hP : fP w μ7 H := by rw [eμ7]; exact hP
  refine lv_aload_n hx hb dX0_begin_35 rfl (lv_at hl 0 rfl) ?_
  refine lv_iconst (v := (0)) hx hb dX0_begin_36 (by decide) ?_
  refine r_putZ C hP hS (iw hw (fi_0 hk0)) hk0 fp_X0_35 rfl (Or.inl rfl) dX0_begin_37 (fun H locs hP hS => ?_)
  obtain ⟨μ8, eμ8, h⟩ := vl_ex h
  have hP : fP w μ8 H := by rw [eμ8]; exact hP
  refine lv_aload_n hx hb dX0_begin_40 rfl (lv_at hl 0 rfl) ?_
  obtain ⟨r10, μ9, h11, h⟩ := bd_ok h
  refine go_v (callV_run (As := []) (rest := []) C hl hP (hS.wide hJ).2.1 (iw hw (fi_0 hk0)) hk0 (m_X0_look l w hJ hw v0 hk0 μ8 h11) mv_X0_83 ⟨rfl, rfl, by decide, by decide⟩ rfl rfl (Nat.le_of_ble_eq_true rfl) ⟨Nat.zero_le _, Nat.zero_le _⟩ dX0_begin_41) hS (fun H locs hP hS => ?_)
  exact r_vret C hr hP hS h dX0_begin_44

def f_X0_drawFrom (v0 : Nat) (v1 : Int64) (μ : fMem) : Option (Unit × fMem) :=
  vl (sI μ v0 7 (1 : Int32)) fun μ1 => vl (sL μ1 v0 6 v1) fun μ2 => some ((), μ2)
def rm_X0_drawFrom : Room := { frames := 0, cells := 0, slots := 0, locals := 0 }
set_option maxHeartbeats 4000000 in
set_option maxRecDepth 100000 in
theorem m_X0_drawFrom (l : Launch) (w : fW) (hJ : fJ w) (hw : w.2.2.2 = sd 0) (v0 : Nat) (v1 : Int64) (hk0 : kd v0 = (4, 0)) (μ : fMem) {r : Unit} {μr : fMem} (h : f_X0_drawFrom v0 v1 μ = some (r, μr)) : Met l yX0_drawFrom (.code yX0_drawFrom cX0_drawFrom 3 none :: gw) rm_X0_drawFrom (fPc w [.ref (w.2.2.1 v0), .long v1] μ) (fQv w μr) 0 0 (fA w) := by
  refine met_of hJ (by decide) ?_ (Nat.le_of_ble_eq_true rfl)
  generalize ([.ref (w.2.2.1 v0), .long v1] : List Value).toArray = args
  intro p e s m below meth c ls C hr hP hl hS
  obtain ⟨hx, hb, hml, hown, hts, hK, -, hlk, hT⟩ := id C
  have hl : lv_has ls 3 [(0, .ref (w.2.2.1 v0)), (1, .long v1)] := hl
  unfold f_X0_drawFrom at h
  refine lv_aload_n hx hb dX0_drawFrom_0 rfl (lv_at hl 0 rfl) ?_
  refine lv_iconst (v := (1)) hx hb dX0_drawFrom_1 (by decide) ?_
  refine r_putZ C hP hS (iw hw (fi_0 hk0)) hk0 fp_X0_35 rfl (Or.inr rfl) dX0_drawFrom_2 (fun H locs hP hS => ?_)
  obtain ⟨μ1, eμ1, h⟩ := vl_ex h
  have hP : fP w μ1 H := by rw [eμ1]; exact hP
  refine lv_aload_n hx hb dX0_drawFrom_5 rfl (lv_at hl 0 rfl) ?_
  refine lv_lload_n hx hb dX0_drawFrom_6 rfl (lv_at hl 1 rfl) ?_
  refine r_putL C hP hS (iw hw (fi_0 hk0)) hk0 fp_X0_31 rfl dX0_drawFrom_7 (fun H locs hP hS => ?_)
  obtain ⟨μ2, eμ2, h⟩ := vl_ex h
  have hP : fP w μ2 H := by rw [eμ2]; exact hP
  exact r_vret C hr hP hS h dX0_drawFrom_10

def f_X2_has (v0 : Nat) (v1 : Int32) (v2 : Int32) (μ : fMem) : Option (Int32 × fMem) :=
  if v1 < 0 then gd (bl (0 : Int32)) (some ((0 : Int32), μ)) else if (6 : Int32) ≤ v1 then gd (bl (0 : Int32)) (some ((0 : Int32), μ)) else if v2 < 0 then gd (bl (0 : Int32)) (some ((0 : Int32), μ)) else gd (ixo v1 6) (if (μ.1 (v0 + 1) (Int32.toNatClampNeg v1)) ≤ v2 then gd (bl (0 : Int32)) (some ((0 : Int32), μ)) else gd (bl (1 : Int32)) (some ((1 : Int32), μ)))
def rm_X2_has : Room := { frames := 0, cells := 0, slots := 0, locals := 0 }
set_option maxHeartbeats 4000000 in
set_option maxRecDepth 100000 in
theorem m_X2_has (l : Launch) (w : fW) (hJ : fJ w) (hw : w.2.2.2 = sd 0) (v0 : Nat) (v1 : Int32) (v2 : Int32) (hk0 : kd v0 = (4, 2)) (μ : fMem) {r : Int32} {μr : fMem} (h : f_X2_has v0 v1 v2 μ = some (r, μr)) : Met l yX2_has (.code yX2_has cX2_has 3 (some .boolean) :: gw) rm_X2_has (fPc w [.ref (w.2.2.1 v0), .int v1, .int v2] μ) (fQi w r μr) 0 0 (fA w) := by
  refine met_of hJ (by decide) ?_ (Nat.le_of_ble_eq_true rfl)
  generalize ([.ref (w.2.2.1 v0), .int v1, .int v2] : List Value).toArray = args
  intro p e s m below meth c ls C hr hP hl hS
  obtain ⟨hx, hb, hml, hown, hts, hK, -, hlk, hT⟩ := id C
  have hl : lv_has ls 3 [(0, .ref (w.2.2.1 v0)), (1, .int v1), (2, .int v2)] := hl
  unfold f_X2_has at h
  refine lv_iload_n hx hb dX2_has_0 rfl (lv_at hl 1 rfl) ?_
  refine lv_if_lt (tgt := 31) hx hb dX2_has_1 (by decide) (fun c1 => ?_) (fun c1 => ?_)
  · replace h := if_t c1 h
    refine lv_iconst (v := (0)) hx hb dX2_has_31 (by decide) ?_
    exact r_zret C hr hP hS h dX2_has_32
  · replace h := if_f c1 h
    refine lv_iload_n hx hb dX2_has_4 rfl (lv_at hl 1 rfl) ?_
    refine lv_aload_n hx hb dX2_has_5 rfl (lv_at hl 0 rfl) ?_
    refine r_getF (off := 1) C hP (iw hw (fi_2 hk0)) hk0 fl_X2_9 rfl rfl (zw hw) dX2_has_6 ?_
    refine r_alen (v := 6) C hP (iw hw (ff_2_0 hk0).2) (Or.inl (ff_2_0 hk0).1) (by decide) dX2_has_9 ?_
    refine lv_icmp_ge (tgt := 31) hx hb dX2_has_10 (by decide) (fun c2 => ?_) (fun c2 => ?_)
    · replace h := if_t c2 h
      refine lv_iconst (v := (0)) hx hb dX2_has_31 (by decide) ?_
      exact r_zret C hr hP hS h dX2_has_32
    · replace h := if_f c2 h
      refine lv_iload_n hx hb dX2_has_13 rfl (lv_at hl 2 rfl) ?_
      refine lv_if_lt (tgt := 31) hx hb dX2_has_14 (by decide) (fun c3 => ?_) (fun c3 => ?_)
      · replace h := if_t c3 h
        refine lv_iconst (v := (0)) hx hb dX2_has_31 (by decide) ?_
        exact r_zret C hr hP hS h dX2_has_32
      · replace h := if_f c3 h
        refine lv_iload_n hx hb dX2_has_17 rfl (lv_at hl 2 rfl) ?_
        refine lv_aload_n hx hb dX2_has_18 rfl (lv_at hl 0 rfl) ?_
        refine r_getF (off := 1) C hP (iw hw (fi_2 hk0)) hk0 fl_X2_9 rfl rfl (zw hw) dX2_has_19 ?_
        refine lv_iload_n hx hb dX2_has_22 rfl (lv_at hl 1 rfl) ?_
        obtain ⟨g4, h⟩ := gd_ok h
        refine r_iald C hP (iw hw (ff_2_0 hk0).2) (ff_2_0 hk0).1 g4 dX2_has_23 ?_
        refine lv_icmp_ge (tgt := 31) hx hb dX2_has_24 (by decide) (fun c5 => ?_) (fun c5 => ?_)
        · replace h := if_t c5 h
          refine lv_iconst (v := (0)) hx hb dX2_has_31 (by decide) ?_
          exact r_zret C hr hP hS h dX2_has_32
        · replace h := if_f c5 h
          refine lv_iconst (v := (1)) hx hb dX2_has_27 (by decide) ?_
          refine lv_goto (tgt := 32) hx hb dX2_has_28 (by decide) ?_
          exact r_zret C hr hP hS h dX2_has_32

def f_X0_tasteOf (v0 : Nat) (v1 : Int32) (μ : fMem) : Option (Int32 × fMem) :=
  if v1 = (μ.1 v0 4) then some ((μ.1 v0 5), μ) else vl (μ.2.2 v0 8) fun x2 => gd (kd x2 = (4, 2)) (gd (ixo v1 6) (some ((μ.1 (x2 + 11) (Int32.toNatClampNeg v1)), μ)))
def rm_X0_tasteOf : Room := { frames := 0, cells := 0, slots := 0, locals := 0 }
set_option maxHeartbeats 4000000 in
set_option maxRecDepth 100000 in
theorem m_X0_tasteOf (l : Launch) (w : fW) (hJ : fJ w) (hw : w.2.2.2 = sd 0) (v0 : Nat) (v1 : Int32) (hk0 : kd v0 = (4, 0)) (μ : fMem) {r : Int32} {μr : fMem} (h : f_X0_tasteOf v0 v1 μ = some (r, μr)) : Met l yX0_tasteOf (.code yX0_tasteOf cX0_tasteOf 2 (some .int) :: gw) rm_X0_tasteOf (fPc w [.ref (w.2.2.1 v0), .int v1] μ) (fQi w r μr) 0 0 (fA w) := by
  refine met_of hJ (by decide) ?_ (Nat.le_of_ble_eq_true rfl)
  generalize ([.ref (w.2.2.1 v0), .int v1] : List Value).toArray = args
  intro p e s m below meth c ls C hr hP hl hS
  obtain ⟨hx, hb, hml, hown, hts, hK, -, hlk, hT⟩ := id C
  have hl : lv_has ls 2 [(0, .ref (w.2.2.1 v0)), (1, .int v1)] := hl
  unfold f_X0_tasteOf at h
  refine lv_iload_n hx hb dX0_tasteOf_0 rfl (lv_at hl 1 rfl) ?_
  refine lv_aload_n hx hb dX0_tasteOf_1 rfl (lv_at hl 0 rfl) ?_
  refine r_getI C hP (iw hw (fi_0 hk0)) hk0 fl_X0_25 (Or.inl rfl) dX0_tasteOf_2 ?_
  refine lv_icmp_ne (tgt := 15) hx hb dX0_tasteOf_5 (by decide) (fun c1 => ?_) (fun c1 => ?_)
  · replace h := if_f c1 h
    refine lv_aload_n hx hb dX0_tasteOf_15 rfl (lv_at hl 0 rfl) ?_
    refine r_getRx C hP (iw hw (fi_0 hk0)) hk0 fl_X0_41 rfl (zw hw) dX0_tasteOf_16 (fun x2 ex2 => ?_)
    replace h := vl_ok ex2 h
    obtain ⟨g3, h⟩ := gd_ok h
    refine r_getF (off := 11) C hP (iw hw (fi_2 g3)) g3 fl_X0_224 rfl rfl (zw hw) dX0_tasteOf_19 ?_
    refine lv_iload_n hx hb dX0_tasteOf_22 rfl (lv_at hl 1 rfl) ?_
    obtain ⟨g4, h⟩ := gd_ok h
    refine r_iald C hP (iw hw (ff_2_8 g3).2) (ff_2_8 g3).1 g4 dX0_tasteOf_23 ?_
    exact r_iret C hr hP hS h dX0_tasteOf_24
  · replace h := if_t c1 h
    refine lv_aload_n hx hb dX0_tasteOf_8 rfl (lv_at hl 0 rfl) ?_
    refine r_getI C hP (iw hw (fi_0 hk0)) hk0 fl_X0_28 (Or.inl rfl) dX0_tasteOf_9 ?_
    refine lv_goto (tgt := 24) hx hb dX0_tasteOf_12 (by decide) ?_
    exact r_iret C hr hP hS h dX0_tasteOf_24

def f_X0_warmth (v0 : Nat) (v1 : Int32) (μ : fMem) : Option (Int32 × fMem) :=
  if v1 < 0 then some ((0 : Int32), μ) else if (6 : Int32) ≤ v1 then some ((0 : Int32), μ) else vl (μ.2.2 v0 9) fun x3 => gd (kd x3 = (4, 7)) (gd (ixo v1 6) (some ((μ.1 (x3 + 4) (Int32.toNatClampNeg v1)), μ)))
def rm_X0_warmth : Room := { frames := 0, cells := 0, slots := 0, locals := 0 }
set_option maxHeartbeats 4000000 in
set_option maxRecDepth 100000 in
theorem m_X0_warmth (l : Launch) (w : fW) (hJ : fJ w) (hw : w.2.2.2 = sd 0) (v0 : Nat) (v1 : Int32) (hk0 : kd v0 = (4, 0)) (μ : fMem) {r : Int32} {μr : fMem} (h : f_X0_warmth v0 v1 μ = some (r, μr)) : Met l yX0_warmth (.code yX0_warmth cX0_warmth 2 (some .int) :: gw) rm_X0_warmth (fPc w [.ref (w.2.2.1 v0), .int v1] μ) (fQi w r μr) 0 0 (fA w) := by
  refine met_of hJ (by decide) ?_ (Nat.le_of_ble_eq_true rfl)
  generalize ([.ref (w.2.2.1 v0), .int v1] : List Value).toArray = args
  intro p e s m below meth c ls C hr hP hl hS
  obtain ⟨hx, hb, hml, hown, hts, hK, -, hlk, hT⟩ := id C
  have hl : lv_has ls 2 [(0, .ref (w.2.2.1 v0)), (1, .int v1)] := hl
  unfold f_X0_warmth at h
  refine lv_iload_n hx hb dX0_warmth_0 rfl (lv_at hl 1 rfl) ?_
  refine lv_if_lt (tgt := 22) hx hb dX0_warmth_1 (by decide) (fun c1 => ?_) (fun c1 => ?_)
  · replace h := if_t c1 h
    refine lv_iconst (v := (0)) hx hb dX0_warmth_22 (by decide) ?_
    exact r_iret C hr hP hS h dX0_warmth_23
  · replace h := if_f c1 h
    refine lv_iload_n hx hb dX0_warmth_4 rfl (lv_at hl 1 rfl) ?_
    refine lv_bipush (v := (6)) hx hb dX0_warmth_5 (by decide) ?_
    refine lv_icmp_ge (tgt := 22) hx hb dX0_warmth_7 (by decide) (fun c2 => ?_) (fun c2 => ?_)
    · replace h := if_t c2 h
      refine lv_iconst (v := (0)) hx hb dX0_warmth_22 (by decide) ?_
      exact r_iret C hr hP hS h dX0_warmth_23
    · replace h := if_f c2 h
      refine lv_aload_n hx hb dX0_warmth_10 rfl (lv_at hl 0 rfl) ?_
      refine r_getRx C hP (iw hw (fi_0 hk0)) hk0 fl_X0_48 rfl (zw hw) dX0_warmth_11 (fun x3 ex3 => ?_)
      replace h := vl_ok ex3 h
      obtain ⟨g4, h⟩ := gd_ok h
      refine r_getF (off := 4) C hP (iw hw (fi_7 g4)) g4 fl_X0_150 rfl rfl (zw hw) dX0_warmth_14 ?_
      refine lv_iload_n hx hb dX0_warmth_17 rfl (lv_at hl 1 rfl) ?_
      obtain ⟨g5, h⟩ := gd_ok h
      refine r_iald C hP (iw hw (ff_7_3 g4).2) (ff_7_3 g4).1 g5 dX0_warmth_18 ?_
      refine lv_goto (tgt := 23) hx hb dX0_warmth_19 (by decide) ?_
      exact r_iret C hr hP hS h dX0_warmth_23

def f_X0_tellNames_j60 (v0 : Nat) (v1 : Int32) (v3 : Int32) (t0 : Nat) (t1 : Int32) (t2 : Int64) (μ : fMem) : Option (Unit × fMem) :=
  gd (ixo t1 7) (vl (sL μ t0 (Int32.toNatClampNeg t1) t2) fun μ16 => bd (f_X0_tasteOf v0 v1 μ16) fun r19 μ18 => vl (sL μ18 (v0 + 35) 2 (r19.toInt64)) fun μ21 => vl (μ21.2.2 v0 8) fun x22 => gd (kd x22 = (4, 2)) (gd (ixo v1 6) (vl (sL μ21 (v0 + 35) 3 (((μ21.1 (x22 + 12) (Int32.toNatClampNeg v1))).toInt64)) fun μ25 => bd (f_X0_warmth v0 v3 μ25) fun r27 μ26 => vl (sL μ26 (v0 + 35) 4 (r27.toInt64)) fun μ29 => vl (sL μ29 (v0 + 35) 5 (((μ29.1 v0 10)).toInt64)) fun μ30 => vl (μ30.2.2 v0 9) fun x31 => gd (kd x31 = (4, 7)) (vl (sL μ30 (v0 + 35) 6 (((μ30.1 x31 6)).toInt64)) fun μ33 => some ((), μ33)))))
def f_X0_tellNames_j35 (v0 : Nat) (v1 : Int32) (v2 : Int32) (v3 : Int32) (v4 : Int32) (t0 : Nat) (t1 : Int32) (t2 : Int64) (μ : fMem) : Option (Unit × fMem) :=
  gd (ixo t1 7) (vl (sL μ t0 (Int32.toNatClampNeg t1) t2) fun μ10 => if v4 = 0 then f_X0_tellNames_j60 v0 v1 v3 (v0 + 35) (1 : Int32) (0 : Int64) μ10 else vl (μ10.2.2 v0 8) fun x13 => gd (kd x13 = (4, 2)) (gd (ixo v2 8) (f_X0_tellNames_j60 v0 v1 v3 (v0 + 35) (1 : Int32) (((μ10.1 (x13 + 9) (Int32.toNatClampNeg v2))).toInt64) μ10)))
def f_X0_tellNames (v0 : Nat) (v1 : Int32) (v2 : Int32) (v3 : Int32) (μ : fMem) : Option (Unit × fMem) :=
  vl (μ.2.2 v0 8) fun x1 => gd (kd x1 = (4, 2)) (bd (f_X2_has x1 (2 : Int32) v2 μ) fun r4 μ3 => if r4 = 0 then f_X0_tellNames_j35 v0 v1 v2 v3 r4 (v0 + 35) (0 : Int32) (0 : Int64) μ3 else vl (μ3.2.2 v0 8) fun x7 => gd (kd x7 = (4, 2)) (gd (ixo v2 8) (f_X0_tellNames_j35 v0 v1 v2 v3 r4 (v0 + 35) (0 : Int32) (((μ3.1 (x7 + 10) (Int32.toNatClampNeg v2))).toInt64) μ3)))
def rm_X0_tellNames : Room := { frames := 1, cells := 0, slots := 0, locals := 22 }
set_option maxHeartbeats 4000000 in
set_option maxRecDepth 100000 in
theorem m_X0_tellNames (l : Launch) (w : fW) (hJ : fJ w) (hw : w.2.2.2 = sd 0) (v0 : Nat) (v1 : Int32) (v2 : Int32) (v3 : Int32) (hk0 : kd v0 = (4, 0)) (μ : fMem) {r : Unit} {μr : fMem} (h : f_X0_tellNames v0 v1 v2 v3 μ = some (r, μr)) : Met l yX0_tellNames (.code yX0_tellNames cX0_tellNames 5 none :: gw) rm_X0_tellNames (fPc w [.ref (w.2.2.1 v0), .int v1, .int v2, .int v3] μ) (fQv w μr) 0 0 (fA w) := by
  refine met_of hJ (by decide) ?_ (Nat.le_of_ble_eq_true rfl)
  generalize ([.ref (w.2.2.1 v0), .int v1, .int v2, .int v3] : List Value).toArray = args
  intro p e s m below meth c ls C hr hP hl hS
  obtain ⟨hx, hb, hml, hown, hts, hK, -, hlk, hT⟩ := id C
  have hl : lv_has ls 5 [(0, .ref (w.2.2.1 v0)), (1, .int v1), (2, .int v2), (3, .int v3)] := hl
  unfold f_X0_tellNames at h
  have J60 : ∀ (t0 : Nat) (t1 : Int32) (t2 : Int64) (μ : fMem) (_ : kd t0 = (2, 7)) (_ : inW w.2.2.2 t0), f_X0_tellNames_j60 v0 v1 v3 t0 t1 t2 μ = some (r, μr) → WW p l e rm_X0_tellNames s m args below meth c (MQ below (fQv w μr) args s 0 0 (fA w)) w μ 5 60 [.long t2, .int t1, .ref (w.2.2.1 t0)] [(0, .ref (w.2.2.1 v0)), (1, .int v1), (3, .int v3)] := by
    intro t0 t1 t2 μ kt0 it0 h H locs ls hP hS hl
    unfold f_X0_tellNames_j60 at h
    obtain ⟨g17, h⟩ := gd_ok h
    refine r_last C hP hS it0 kt0 g17 dX0_tellNames_60 (fun H locs hP hS => ?_)
    obtain ⟨μ16, eμ16, h⟩ := vl_ex h
    have hP : fP w μ16 H := by rw [eμ16]; exact hP
    refine lv_aload_n hx hb dX0_tellNames_61 rfl (lv_at hl 0 rfl) ?_
    refine r_getF (off := 35) C hP (iw hw (fi_0 hk0)) hk0 fl_X0_55 rfl rfl (zw hw) dX0_tellNames_62 ?_
    refine lv_iconst (v := (2)) hx hb dX0_tellNames_65 (by decide) ?_
    refine lv_aload_n hx hb dX0_tellNames_66 rfl (lv_at hl 0 rfl) ?_
    refine lv_iload_n hx hb dX0_tellNames_67 rfl (lv_at hl 1 rfl) ?_
    obtain ⟨r19, μ18, h20, h⟩ := bd_ok h
    refine go_i (callV_run (As := [.int v1]) (rest := [.int (2 : Int32), .ref (w.2.2.1 (v0 + 35))]) C hl hP (hS.wide hJ).2.1 (iw hw (fi_0 hk0)) hk0 (m_X0_tasteOf l w hJ hw v0 v1 hk0 μ16 h20) mv_X0_185 ⟨rfl, rfl, by decide, by decide⟩ rfl rfl (Nat.le_of_ble_eq_true rfl) ⟨Nat.zero_le _, Nat.zero_le _⟩ dX0_tellNames_68) hS (fun H locs hP hS => ?_)
    refine lv_i2l hx hb dX0_tellNames_71 rfl ?_
    refine n_last (j := 2) C hP hS (iw hw (ff_0_11 hk0).2) (ff_0_11 hk0).1 (by decide) (by decide) dX0_tellNames_72 (fun H locs hP hS => ?_)
    obtain ⟨μ21, eμ21, h⟩ := vl_ex h
    have hP : fP w μ21 H := by rw [eμ21]; exact hP
    refine lv_aload_n hx hb dX0_tellNames_73 rfl (lv_at hl 0 rfl) ?_
    refine r_getF (off := 35) C hP (iw hw (fi_0 hk0)) hk0 fl_X0_55 rfl rfl (zw hw) dX0_tellNames_74 ?_
    refine lv_iconst (v := (3)) hx hb dX0_tellNames_77 (by decide) ?_
    refine lv_aload_n hx hb dX0_tellNames_78 rfl (lv_at hl 0 rfl) ?_
    refine r_getRx C hP (iw hw (fi_0 hk0)) hk0 fl_X0_41 rfl (zw hw) dX0_tellNames_79 (fun x22 ex22 => ?_)
    replace h := vl_ok ex22 h
    obtain ⟨g23, h⟩ := gd_ok h
    refine r_getF (off := 12) C hP (iw hw (fi_2 g23)) g23 fl_X0_211 rfl rfl (zw hw) dX0_tellNames_82 ?_
    refine lv_iload_n hx hb dX0_tellNames_85 rfl (lv_at hl 1 rfl) ?_
    obtain ⟨g24, h⟩ := gd_ok h
    refine r_iald C hP (iw hw (ff_2_9 g23).2) (ff_2_9 g23).1 g24 dX0_tellNames_86 ?_
    refine lv_i2l hx hb dX0_tellNames_87 rfl ?_
    refine n_last (j := 3) C hP hS (iw hw (ff_0_11 hk0).2) (ff_0_11 hk0).1 (by decide) (by decide) dX0_tellNames_88 (fun H locs hP hS => ?_)
    obtain ⟨μ25, eμ25, h⟩ := vl_ex h
    have hP : fP w μ25 H := by rw [eμ25]; exact hP
    refine lv_aload_n hx hb dX0_tellNames_89 rfl (lv_at hl 0 rfl) ?_
    refine r_getF (off := 35) C hP (iw hw (fi_0 hk0)) hk0 fl_X0_55 rfl rfl (zw hw) dX0_tellNames_90 ?_
    refine lv_iconst (v := (4)) hx hb dX0_tellNames_93 (by decide) ?_
    refine lv_aload_n hx hb dX0_tellNames_94 rfl (lv_at hl 0 rfl) ?_
    refine lv_iload_n hx hb dX0_tellNames_95 rfl (lv_at hl 2 rfl) ?_
    obtain ⟨r27, μ26, h28, h⟩ := bd_ok h
    refine go_i (callV_run (As := [.int v3]) (rest := [.int (4 : Int32), .ref (w.2.2.1 (v0 + 35))]) C hl hP (hS.wide hJ).2.1 (iw hw (fi_0 hk0)) hk0 (m_X0_warmth l w hJ hw v0 v3 hk0 μ25 h28) mv_X0_188 ⟨rfl, rfl, by decide, by decide⟩ rfl rfl (Nat.le_of_ble_eq_true rfl) ⟨Nat.zero_le _, Nat.zero_le _⟩ dX0_tellNames_96) hS (fun H locs hP hS => ?_)
    refine lv_i2l hx hb dX0_tellNames_99 rfl ?_
    refine n_last (j := 4) C hP hS (iw hw (ff_0_11 hk0).2) (ff_0_11 hk0).1 (by decide) (by decide) dX0_tellNames_100 (fun H locs hP hS => ?_)
    obtain ⟨μ29, eμ29, h⟩ := vl_ex h
    have hP : fP w μ29 H := by rw [eμ29]; exact hP
    refine lv_aload_n hx hb dX0_tellNames_101 rfl (lv_at hl 0 rfl) ?_
    refine r_getF (off := 35) C hP (iw hw (fi_0 hk0)) hk0 fl_X0_55 rfl rfl (zw hw) dX0_tellNames_102 ?_
    refine lv_iconst (v := (5)) hx hb dX0_tellNames_105 (by decide) ?_
    refine lv_aload_n hx hb dX0_tellNames_106 rfl (lv_at hl 0 rfl) ?_
    refine r_getI C hP (iw hw (fi_0 hk0)) hk0 fl_X0_52 (Or.inl rfl) dX0_tellNames_107 ?_
    refine lv_i2l hx hb dX0_tellNames_110 rfl ?_
    refine n_last (j := 5) C hP hS (iw hw (ff_0_11 hk0).2) (ff_0_11 hk0).1 (by decide) (by decide) dX0_tellNames_111 (fun H locs hP hS => ?_)
    obtain ⟨μ30, eμ30, h⟩ := vl_ex h
    have hP : fP w μ30 H := by rw [eμ30]; exact hP
    refine lv_aload_n hx hb dX0_tellNames_112 rfl (lv_at hl 0 rfl) ?_
    refine r_getF (off := 35) C hP (iw hw (fi_0 hk0)) hk0 fl_X0_55 rfl rfl (zw hw) dX0_tellNames_113 ?_
    refine lv_bipush (v := (6)) hx hb dX0_tellNames_116 (by decide) ?_
    refine lv_aload_n hx hb dX0_tellNames_118 rfl (lv_at hl 0 rfl) ?_
    refine r_getRx C hP (iw hw (fi_0 hk0)) hk0 fl_X0_48 rfl (zw hw) dX0_tellNames_119 (fun x31 ex31 => ?_)
    replace h := vl_ok ex31 h
    obtain ⟨g32, h⟩ := gd_ok h
    refine r_getI C hP (iw hw (fi_7 g32)) g32 fl_X0_96 (Or.inl rfl) dX0_tellNames_122 ?_
    refine lv_i2l hx hb dX0_tellNames_125 rfl ?_
    refine n_last (j := 6) C hP hS (iw hw (ff_0_11 hk0).2) (ff_0_11 hk0).1 (by decide) (by decide) dX0_tellNames_126 (fun H locs hP hS => ?_)
    obtain ⟨μ33, eμ33, h⟩ := vl_ex h
    have hP : fP w μ33 H := by rw [eμ33]; exact hP
    exact r_vret C hr hP hS h dX0_tellNames_127
  have J35 : ∀ (v4 : Int32) (t0 : Nat) (t1 : Int32) (t2 : Int64) (μ : fMem) (_ : kd t0 = (2, 7)) (_ : inW w.2.2.2 t0), f_X0_tellNames_j35 v0 v1 v2 v3 v4 t0 t1 t2 μ = some (r, μr) → WW p l e rm_X0_tellNames s m args below meth c (MQ below (fQv w μr) args s 0 0 (fA w)) w μ 5 35 [.long t2, .int t1, .ref (w.2.2.1 t0)] [(0, .ref (w.2.2.1 v0)), (1, .int v1), (2, .int v2), (3, .int v3), (4, .int v4)] := by
    intro v4 t0 t1 t2 μ kt0 it0 h H locs ls hP hS hl
    unfold f_X0_tellNames_j35 at h
    obtain ⟨g11, h⟩ := gd_ok h
    refine r_last C hP hS it0 kt0 g11 dX0_tellNames_35 (fun H locs hP hS => ?_)
    obtain ⟨μ10, eμ10, h⟩ := vl_ex h
    have hP : fP w μ10 H := by rw [eμ10]; exact hP
    refine lv_aload_n hx hb dX0_tellNames_36 rfl (lv_at hl 0 rfl) ?_
    refine r_getF (off := 35) C hP (iw hw (fi_0 hk0)) hk0 fl_X0_55 rfl rfl (zw hw) dX0_tellNames_37 ?_
    refine lv_iconst (v := (1)) hx hb dX0_tellNames_40 (by decide) ?_
    refine lv_iload hx hb dX0_tellNames_41 (lv_at hl 4 rfl) ?_
    refine lv_if_eq (tgt := 59) hx hb dX0_tellNames_43 (by decide) (fun c12 => ?_) (fun c12 => ?_)
    · replace h := if_t c12 h
      refine lv_lconst (v := 0) hx hb dX0_tellNames_59 (by decide) ?_
      exact J60 (v0 + 35) (1 : Int32) (0 : Int64) μ10 (ff_0_11 hk0).1 (iw hw (ff_0_11 hk0).2) h _ _ _ hP hS (lv_sub hl [0, 1, 3] rfl)
    · replace h := if_f c12 h
      refine lv_aload_n hx hb dX0_tellNames_46 rfl (lv_at hl 0 rfl) ?_
      refine r_getRx C hP (iw hw (fi_0 hk0)) hk0 fl_X0_41 rfl (zw hw) dX0_tellNames_47 (fun x13 ex13 => ?_)
      replace h := vl_ok ex13 h
      obtain ⟨g14, h⟩ := gd_ok h
      refine r_getF (off := 9) C hP (iw hw (fi_2 g14)) g14 fl_X0_208 rfl rfl (zw hw) dX0_tellNames_50 ?_
      refine lv_iload_n hx hb dX0_tellNames_53 rfl (lv_at hl 2 rfl) ?_
      obtain ⟨g15, h⟩ := gd_ok h
      refine r_iald C hP (iw hw (ff_2_6 g14).2) (ff_2_6 g14).1 g15 dX0_tellNames_54 ?_
      refine lv_i2l hx hb dX0_tellNames_55 rfl ?_
      refine lv_goto (tgt := 60) hx hb dX0_tellNames_56 (by decide) ?_
      exact J60 (v0 + 35) (1 : Int32) (((μ10.1 (x13 + 9) (Int32.toNatClampNeg v2))).toInt64) μ10 (ff_0_11 hk0).1 (iw hw (ff_0_11 hk0).2) h _ _ _ hP hS (lv_sub hl [0, 1, 3] rfl)
  refine lv_aload_n hx hb dX0_tellNames_0 rfl (lv_at hl 0 rfl) ?_
  refine r_getRx C hP (iw hw (fi_0 hk0)) hk0 fl_X0_41 rfl (zw hw) dX0_tellNames_1 (fun x1 ex1 => ?_)
  replace h := vl_ok ex1 h
  obtain ⟨g2, h⟩ := gd_ok h
  refine lv_iconst (v := (2)) hx hb dX0_tellNames_4 (by decide) ?_
  refine lv_iload_n hx hb dX0_tellNames_5 rfl (lv_at hl 2 rfl) ?_
  obtain ⟨r4, μ3, h5, h⟩ := bd_ok h
  refine go_i (callV_run (As := [.int (2 : Int32), .int v2]) (rest := []) C hl hP (hS.wide hJ).2.1 (iw hw (fi_2 g2)) g2 (m_X2_has l w hJ hw x1 (2 : Int32) v2 g2 μ h5) mv_X0_231 ⟨rfl, rfl, by decide, by decide⟩ rfl rfl (Nat.le_of_ble_eq_true rfl) ⟨Nat.zero_le _, Nat.zero_le _⟩ dX0_tellNames_6) hS (fun H locs hP hS => ?_)
  refine lv_istore (lv' := [(4, .int r4), (0, .ref (w.2.2.1 v0)), (1, .int v1), (2, .int v2), (3, .int v3)]) hx hb dX0_tellNames_9 hl (by decide) rfl (fun ls hl => ?_)
  refine lv_aload_n hx hb dX0_tellNames_11 rfl (lv_at hl 1 rfl) ?_
  refine r_getF (off := 35) C hP (iw hw (fi_0 hk0)) hk0 fl_X0_55 rfl rfl (zw hw) dX0_tellNames_12 ?_
  refine lv_iconst (v := (0)) hx hb dX0_tellNames_15 (by decide) ?_
  refine lv_iload hx hb dX0_tellNames_16 (lv_at hl 0 rfl) ?_
  refine lv_if_eq (tgt := 34) hx hb dX0_tellNames_18 (by decide) (fun c6 => ?_) (fun c6 => ?_)
  · replace h := if_t c6 h
    refine lv_lconst (v := 0) hx hb dX0_tellNames_34 (by decide) ?_
    exact J35 r4 (v0 + 35) (0 : Int32) (0 : Int64) μ3 (ff_0_11 hk0).1 (iw hw (ff_0_11 hk0).2) h _ _ _ hP hS (lv_sub hl [1, 2, 3, 4, 0] rfl)
  · replace h := if_f c6 h
    refine lv_aload_n hx hb dX0_tellNames_21 rfl (lv_at hl 1 rfl) ?_
    refine r_getRx C hP (iw hw (fi_0 hk0)) hk0 fl_X0_41 rfl (zw hw) dX0_tellNames_22 (fun x7 ex7 => ?_)
    replace h := vl_ok ex7 h
    obtain ⟨g8, h⟩ := gd_ok h
    refine r_getF (off := 10) C hP (iw hw (fi_2 g8)) g8 fl_X0_200 rfl rfl (zw hw) dX0_tellNames_25 ?_
    refine lv_iload_n hx hb dX0_tellNames_28 rfl (lv_at hl 3 rfl) ?_
    obtain ⟨g9, h⟩ := gd_ok h
    refine r_iald C hP (iw hw (ff_2_7 g8).2) (ff_2_7 g8).1 g9 dX0_tellNames_29 ?_
    refine lv_i2l hx hb dX0_tellNames_30 rfl ?_
    refine lv_goto (tgt := 35) hx hb dX0_tellNames_31 (by decide) ?_
    exact J35 r4 (v0 + 35) (0 : Int32) (((μ3.1 (x7 + 10) (Int32.toNatClampNeg v2))).toInt64) μ3 (ff_0_11 hk0).1 (iw hw (ff_0_11 hk0).2) h _ _ _ hP hS (lv_sub hl [1, 2, 3, 4, 0] rfl)

def f_X3_times_j23 (v0 : Int64) (v2 : Int64) (t0 : Int64) (t1 : Int64) (μ : fMem) : Option (Int64 × fMem) :=
  gd (¬ t1 = 0) (vl (t0 / t1) fun x4 => if 0 < (lg_cmp v2 x4) then some ((-9223372036854775808 : Int64), μ) else if 0 ≤ (lg_cmp v2 (-x4)) then some ((v0 * v2), μ) else some ((-9223372036854775808 : Int64), μ))
def f_X3_times (v0 : Int64) (v2 : Int64) (μ : fMem) : Option (Int64 × fMem) :=
  if (lg_cmp v0 (0 : Int64)) = 0 then some ((0 : Int64), μ) else if 0 ≤ (lg_cmp v0 (0 : Int64)) then f_X3_times_j23 v0 v2 (1000000000000 : Int64) v0 μ else f_X3_times_j23 v0 v2 (1000000000000 : Int64) (-v0) μ
def rm_X3_times : Room := { frames := 0, cells := 0, slots := 0, locals := 0 }
set_option maxHeartbeats 4000000 in
set_option maxRecDepth 100000 in
theorem m_X3_times (l : Launch) (w : fW) (hJ : fJ w) (hw : w.2.2.2 = sd 0) (v0 : Int64) (v2 : Int64) (μ : fMem) {r : Int64} {μr : fMem} (h : f_X3_times v0 v2 μ = some (r, μr)) : Met l yX3_times (.code yX3_times cX3_times 6 (some .long) :: gw) rm_X3_times (fPc w [.long v0, .long v2] μ) (fQl w r μr) 0 0 (fA w) := by
  refine met_of hJ (by decide) ?_ (Nat.le_of_ble_eq_true rfl)
  generalize ([.long v0, .long v2] : List Value).toArray = args
  intro p e s m below meth c ls C hr hP hl hS
  obtain ⟨hx, hb, hml, hown, hts, hK, -, hlk, hT⟩ := id C
  have hl : lv_has ls 6 [(0, .long v0), (2, .long v2)] := hl
  unfold f_X3_times at h
  have J23 : ∀ (t0 : Int64) (t1 : Int64) (μ : fMem), f_X3_times_j23 v0 v2 t0 t1 μ = some (r, μr) → WW p l e rm_X3_times s m args below meth c (MQ below (fQl w r μr) args s 0 0 (fA w)) w μ 6 23 [.long t1, .long t0] [(0, .long v0), (2, .long v2)] := by
    intro t0 t1 μ  h H locs ls hP hS hl
    unfold f_X3_times_j23 at h
    obtain ⟨g3, h⟩ := gd_ok h
    refine lv_ldiv hx hb dX3_times_23 g3 ?_
    refine lv_topl (fun x4 ex4 => ?_)
    replace h := vl_ok ex4 h
    refine lv_lstore (lv' := [(4, .long x4), (0, .long v0), (2, .long v2)]) hx hb dX3_times_24 hl (by decide) rfl (fun ls hl => ?_)
    refine lv_lload_n hx hb dX3_times_26 rfl (lv_at hl 2 rfl) ?_
    refine lv_lload hx hb dX3_times_27 (lv_at hl 0 rfl) ?_
    refine W.lcmp hx hb dX3_times_29 ?_
    refine lv_if_gt (tgt := 41) hx hb dX3_times_30 (by decide) (fun c5 => ?_) (fun c5 => ?_)
    · replace h := if_t c5 h
      refine lv_ldc2 hx hb hown (hts _ ct_X3_33) dX3_times_41 ?_
      refine lv_goto (tgt := 50) hx hb dX3_times_44 (by decide) ?_
      exact r_lret C hr hP hS h dX3_times_50
    · replace h := if_f c5 h
      refine lv_lload_n hx hb dX3_times_33 rfl (lv_at hl 2 rfl) ?_
      refine lv_lload hx hb dX3_times_34 (lv_at hl 0 rfl) ?_
      refine lv_lneg hx hb dX3_times_36 ?_
      refine W.lcmp hx hb dX3_times_37 ?_
      refine lv_if_ge (tgt := 47) hx hb dX3_times_38 (by decide) (fun c6 => ?_) (fun c6 => ?_)
      · replace h := if_t c6 h
        refine lv_lload_n hx hb dX3_times_47 rfl (lv_at hl 1 rfl) ?_
        refine lv_lload_n hx hb dX3_times_48 rfl (lv_at hl 2 rfl) ?_
        refine lv_lmul hx hb dX3_times_49 ?_
        exact r_lret C hr hP hS h dX3_times_50
      · replace h := if_f c6 h
        refine lv_ldc2 hx hb hown (hts _ ct_X3_33) dX3_times_41 ?_
        refine lv_goto (tgt := 50) hx hb dX3_times_44 (by decide) ?_
        exact r_lret C hr hP hS h dX3_times_50
  refine lv_lload_n hx hb dX3_times_0 rfl (lv_at hl 0 rfl) ?_
  refine lv_lconst (v := 0) hx hb dX3_times_1 (by decide) ?_
  refine W.lcmp hx hb dX3_times_2 ?_
  refine lv_if_ne (tgt := 8) hx hb dX3_times_3 (by decide) (fun c1 => ?_) (fun c1 => ?_)
  · replace h := if_f c1 h
    refine lv_ldc2 hx hb hown (hts _ ct_X3_43) dX3_times_8 ?_
    refine lv_lload_n hx hb dX3_times_11 rfl (lv_at hl 0 rfl) ?_
    refine lv_lconst (v := 0) hx hb dX3_times_12 (by decide) ?_
    refine W.lcmp hx hb dX3_times_13 ?_
    refine lv_if_ge (tgt := 22) hx hb dX3_times_14 (by decide) (fun c2 => ?_) (fun c2 => ?_)
    · replace h := if_t c2 h
      refine lv_lload_n hx hb dX3_times_22 rfl (lv_at hl 0 rfl) ?_
      exact J23 (1000000000000 : Int64) v0 μ  h _ _ _ hP hS (lv_sub hl [0, 1] rfl)
    · replace h := if_f c2 h
      refine lv_lload_n hx hb dX3_times_17 rfl (lv_at hl 0 rfl) ?_
      refine lv_lneg hx hb dX3_times_18 ?_
      refine lv_goto (tgt := 23) hx hb dX3_times_19 (by decide) ?_
      exact J23 (1000000000000 : Int64) (-v0) μ  h _ _ _ hP hS (lv_sub hl [0, 1] rfl)
  · replace h := if_t c1 h
    refine lv_lconst (v := 0) hx hb dX3_times_6 (by decide) ?_
    exact r_lret C hr hP hS h dX3_times_7

def f_X3_join (v0 : Int32) (v1 : Int64) (v3 : Int64) (μ : fMem) : Option (Int64 × fMem) :=
  if v0 = 10 then if (lg_cmp v1 (0 : Int64)) = 0 then if (lg_cmp v3 (0 : Int64)) = 0 then some ((0 : Int64), μ) else some ((1 : Int64), μ) else some ((1 : Int64), μ) else if v0 = 11 then if (lg_cmp v1 (0 : Int64)) = 0 then some ((0 : Int64), μ) else if (lg_cmp v3 (0 : Int64)) = 0 then some ((0 : Int64), μ) else some ((1 : Int64), μ) else if v0 = 12 then some ((-9223372036854775808 : Int64), μ) else if v0 = 13 then some ((-9223372036854775808 : Int64), μ) else if v0 = 14 then some ((-9223372036854775808 : Int64), μ) else if v0 = 15 then some ((-9223372036854775808 : Int64), μ) else if v0 = 16 then some ((-9223372036854775808 : Int64), μ) else if v0 = 17 then some ((-9223372036854775808 : Int64), μ) else if v0 = 18 then some ((-9223372036854775808 : Int64), μ) else if v0 = 19 then some ((-9223372036854775808 : Int64), μ) else if v0 = 20 then some ((-9223372036854775808 : Int64), μ) else if v0 = 21 then some ((-9223372036854775808 : Int64), μ) else if v0 = 22 then some ((-9223372036854775808 : Int64), μ) else if v0 = 23 then some ((-9223372036854775808 : Int64), μ) else if v0 = 24 then some ((-9223372036854775808 : Int64), μ) else if v0 = 25 then some ((-9223372036854775808 : Int64), μ) else if v0 = 26 then some ((-9223372036854775808 : Int64), μ) else if v0 = 27 then if 0 ≤ (lg_cmp v1 v3) then some ((0 : Int64), μ) else some ((1 : Int64), μ) else if v0 = 28 then if 0 < (lg_cmp v1 v3) then some ((0 : Int64), μ) else some ((1 : Int64), μ) else if v0 = 29 then if (lg_cmp v1 v3) = 0 then some ((1 : Int64), μ) else some ((0 : Int64), μ) else if v0 = 30 then if (lg_cmp v1 v3) = 0 then some ((0 : Int64), μ) else some ((1 : Int64), μ) else if v0 = 31 then if (lg_cmp v1 v3) < 0 then some ((0 : Int64), μ) else some ((1 : Int64), μ) else if v0 = 32 then if (lg_cmp v1 v3) ≤ 0 then some ((0 : Int64), μ) else some ((1 : Int64), μ) else if v0 = 33 then some ((v1 + v3), μ) else if v0 = 34 then some ((v1 - v3), μ) else if v0 = 35 then some ((-9223372036854775808 : Int64), μ) else if v0 = 36 then if (lg_cmp v3 (0 : Int64)) = 0 then some ((-9223372036854775808 : Int64), μ) else gd (¬ v3 = 0) (some ((v1 / v3), μ)) else some ((-9223372036854775808 : Int64), μ)
def rm_X3_join : Room := { frames := 0, cells := 0, slots := 0, locals := 0 }
set_option maxHeartbeats 4000000 in
set_option maxRecDepth 100000 in
theorem m_X3_join (l : Launch) (w : fW) (hJ : fJ w) (hw : w.2.2.2 = sd 0) (v0 : Int32) (v1 : Int64) (v3 : Int64) (μ : fMem) {r : Int64} {μr : fMem} (h : f_X3_join v0 v1 v3 μ = some (r, μr)) : Met l yX3_join (.code yX3_join cX3_join 5 (some .long) :: gw) rm_X3_join (fPc w [.int v0, .long v1, .long v3] μ) (fQl w r μr) 0 0 (fA w) := by
  refine met_of hJ (by decide) ?_ (Nat.le_of_ble_eq_true rfl)
  generalize ([.int v0, .long v1, .long v3] : List Value).toArray = args
  intro p e s m below meth c ls C hr hP hl hS
  obtain ⟨hx, hb, hml, hown, hts, hK, -, hlk, hT⟩ := id C
  have hl : lv_has ls 5 [(0, .int v0), (1, .long v1), (3, .long v3)] := hl
  unfold f_X3_join at h
  refine lv_iload_n hx hb dX3_join_0 rfl (lv_at hl 0 rfl) ?_
  by_cases c1 : v0 = 10
  · replace h := if_t c1 h
    refine lv_tableIn (off := 237) (tgt := 238) hx hb dX3_join_1 (by rw [c1]; decide) (by rw [c1]; decide) (by rw [c1]; rfl) (by decide) ?_
    refine lv_lload_n hx hb dX3_join_238 rfl (lv_at hl 1 rfl) ?_
    refine lv_lconst (v := 0) hx hb dX3_join_239 (by decide) ?_
    refine W.lcmp hx hb dX3_join_240 ?_
    refine lv_if_ne (tgt := 250) hx hb dX3_join_241 (by decide) (fun c2 => ?_) (fun c2 => ?_)
    · replace h := if_f c2 h
      refine lv_lconst (v := 1) hx hb dX3_join_250 (by decide) ?_
      refine lv_goto (tgt := 255) hx hb dX3_join_251 (by decide) ?_
      exact r_lret C hr hP hS h dX3_join_255
    · replace h := if_t c2 h
      refine lv_lload_n hx hb dX3_join_244 rfl (lv_at hl 2 rfl) ?_
      refine lv_lconst (v := 0) hx hb dX3_join_245 (by decide) ?_
      refine W.lcmp hx hb dX3_join_246 ?_
      refine lv_if_eq (tgt := 254) hx hb dX3_join_247 (by decide) (fun c3 => ?_) (fun c3 => ?_)
      · replace h := if_t c3 h
        refine lv_lconst (v := 0) hx hb dX3_join_254 (by decide) ?_
        exact r_lret C hr hP hS h dX3_join_255
      · replace h := if_f c3 h
        refine lv_lconst (v := 1) hx hb dX3_join_250 (by decide) ?_
        refine lv_goto (tgt := 255) hx hb dX3_join_251 (by decide) ?_
        exact r_lret C hr hP hS h dX3_join_255
  replace h := if_f c1 h
  by_cases c4 : v0 = 11
  · replace h := if_t c4 h
    refine lv_tableIn (off := 219) (tgt := 220) hx hb dX3_join_1 (by rw [c4]; decide) (by rw [c4]; decide) (by rw [c4]; rfl) (by decide) ?_
    refine lv_lload_n hx hb dX3_join_220 rfl (lv_at hl 1 rfl) ?_
    refine lv_lconst (v := 0) hx hb dX3_join_221 (by decide) ?_
    refine W.lcmp hx hb dX3_join_222 ?_
    refine lv_if_eq (tgt := 236) hx hb dX3_join_223 (by decide) (fun c5 => ?_) (fun c5 => ?_)
    · replace h := if_t c5 h
      refine lv_lconst (v := 0) hx hb dX3_join_236 (by decide) ?_
      exact r_lret C hr hP hS h dX3_join_237
    · replace h := if_f c5 h
      refine lv_lload_n hx hb dX3_join_226 rfl (lv_at hl 2 rfl) ?_
      refine lv_lconst (v := 0) hx hb dX3_join_227 (by decide) ?_
      refine W.lcmp hx hb dX3_join_228 ?_
      refine lv_if_eq (tgt := 236) hx hb dX3_join_229 (by decide) (fun c6 => ?_) (fun c6 => ?_)
      · replace h := if_t c6 h
        refine lv_lconst (v := 0) hx hb dX3_join_236 (by decide) ?_
        exact r_lret C hr hP hS h dX3_join_237
      · replace h := if_f c6 h
        refine lv_lconst (v := 1) hx hb dX3_join_232 (by decide) ?_
        refine lv_goto (tgt := 237) hx hb dX3_join_233 (by decide) ?_
        exact r_lret C hr hP hS h dX3_join_237
  replace h := if_f c4 h
  by_cases c7 : v0 = 12
  · replace h := if_t c7 h
    refine lv_tableIn (off := 255) (tgt := 256) hx hb dX3_join_1 (by rw [c7]; decide) (by rw [c7]; decide) (by rw [c7]; rfl) (by decide) ?_
    refine lv_ldc2 hx hb hown (hts _ ct_X3_33) dX3_join_256 ?_
    exact r_lret C hr hP hS h dX3_join_259
  replace h := if_f c7 h
  by_cases c8 : v0 = 13
  · replace h := if_t c8 h
    refine lv_tableIn (off := 255) (tgt := 256) hx hb dX3_join_1 (by rw [c8]; decide) (by rw [c8]; decide) (by rw [c8]; rfl) (by decide) ?_
    refine lv_ldc2 hx hb hown (hts _ ct_X3_33) dX3_join_256 ?_
    exact r_lret C hr hP hS h dX3_join_259
  replace h := if_f c8 h
  by_cases c9 : v0 = 14
  · replace h := if_t c9 h
    refine lv_tableIn (off := 255) (tgt := 256) hx hb dX3_join_1 (by rw [c9]; decide) (by rw [c9]; decide) (by rw [c9]; rfl) (by decide) ?_
    refine lv_ldc2 hx hb hown (hts _ ct_X3_33) dX3_join_256 ?_
    exact r_lret C hr hP hS h dX3_join_259
  replace h := if_f c9 h
  by_cases c10 : v0 = 15
  · replace h := if_t c10 h
    refine lv_tableIn (off := 255) (tgt := 256) hx hb dX3_join_1 (by rw [c10]; decide) (by rw [c10]; decide) (by rw [c10]; rfl) (by decide) ?_
    refine lv_ldc2 hx hb hown (hts _ ct_X3_33) dX3_join_256 ?_
    exact r_lret C hr hP hS h dX3_join_259
  replace h := if_f c10 h
  by_cases c11 : v0 = 16
  · replace h := if_t c11 h
    refine lv_tableIn (off := 255) (tgt := 256) hx hb dX3_join_1 (by rw [c11]; decide) (by rw [c11]; decide) (by rw [c11]; rfl) (by decide) ?_
    refine lv_ldc2 hx hb hown (hts _ ct_X3_33) dX3_join_256 ?_
    exact r_lret C hr hP hS h dX3_join_259
  replace h := if_f c11 h
  by_cases c12 : v0 = 17
  · replace h := if_t c12 h
    refine lv_tableIn (off := 255) (tgt := 256) hx hb dX3_join_1 (by rw [c12]; decide) (by rw [c12]; decide) (by rw [c12]; rfl) (by decide) ?_
    refine lv_ldc2 hx hb hown (hts _ ct_X3_33) dX3_join_256 ?_
    exact r_lret C hr hP hS h dX3_join_259
  replace h := if_f c12 h
  by_cases c13 : v0 = 18
  · replace h := if_t c13 h
    refine lv_tableIn (off := 255) (tgt := 256) hx hb dX3_join_1 (by rw [c13]; decide) (by rw [c13]; decide) (by rw [c13]; rfl) (by decide) ?_
    refine lv_ldc2 hx hb hown (hts _ ct_X3_33) dX3_join_256 ?_
    exact r_lret C hr hP hS h dX3_join_259
  replace h := if_f c13 h
  by_cases c14 : v0 = 19
  · replace h := if_t c14 h
    refine lv_tableIn (off := 255) (tgt := 256) hx hb dX3_join_1 (by rw [c14]; decide) (by rw [c14]; decide) (by rw [c14]; rfl) (by decide) ?_
    refine lv_ldc2 hx hb hown (hts _ ct_X3_33) dX3_join_256 ?_
    exact r_lret C hr hP hS h dX3_join_259
  replace h := if_f c14 h
  by_cases c15 : v0 = 20
  · replace h := if_t c15 h
    refine lv_tableIn (off := 255) (tgt := 256) hx hb dX3_join_1 (by rw [c15]; decide) (by rw [c15]; decide) (by rw [c15]; rfl) (by decide) ?_
    refine lv_ldc2 hx hb hown (hts _ ct_X3_33) dX3_join_256 ?_
    exact r_lret C hr hP hS h dX3_join_259
  replace h := if_f c15 h
  by_cases c16 : v0 = 21
  · replace h := if_t c16 h
    refine lv_tableIn (off := 255) (tgt := 256) hx hb dX3_join_1 (by rw [c16]; decide) (by rw [c16]; decide) (by rw [c16]; rfl) (by decide) ?_
    refine lv_ldc2 hx hb hown (hts _ ct_X3_33) dX3_join_256 ?_
    exact r_lret C hr hP hS h dX3_join_259
  replace h := if_f c16 h
  by_cases c17 : v0 = 22
  · replace h := if_t c17 h
    refine lv_tableIn (off := 255) (tgt := 256) hx hb dX3_join_1 (by rw [c17]; decide) (by rw [c17]; decide) (by rw [c17]; rfl) (by decide) ?_
    refine lv_ldc2 hx hb hown (hts _ ct_X3_33) dX3_join_256 ?_
    exact r_lret C hr hP hS h dX3_join_259
  replace h := if_f c17 h
  by_cases c18 : v0 = 23
  · replace h := if_t c18 h
    refine lv_tableIn (off := 255) (tgt := 256) hx hb dX3_join_1 (by rw [c18]; decide) (by rw [c18]; decide) (by rw [c18]; rfl) (by decide) ?_
    refine lv_ldc2 hx hb hown (hts _ ct_X3_33) dX3_join_256 ?_
    exact r_lret C hr hP hS h dX3_join_259
  replace h := if_f c18 h
  by_cases c19 : v0 = 24
  · replace h := if_t c19 h
    refine lv_tableIn (off := 255) (tgt := 256) hx hb dX3_join_1 (by rw [c19]; decide) (by rw [c19]; decide) (by rw [c19]; rfl) (by decide) ?_
    refine lv_ldc2 hx hb hown (hts _ ct_X3_33) dX3_join_256 ?_
    exact r_lret C hr hP hS h dX3_join_259
  replace h := if_f c19 h
  by_cases c20 : v0 = 25
  · replace h := if_t c20 h
    refine lv_tableIn (off := 255) (tgt := 256) hx hb dX3_join_1 (by rw [c20]; decide) (by rw [c20]; decide) (by rw [c20]; rfl) (by decide) ?_
    refine lv_ldc2 hx hb hown (hts _ ct_X3_33) dX3_join_256 ?_
    exact r_lret C hr hP hS h dX3_join_259
  replace h := if_f c20 h
  by_cases c21 : v0 = 26
  · replace h := if_t c21 h
    refine lv_tableIn (off := 255) (tgt := 256) hx hb dX3_join_1 (by rw [c21]; decide) (by rw [c21]; decide) (by rw [c21]; rfl) (by decide) ?_
    refine lv_ldc2 hx hb hown (hts _ ct_X3_33) dX3_join_256 ?_
    exact r_lret C hr hP hS h dX3_join_259
  replace h := if_f c21 h
  by_cases c22 : v0 = 27
  · replace h := if_t c22 h
    refine lv_tableIn (off := 147) (tgt := 148) hx hb dX3_join_1 (by rw [c22]; decide) (by rw [c22]; decide) (by rw [c22]; rfl) (by decide) ?_
    refine lv_lload_n hx hb dX3_join_148 rfl (lv_at hl 1 rfl) ?_
    refine lv_lload_n hx hb dX3_join_149 rfl (lv_at hl 2 rfl) ?_
    refine W.lcmp hx hb dX3_join_150 ?_
    refine lv_if_ge (tgt := 158) hx hb dX3_join_151 (by decide) (fun c23 => ?_) (fun c23 => ?_)
    · replace h := if_t c23 h
      refine lv_lconst (v := 0) hx hb dX3_join_158 (by decide) ?_
      exact r_lret C hr hP hS h dX3_join_159
    · replace h := if_f c23 h
      refine lv_lconst (v := 1) hx hb dX3_join_154 (by decide) ?_
      refine lv_goto (tgt := 159) hx hb dX3_join_155 (by decide) ?_
      exact r_lret C hr hP hS h dX3_join_159
  replace h := if_f c22 h
  by_cases c24 : v0 = 28
  · replace h := if_t c24 h
    refine lv_tableIn (off := 159) (tgt := 160) hx hb dX3_join_1 (by rw [c24]; decide) (by rw [c24]; decide) (by rw [c24]; rfl) (by decide) ?_
    refine lv_lload_n hx hb dX3_join_160 rfl (lv_at hl 1 rfl) ?_
    refine lv_lload_n hx hb dX3_join_161 rfl (lv_at hl 2 rfl) ?_
    refine W.lcmp hx hb dX3_join_162 ?_
    refine lv_if_gt (tgt := 170) hx hb dX3_join_163 (by decide) (fun c25 => ?_) (fun c25 => ?_)
    · replace h := if_t c25 h
      refine lv_lconst (v := 0) hx hb dX3_join_170 (by decide) ?_
      exact r_lret C hr hP hS h dX3_join_171
    · replace h := if_f c25 h
      refine lv_lconst (v := 1) hx hb dX3_join_166 (by decide) ?_
      refine lv_goto (tgt := 171) hx hb dX3_join_167 (by decide) ?_
      exact r_lret C hr hP hS h dX3_join_171
  replace h := if_f c24 h
  by_cases c26 : v0 = 29
  · replace h := if_t c26 h
    refine lv_tableIn (off := 171) (tgt := 172) hx hb dX3_join_1 (by rw [c26]; decide) (by rw [c26]; decide) (by rw [c26]; rfl) (by decide) ?_
    refine lv_lload_n hx hb dX3_join_172 rfl (lv_at hl 1 rfl) ?_
    refine lv_lload_n hx hb dX3_join_173 rfl (lv_at hl 2 rfl) ?_
    refine W.lcmp hx hb dX3_join_174 ?_
    refine lv_if_ne (tgt := 182) hx hb dX3_join_175 (by decide) (fun c27 => ?_) (fun c27 => ?_)
    · replace h := if_f c27 h
      refine lv_lconst (v := 0) hx hb dX3_join_182 (by decide) ?_
      exact r_lret C hr hP hS h dX3_join_183
    · replace h := if_t c27 h
      refine lv_lconst (v := 1) hx hb dX3_join_178 (by decide) ?_
      refine lv_goto (tgt := 183) hx hb dX3_join_179 (by decide) ?_
      exact r_lret C hr hP hS h dX3_join_183
  replace h := if_f c26 h
  by_cases c28 : v0 = 30
  · replace h := if_t c28 h
    refine lv_tableIn (off := 183) (tgt := 184) hx hb dX3_join_1 (by rw [c28]; decide) (by rw [c28]; decide) (by rw [c28]; rfl) (by decide) ?_
    refine lv_lload_n hx hb dX3_join_184 rfl (lv_at hl 1 rfl) ?_
    refine lv_lload_n hx hb dX3_join_185 rfl (lv_at hl 2 rfl) ?_
    refine W.lcmp hx hb dX3_join_186 ?_
    refine lv_if_eq (tgt := 194) hx hb dX3_join_187 (by decide) (fun c29 => ?_) (fun c29 => ?_)
    · replace h := if_t c29 h
      refine lv_lconst (v := 0) hx hb dX3_join_194 (by decide) ?_
      exact r_lret C hr hP hS h dX3_join_195
    · replace h := if_f c29 h
      refine lv_lconst (v := 1) hx hb dX3_join_190 (by decide) ?_
      refine lv_goto (tgt := 195) hx hb dX3_join_191 (by decide) ?_
      exact r_lret C hr hP hS h dX3_join_195
  replace h := if_f c28 h
  by_cases c30 : v0 = 31
  · replace h := if_t c30 h
    refine lv_tableIn (off := 195) (tgt := 196) hx hb dX3_join_1 (by rw [c30]; decide) (by rw [c30]; decide) (by rw [c30]; rfl) (by decide) ?_
    refine lv_lload_n hx hb dX3_join_196 rfl (lv_at hl 1 rfl) ?_
    refine lv_lload_n hx hb dX3_join_197 rfl (lv_at hl 2 rfl) ?_
    refine W.lcmp hx hb dX3_join_198 ?_
    refine lv_if_lt (tgt := 206) hx hb dX3_join_199 (by decide) (fun c31 => ?_) (fun c31 => ?_)
    · replace h := if_t c31 h
      refine lv_lconst (v := 0) hx hb dX3_join_206 (by decide) ?_
      exact r_lret C hr hP hS h dX3_join_207
    · replace h := if_f c31 h
      refine lv_lconst (v := 1) hx hb dX3_join_202 (by decide) ?_
      refine lv_goto (tgt := 207) hx hb dX3_join_203 (by decide) ?_
      exact r_lret C hr hP hS h dX3_join_207
  replace h := if_f c30 h
  by_cases c32 : v0 = 32
  · replace h := if_t c32 h
    refine lv_tableIn (off := 207) (tgt := 208) hx hb dX3_join_1 (by rw [c32]; decide) (by rw [c32]; decide) (by rw [c32]; rfl) (by decide) ?_
    refine lv_lload_n hx hb dX3_join_208 rfl (lv_at hl 1 rfl) ?_
    refine lv_lload_n hx hb dX3_join_209 rfl (lv_at hl 2 rfl) ?_
    refine W.lcmp hx hb dX3_join_210 ?_
    refine lv_if_le (tgt := 218) hx hb dX3_join_211 (by decide) (fun c33 => ?_) (fun c33 => ?_)
    · replace h := if_t c33 h
      refine lv_lconst (v := 0) hx hb dX3_join_218 (by decide) ?_
      exact r_lret C hr hP hS h dX3_join_219
    · replace h := if_f c33 h
      refine lv_lconst (v := 1) hx hb dX3_join_214 (by decide) ?_
      refine lv_goto (tgt := 219) hx hb dX3_join_215 (by decide) ?_
      exact r_lret C hr hP hS h dX3_join_219
  replace h := if_f c32 h
  by_cases c34 : v0 = 33
  · replace h := if_t c34 h
    refine lv_tableIn (off := 123) (tgt := 124) hx hb dX3_join_1 (by rw [c34]; decide) (by rw [c34]; decide) (by rw [c34]; rfl) (by decide) ?_
    refine lv_lload_n hx hb dX3_join_124 rfl (lv_at hl 1 rfl) ?_
    refine lv_lload_n hx hb dX3_join_125 rfl (lv_at hl 2 rfl) ?_
    refine lv_ladd hx hb dX3_join_126 ?_
    exact r_lret C hr hP hS h dX3_join_127
  replace h := if_f c34 h
  by_cases c35 : v0 = 34
  · replace h := if_t c35 h
    refine lv_tableIn (off := 127) (tgt := 128) hx hb dX3_join_1 (by rw [c35]; decide) (by rw [c35]; decide) (by rw [c35]; rfl) (by decide) ?_
    refine lv_lload_n hx hb dX3_join_128 rfl (lv_at hl 1 rfl) ?_
    refine lv_lload_n hx hb dX3_join_129 rfl (lv_at hl 2 rfl) ?_
    refine lv_lsub hx hb dX3_join_130 ?_
    exact r_lret C hr hP hS h dX3_join_131
  replace h := if_f c35 h
  by_cases c36 : v0 = 35
  · replace h := if_t c36 h
    refine lv_tableIn (off := 255) (tgt := 256) hx hb dX3_join_1 (by rw [c36]; decide) (by rw [c36]; decide) (by rw [c36]; rfl) (by decide) ?_
    refine lv_ldc2 hx hb hown (hts _ ct_X3_33) dX3_join_256 ?_
    exact r_lret C hr hP hS h dX3_join_259
  replace h := if_f c36 h
  by_cases c37 : v0 = 36
  · replace h := if_t c37 h
    refine lv_tableIn (off := 131) (tgt := 132) hx hb dX3_join_1 (by rw [c37]; decide) (by rw [c37]; decide) (by rw [c37]; rfl) (by decide) ?_
    refine lv_lload_n hx hb dX3_join_132 rfl (lv_at hl 2 rfl) ?_
    refine lv_lconst (v := 0) hx hb dX3_join_133 (by decide) ?_
    refine W.lcmp hx hb dX3_join_134 ?_
    refine lv_if_ne (tgt := 144) hx hb dX3_join_135 (by decide) (fun c38 => ?_) (fun c38 => ?_)
    · replace h := if_f c38 h
      refine lv_lload_n hx hb dX3_join_144 rfl (lv_at hl 1 rfl) ?_
      refine lv_lload_n hx hb dX3_join_145 rfl (lv_at hl 2 rfl) ?_
      obtain ⟨g39, h⟩ := gd_ok h
      refine lv_ldiv hx hb dX3_join_146 g39 ?_
      exact r_lret C hr hP hS h dX3_join_147
    · replace h := if_t c38 h
      refine lv_ldc2 hx hb hown (hts _ ct_X3_33) dX3_join_138 ?_
      refine lv_goto (tgt := 147) hx hb dX3_join_141 (by decide) ?_
      exact r_lret C hr hP hS h dX3_join_147
  replace h := if_f c37 h
  have ho : Int32.toInt v0 < 10 ∨ 36 < Int32.toInt v0 := tb_out _ _ _ (fun v h1 h2 => by
    rcases (show v = 10 ∨ v = 11 ∨ v = 12 ∨ v = 13 ∨ v = 14 ∨ v = 15 ∨ v = 16 ∨ v = 17 ∨ v = 18 ∨ v = 19 ∨ v = 20 ∨ v = 21 ∨ v = 22 ∨ v = 23 ∨ v = 24 ∨ v = 25 ∨ v = 26 ∨ v = 27 ∨ v = 28 ∨ v = 29 ∨ v = 30 ∨ v = 31 ∨ v = 32 ∨ v = 33 ∨ v = 34 ∨ v = 35 ∨ v = 36 by omega) with rfl | rfl | rfl | rfl | rfl | rfl | rfl | rfl | rfl | rfl | rfl | rfl | rfl | rfl | rfl | rfl | rfl | rfl | rfl | rfl | rfl | rfl | rfl | rfl | rfl | rfl | rfl
    · exact c1
    · exact c4
    · exact c7
    · exact c8
    · exact c9
    · exact c10
    · exact c11
    · exact c12
    · exact c13
    · exact c14
    · exact c15
    · exact c16
    · exact c17
    · exact c18
    · exact c19
    · exact c20
    · exact c21
    · exact c22
    · exact c24
    · exact c26
    · exact c28
    · exact c30
    · exact c32
    · exact c34
    · exact c35
    · exact c36
    · exact c37)
  refine lv_tableOut (tgt := 256) hx hb dX3_join_1 ho (by decide) ?_
  refine lv_ldc2 hx hb hown (hts _ ct_X3_33) dX3_join_256 ?_
  exact r_lret C hr hP hS h dX3_join_259

def f_X3_work_j214 (v0 : Nat) (v1 : Nat) (v2 : Int32) (v3 : Int32) (v5 : Int32) (v6 : Int64) (μ : fMem) : Option (Nat × (Int32 × Int32 × fMem)) :=
  if 0 < (lg_cmp v6 (1000000000000 : Int64)) then some (3, (v2, v3, μ)) else if 0 ≤ (lg_cmp v6 (-1000000000000 : Int64)) then vl (v2 - v5) fun x32 => gd (ixo x32 64) (vl (sL μ (v0 + 3) (Int32.toNatClampNeg x32) v6) fun μ33 => vl (x32 + (1 : Int32)) fun x35 => vl (v3 + (1 : Int32)) fun x36 => some (0, (x35, x36, μ33))) else some (3, (v2, v3, μ))
def f_X3_work_j155 (v0 : Nat) (v1 : Nat) (v2 : Int32) (v3 : Int32) (v5 : Int32) (t0 : Int64) (μ : fMem) : Option (Nat × (Int32 × Int32 × fMem)) :=
  f_X3_work_j214 v0 v1 v2 v3 v5 t0 μ
def f_X3_work_j126 (v0 : Nat) (v1 : Nat) (v2 : Int32) (v3 : Int32) (v5 : Int32) (t0 : Int64) (μ : fMem) : Option (Nat × (Int32 × Int32 × fMem)) :=
  f_X3_work_j214 v0 v1 v2 v3 v5 t0 μ
def f_X3_work_j57 (v0 : Nat) (v1 : Nat) (v2 : Int32) (v3 : Int32) (v4 : Int32) (t0 : Int32) (μ : fMem) : Option (Nat × (Int32 × Int32 × fMem)) :=
  if v2 < t0 then some (2, (v2, v3, μ)) else if (v2 - t0) < (64 : Int32) then if v4 = (21 : Int32) then gd (ixo v3 64) (vl (((μ.1 (v0 + 2) (Int32.toNatClampNeg v3))).toInt64) fun x29 => f_X3_work_j214 v0 v1 v2 v3 t0 x29 μ) else if t0 = 0 then if (Int32.ofNat (kd v1).2) ≤ (v4 - (13 : Int32)) then f_X3_work_j126 v0 v1 v2 v3 t0 (0 : Int64) μ else gd (ixo (v4 - (13 : Int32)) (kd v1).2) (f_X3_work_j126 v0 v1 v2 v3 t0 (μ.2.1 v1 (Int32.toNatClampNeg (v4 - (13 : Int32)))) μ) else if t0 = (1 : Int32) then gd (ixo (v2 - (1 : Int32)) 64) (if (lg_cmp (μ.2.1 (v0 + 3) (Int32.toNatClampNeg (v2 - (1 : Int32)))) (0 : Int64)) = 0 then f_X3_work_j155 v0 v1 v2 v3 t0 (1 : Int64) μ else f_X3_work_j155 v0 v1 v2 v3 t0 (0 : Int64) μ) else if v4 = (35 : Int32) then gd (ixo (v2 - (2 : Int32)) 64) (gd (ixo (v2 - (1 : Int32)) 64) (bd (f_X3_times (μ.2.1 (v0 + 3) (Int32.toNatClampNeg (v2 - (2 : Int32)))) (μ.2.1 (v0 + 3) (Int32.toNatClampNeg (v2 - (1 : Int32)))) μ) fun r22 μ21 => f_X3_work_j214 v0 v1 v2 v3 t0 r22 μ21)) else gd (ixo (v2 - (2 : Int32)) 64) (gd (ixo (v2 - (1 : Int32)) 64) (bd (f_X3_join v4 (μ.2.1 (v0 + 3) (Int32.toNatClampNeg (v2 - (2 : Int32)))) (μ.2.1 (v0 + 3) (Int32.toNatClampNeg (v2 - (1 : Int32)))) μ) fun r17 μ16 => f_X3_work_j214 v0 v1 v2 v3 t0 r17 μ16)) else some (2, (v2, v3, μ))
def f_X3_work_j45 (v0 : Nat) (v1 : Nat) (v2 : Int32) (v3 : Int32) (v4 : Int32) (μ : fMem) : Option (Nat × (Int32 × Int32 × fMem)) :=
  if v4 = (12 : Int32) then f_X3_work_j57 v0 v1 v2 v3 v4 (1 : Int32) μ else f_X3_work_j57 v0 v1 v2 v3 v4 (2 : Int32) μ
def f_X3_work_j41 (v0 : Nat) (v1 : Nat) (v2 : Int32) (v3 : Int32) (v4 : Int32) (μ : fMem) : Option (Nat × (Int32 × Int32 × fMem)) :=
  f_X3_work_j57 v0 v1 v2 v3 v4 (0 : Int32) μ
def f_X3_work_L4 (v0 : Nat) (v1 : Nat) (v2 : Int32) (v3 : Int32) (μ : fMem) : Option (Nat × (Int32 × Int32 × fMem)) :=
  if (μ.1 v0 1) ≤ v3 then some (1, (v2, v3, μ)) else gd (ixo v3 64) (vl (μ.1 (v0 + 1) (Int32.toNatClampNeg v3)) fun x3 => if x3 = (21 : Int32) then f_X3_work_j41 v0 v1 v2 v3 x3 μ else if x3 < (13 : Int32) then f_X3_work_j45 v0 v1 v2 v3 x3 μ else if (19 : Int32) < x3 then f_X3_work_j45 v0 v1 v2 v3 x3 μ else f_X3_work_j41 v0 v1 v2 v3 x3 μ)
def f_X3_work (v0 : Nat) (v1 : Nat) (μ : fMem) : Option (Int64 × fMem) :=
  bd (lpn (fun (q : Int32 × Int32 × fMem) => f_X3_work_L4 v0 v1 q.1 q.2.1 q.2.2) fuel ((0 : Int32), (0 : Int32), μ)) fun t37 q38 => (fun (x39 : Int32) (x40 : Int32) (μ41 : fMem) => if t37 = 0 then if x39 = (1 : Int32) then some ((μ41.2.1 (v0 + 3) 0), μ41) else some ((-9223372036854775808 : Int64), μ41) else if t37 = 1 then some ((-9223372036854775808 : Int64), μ41) else some ((-9223372036854775808 : Int64), μ41)) q38.1 q38.2.1 q38.2.2
def rm_X3_work : Room := { frames := 1, cells := 0, slots := 0, locals := 25 }
set_option maxHeartbeats 4000000 in
set_option maxRecDepth 100000 in
theorem m_X3_work (l : Launch) (w : fW) (hJ : fJ w) (hw : w.2.2.2 = sd 0) (v0 : Nat) (v1 : Nat) (hk0 : kd v0 = (4, 3)) (hk1 : kd v1 = (2, (kd v1).2)) (hi1 : inW w.2.2.2 v1) (μ : fMem) {r : Int64} {μr : fMem} (h : f_X3_work v0 v1 μ = some (r, μr)) : Met l yX3_work (.code yX3_work cX3_work 8 (some .long) :: gw) rm_X3_work (fPc w [.ref (w.2.2.1 v0), .ref (w.2.2.1 v1)] μ) (fQl w r μr) 0 0 (fA w) := by
  refine met_of hJ (by decide) ?_ (Nat.le_of_ble_eq_true rfl)
  generalize ([.ref (w.2.2.1 v0), .ref (w.2.2.1 v1)] : List Value).toArray = args
  intro p e s m below meth c ls C hr hP hl hS
  obtain ⟨hx, hb, hml, hown, hts, hK, -, hlk, hT⟩ := id C
  have hl : lv_has ls 8 [(0, .ref (w.2.2.1 v0)), (1, .ref (w.2.2.1 v1))] := hl
  unfold f_X3_work at h
  refine lv_iconst (v := (0)) hx hb dX3_work_0 (by decide) ?_
  refine lv_istore_n (lv' := [(2, .int (0 : Int32)), (0, .ref (w.2.2.1 v0)), (1, .ref (w.2.2.1 v1))]) hx hb dX3_work_1 rfl hl (by decide) rfl (fun ls hl => ?_)
  refine lv_iconst (v := (0)) hx hb dX3_work_2 (by decide) ?_
  refine lv_istore_n (lv' := [(3, .int (0 : Int32)), (2, .int (0 : Int32)), (0, .ref (w.2.2.1 v0)), (1, .ref (w.2.2.1 v1))]) hx hb dX3_work_3 rfl hl (by decide) rfl (fun ls hl => ?_)
  obtain ⟨t37, q38, h43, h⟩ := bd_ok h
  refine lpn_ind (b := (fun (q : Int32 × Int32 × fMem) => f_X3_work_L4 v0 v1 q.1 q.2.1 q.2.2)) (P := fun (q : Int32 × Int32 × fMem) => WW p l e rm_X3_work s m args below meth c (MQ below (fQl w r μr) args s 0 0 (fA w)) w q.2.2 8 4 [] [(0, .ref (w.2.2.1 v0)), (1, .ref (w.2.2.1 v1)), (2, .int q.1), (3, .int q.2.1)]) (K := fun t (q : Int32 × Int32 × fMem) => (t = 0 → WW p l e rm_X3_work s m args below meth c (MQ below (fQl w r μr) args s 0 0 (fA w)) w q.2.2 8 258 [] [(0, .ref (w.2.2.1 v0)), (2, .int q.1)]) ∧ (t = 1 → WW p l e rm_X3_work s m args below meth c (MQ below (fQl w r μr) args s 0 0 (fA w)) w q.2.2 8 77 [] []) ∧ (t = 2 → WW p l e rm_X3_work s m args below meth c (MQ below (fQl w r μr) args s 0 0 (fA w)) w q.2.2 8 232 [] [])) ?_ fuel ((0 : Int32), (0 : Int32), μ) t37 q38 h43 ?_ _ _ _ hP hS (lv_sub hl [2, 3, 1, 0] rfl)
  · intro q tz4 sz4 h hP0_4 hK0_4 H locs ls hP hS hl
    obtain ⟨v2, v3, μ⟩ := q
    have hP : fP w μ H := hP
    have hl : lv_has ls 8 [(0, .ref (w.2.2.1 v0)), (1, .ref (w.2.2.1 v1)), (2, .int v2), (3, .int v3)] := hl
    have h : f_X3_work_L4 v0 v1 v2 v3 μ = some (tz4, sz4) := h
    unfold f_X3_work_L4 at h
    have J214 : ∀ (v2 : Int32) (v3 : Int32) (v5 : Int32) (v6 : Int64) (μ : fMem), f_X3_work_j214 v0 v1 v2 v3 v5 v6 μ = some (tz4, sz4) → WW p l e rm_X3_work s m args below meth c (MQ below (fQl w r μr) args s 0 0 (fA w)) w μ 8 214 [] [(0, .ref (w.2.2.1 v0)), (1, .ref (w.2.2.1 v1)), (2, .int v2), (3, .int v3), (5, .int v5), (6, .long v6)] := by
      intro v2 v3 v5 v6 μ  h H locs ls hP hS hl
      unfold f_X3_work_j214 at h
      refine lv_lload hx hb dX3_work_214 (lv_at hl 5 rfl) ?_
      refine lv_ldc2 hx hb hown (hts _ ct_X3_43) dX3_work_216 ?_
      refine W.lcmp hx hb dX3_work_219 ?_
      refine lv_if_gt (tgt := 232) hx hb dX3_work_220 (by decide) (fun c30 => ?_) (fun c30 => ?_)
      · replace h := if_t c30 h
        obtain ⟨rfl, rfl⟩ := leaf h
        exact ((hK0_4 2 rfl).2.2 rfl) _ _ _ hP hS (lv_sub hl [] rfl)
      · replace h := if_f c30 h
        refine lv_lload hx hb dX3_work_223 (lv_at hl 5 rfl) ?_
        refine lv_ldc2 hx hb hown (hts _ ct_X3_45) dX3_work_225 ?_
        refine W.lcmp hx hb dX3_work_228 ?_
        refine lv_if_ge (tgt := 236) hx hb dX3_work_229 (by decide) (fun c31 => ?_) (fun c31 => ?_)
        · replace h := if_t c31 h
          refine lv_iload_n hx hb dX3_work_236 rfl (lv_at hl 2 rfl) ?_
          refine lv_iload hx hb dX3_work_237 (lv_at hl 4 rfl) ?_
          refine lv_isub hx hb dX3_work_239 ?_
          refine lv_topi (fun x32 ex32 => ?_)
          replace h := vl_ok ex32 h
          refine lv_istore_n (lv' := [(2, .int x32), (0, .ref (w.2.2.1 v0)), (1, .ref (w.2.2.1 v1)), (3, .int v3), (5, .int v5), (6, .long v6)]) hx hb dX3_work_240 rfl hl (by decide) rfl (fun ls hl => ?_)
          refine lv_aload_n hx hb dX3_work_241 rfl (lv_at hl 1 rfl) ?_
          refine r_getF (off := 3) C hP (iw hw (fi_3 hk0)) hk0 fl_X3_29 rfl rfl (zw hw) dX3_work_242 ?_
          refine lv_iload_n hx hb dX3_work_245 rfl (lv_at hl 0 rfl) ?_
          refine lv_lload hx hb dX3_work_246 (lv_at hl 5 rfl) ?_
          obtain ⟨g34, h⟩ := gd_ok h
          refine r_last C hP hS (iw hw (ff_3_5 hk0).2) (ff_3_5 hk0).1 g34 dX3_work_248 (fun H locs hP hS => ?_)
          obtain ⟨μ33, eμ33, h⟩ := vl_ex h
          have hP : fP w μ33 H := by rw [eμ33]; exact hP
          obtain ⟨x35, ex35⟩ : ∃ y : Int32, y = (x32 + (1 : Int32)) := ⟨_, rfl⟩
          replace h := vl_ok ex35 h
          refine lv_iinc (v := x35) (lv' := [(2, .int x35), (0, .ref (w.2.2.1 v0)), (1, .ref (w.2.2.1 v1)), (3, .int v3), (5, .int v5), (6, .long v6)]) hx hb dX3_work_249 hl (k := 0) rfl (by rw [ex35]; rfl) (by decide) rfl (fun ls hl => ?_)
          obtain ⟨x36, ex36⟩ : ∃ y : Int32, y = (v3 + (1 : Int32)) := ⟨_, rfl⟩
          replace h := vl_ok ex36 h
          refine lv_iinc (v := x36) (lv' := [(3, .int x36), (2, .int x35), (0, .ref (w.2.2.1 v0)), (1, .ref (w.2.2.1 v1)), (5, .int v5), (6, .long v6)]) hx hb dX3_work_252 hl (k := 3) rfl (by rw [ex36]; rfl) (by decide) rfl (fun ls hl => ?_)
          refine lv_goto (tgt := 4) hx hb dX3_work_255 (by decide) ?_
          obtain ⟨rfl, rfl⟩ := leaf h
          exact hP0_4 rfl _ _ _ hP hS (lv_sub hl [2, 3, 1, 0] rfl)
        · replace h := if_f c31 h
          obtain ⟨rfl, rfl⟩ := leaf h
          exact ((hK0_4 2 rfl).2.2 rfl) _ _ _ hP hS (lv_sub hl [] rfl)
    have J155 : ∀ (v2 : Int32) (v3 : Int32) (v5 : Int32) (t0 : Int64) (μ : fMem), f_X3_work_j155 v0 v1 v2 v3 v5 t0 μ = some (tz4, sz4) → WW p l e rm_X3_work s m args below meth c (MQ below (fQl w r μr) args s 0 0 (fA w)) w μ 8 155 [.long t0] [(0, .ref (w.2.2.1 v0)), (1, .ref (w.2.2.1 v1)), (2, .int v2), (3, .int v3), (5, .int v5)] := by
      intro v2 v3 v5 t0 μ  h H locs ls hP hS hl
      unfold f_X3_work_j155 at h
      refine lv_lstore (lv' := [(6, .long t0), (0, .ref (w.2.2.1 v0)), (1, .ref (w.2.2.1 v1)), (2, .int v2), (3, .int v3), (5, .int v5)]) hx hb dX3_work_155 hl (by decide) rfl (fun ls hl => ?_)
      refine lv_goto (tgt := 214) hx hb dX3_work_157 (by decide) ?_
      exact J214 v2 v3 v5 t0 μ  h _ _ _ hP hS (lv_sub hl [1, 2, 3, 4, 5, 0] rfl)
    have J126 : ∀ (v2 : Int32) (v3 : Int32) (v5 : Int32) (t0 : Int64) (μ : fMem), f_X3_work_j126 v0 v1 v2 v3 v5 t0 μ = some (tz4, sz4) → WW p l e rm_X3_work s m args below meth c (MQ below (fQl w r μr) args s 0 0 (fA w)) w μ 8 126 [.long t0] [(0, .ref (w.2.2.1 v0)), (1, .ref (w.2.2.1 v1)), (2, .int v2), (3, .int v3), (5, .int v5)] := by
      intro v2 v3 v5 t0 μ  h H locs ls hP hS hl
      unfold f_X3_work_j126 at h
      refine lv_lstore (lv' := [(6, .long t0), (0, .ref (w.2.2.1 v0)), (1, .ref (w.2.2.1 v1)), (2, .int v2), (3, .int v3), (5, .int v5)]) hx hb dX3_work_126 hl (by decide) rfl (fun ls hl => ?_)
      refine lv_goto (tgt := 214) hx hb dX3_work_128 (by decide) ?_
      exact J214 v2 v3 v5 t0 μ  h _ _ _ hP hS (lv_sub hl [1, 2, 3, 4, 5, 0] rfl)
    have J57 : ∀ (v2 : Int32) (v3 : Int32) (v4 : Int32) (t0 : Int32) (μ : fMem), f_X3_work_j57 v0 v1 v2 v3 v4 t0 μ = some (tz4, sz4) → WW p l e rm_X3_work s m args below meth c (MQ below (fQl w r μr) args s 0 0 (fA w)) w μ 8 57 [.int t0] [(0, .ref (w.2.2.1 v0)), (1, .ref (w.2.2.1 v1)), (2, .int v2), (3, .int v3), (4, .int v4)] := by
      intro v2 v3 v4 t0 μ  h H locs ls hP hS hl
      unfold f_X3_work_j57 at h
      refine lv_istore (lv' := [(5, .int t0), (0, .ref (w.2.2.1 v0)), (1, .ref (w.2.2.1 v1)), (2, .int v2), (3, .int v3), (4, .int v4)]) hx hb dX3_work_57 hl (by decide) rfl (fun ls hl => ?_)
      refine lv_iload_n hx hb dX3_work_59 rfl (lv_at hl 3 rfl) ?_
      refine lv_iload hx hb dX3_work_60 (lv_at hl 0 rfl) ?_
      refine lv_icmp_lt (tgt := 77) hx hb dX3_work_62 (by decide) (fun c8 => ?_) (fun c8 => ?_)
      · replace h := if_t c8 h
        obtain ⟨rfl, rfl⟩ := leaf h
        exact ((hK0_4 1 rfl).2.1 rfl) _ _ _ hP hS (lv_sub hl [] rfl)
      · replace h := if_f c8 h
        refine lv_iload_n hx hb dX3_work_65 rfl (lv_at hl 3 rfl) ?_
        refine lv_iload hx hb dX3_work_66 (lv_at hl 0 rfl) ?_
        refine lv_isub hx hb dX3_work_68 ?_
        refine lv_aload_n hx hb dX3_work_69 rfl (lv_at hl 1 rfl) ?_
        refine r_getF (off := 3) C hP (iw hw (fi_3 hk0)) hk0 fl_X3_29 rfl rfl (zw hw) dX3_work_70 ?_
        refine r_alen (v := 64) C hP (iw hw (ff_3_5 hk0).2) (Or.inr (Or.inr (Or.inl (ff_3_5 hk0).1))) (by decide) dX3_work_73 ?_
        refine lv_icmp_lt (tgt := 81) hx hb dX3_work_74 (by decide) (fun c9 => ?_) (fun c9 => ?_)
        · replace h := if_t c9 h
          refine lv_iload hx hb dX3_work_81 (lv_at hl 5 rfl) ?_
          refine lv_bipush (v := (21)) hx hb dX3_work_83 (by decide) ?_
          refine lv_icmp_ne (tgt := 100) hx hb dX3_work_85 (by decide) (fun c10 => ?_) (fun c10 => ?_)
          · replace h := if_f c10 h
            refine lv_iload hx hb dX3_work_100 (lv_at hl 0 rfl) ?_
            refine lv_if_ne (tgt := 131) hx hb dX3_work_102 (by decide) (fun c11 => ?_) (fun c11 => ?_)
            · replace h := if_f c11 h
              refine lv_iload hx hb dX3_work_131 (lv_at hl 0 rfl) ?_
              refine lv_iconst (v := (1)) hx hb dX3_work_133 (by decide) ?_
              refine lv_icmp_ne (tgt := 160) hx hb dX3_work_134 (by decide) (fun c12 => ?_) (fun c12 => ?_)
              · replace h := if_f c12 h
                refine lv_iload hx hb dX3_work_160 (lv_at hl 5 rfl) ?_
                refine lv_bipush (v := (35)) hx hb dX3_work_162 (by decide) ?_
                refine lv_icmp_ne (tgt := 191) hx hb dX3_work_164 (by decide) (fun c13 => ?_) (fun c13 => ?_)
                · replace h := if_f c13 h
                  refine lv_iload hx hb dX3_work_191 (lv_at hl 5 rfl) ?_
                  refine lv_aload_n hx hb dX3_work_193 rfl (lv_at hl 1 rfl) ?_
                  refine r_getF (off := 3) C hP (iw hw (fi_3 hk0)) hk0 fl_X3_29 rfl rfl (zw hw) dX3_work_194 ?_
                  refine lv_iload_n hx hb dX3_work_197 rfl (lv_at hl 3 rfl) ?_
                  refine lv_iconst (v := (2)) hx hb dX3_work_198 (by decide) ?_
                  refine lv_isub hx hb dX3_work_199 ?_
                  obtain ⟨g14, h⟩ := gd_ok h
                  refine r_lald C hP (iw hw (ff_3_5 hk0).2) (ff_3_5 hk0).1 g14 dX3_work_200 ?_
                  refine lv_aload_n hx hb dX3_work_201 rfl (lv_at hl 1 rfl) ?_
                  refine r_getF (off := 3) C hP (iw hw (fi_3 hk0)) hk0 fl_X3_29 rfl rfl (zw hw) dX3_work_202 ?_
                  refine lv_iload_n hx hb dX3_work_205 rfl (lv_at hl 3 rfl) ?_
                  refine lv_iconst (v := (1)) hx hb dX3_work_206 (by decide) ?_
                  refine lv_isub hx hb dX3_work_207 ?_
                  obtain ⟨g15, h⟩ := gd_ok h
                  refine r_lald C hP (iw hw (ff_3_5 hk0).2) (ff_3_5 hk0).1 g15 dX3_work_208 ?_
                  obtain ⟨r17, μ16, h18, h⟩ := bd_ok h
                  refine go_l (callS_run (As := [.int v4, .long (μ.2.1 (v0 + 3) (Int32.toNatClampNeg (v2 - (2 : Int32)))), .long (μ.2.1 (v0 + 3) (Int32.toNatClampNeg (v2 - (1 : Int32))))]) (rest := []) C hl hP (hS.wide hJ).2.1 (m_X3_join l w hJ hw v4 (μ.2.1 (v0 + 3) (Int32.toNatClampNeg (v2 - (2 : Int32)))) (μ.2.1 (v0 + 3) (Int32.toNatClampNeg (v2 - (1 : Int32))))  μ h18) ms_X3_39 ⟨rfl, rfl, by decide, by decide⟩ rfl rfl (Nat.le_of_ble_eq_true rfl) ⟨Nat.zero_le _, Nat.zero_le _⟩ dX3_work_209) hS (fun H locs hP hS => ?_)
                  refine lv_lstore (lv' := [(6, .long r17), (5, .int t0), (0, .ref (w.2.2.1 v0)), (1, .ref (w.2.2.1 v1)), (2, .int v2), (3, .int v3), (4, .int v4)]) hx hb dX3_work_212 hl (by decide) rfl (fun ls hl => ?_)
                  exact J214 v2 v3 t0 r17 μ16  h _ _ _ hP hS (lv_sub hl [2, 3, 4, 5, 1, 0] rfl)
                · replace h := if_t c13 h
                  refine lv_aload_n hx hb dX3_work_167 rfl (lv_at hl 1 rfl) ?_
                  refine r_getF (off := 3) C hP (iw hw (fi_3 hk0)) hk0 fl_X3_29 rfl rfl (zw hw) dX3_work_168 ?_
                  refine lv_iload_n hx hb dX3_work_171 rfl (lv_at hl 3 rfl) ?_
                  refine lv_iconst (v := (2)) hx hb dX3_work_172 (by decide) ?_
                  refine lv_isub hx hb dX3_work_173 ?_
                  obtain ⟨g19, h⟩ := gd_ok h
                  refine r_lald C hP (iw hw (ff_3_5 hk0).2) (ff_3_5 hk0).1 g19 dX3_work_174 ?_
                  refine lv_aload_n hx hb dX3_work_175 rfl (lv_at hl 1 rfl) ?_
                  refine r_getF (off := 3) C hP (iw hw (fi_3 hk0)) hk0 fl_X3_29 rfl rfl (zw hw) dX3_work_176 ?_
                  refine lv_iload_n hx hb dX3_work_179 rfl (lv_at hl 3 rfl) ?_
                  refine lv_iconst (v := (1)) hx hb dX3_work_180 (by decide) ?_
                  refine lv_isub hx hb dX3_work_181 ?_
                  obtain ⟨g20, h⟩ := gd_ok h
                  refine r_lald C hP (iw hw (ff_3_5 hk0).2) (ff_3_5 hk0).1 g20 dX3_work_182 ?_
                  obtain ⟨r22, μ21, h23, h⟩ := bd_ok h
                  refine go_l (callS_run (As := [.long (μ.2.1 (v0 + 3) (Int32.toNatClampNeg (v2 - (2 : Int32)))), .long (μ.2.1 (v0 + 3) (Int32.toNatClampNeg (v2 - (1 : Int32))))]) (rest := []) C hl hP (hS.wide hJ).2.1 (m_X3_times l w hJ hw (μ.2.1 (v0 + 3) (Int32.toNatClampNeg (v2 - (2 : Int32)))) (μ.2.1 (v0 + 3) (Int32.toNatClampNeg (v2 - (1 : Int32))))  μ h23) ms_X3_35 ⟨rfl, rfl, by decide, by decide⟩ rfl rfl (Nat.le_of_ble_eq_true rfl) ⟨Nat.zero_le _, Nat.zero_le _⟩ dX3_work_183) hS (fun H locs hP hS => ?_)
                  refine lv_lstore (lv' := [(6, .long r22), (5, .int t0), (0, .ref (w.2.2.1 v0)), (1, .ref (w.2.2.1 v1)), (2, .int v2), (3, .int v3), (4, .int v4)]) hx hb dX3_work_186 hl (by decide) rfl (fun ls hl => ?_)
                  refine lv_goto (tgt := 214) hx hb dX3_work_188 (by decide) ?_
                  exact J214 v2 v3 t0 r22 μ21  h _ _ _ hP hS (lv_sub hl [2, 3, 4, 5, 1, 0] rfl)
              · replace h := if_t c12 h
                refine lv_aload_n hx hb dX3_work_137 rfl (lv_at hl 1 rfl) ?_
                refine r_getF (off := 3) C hP (iw hw (fi_3 hk0)) hk0 fl_X3_29 rfl rfl (zw hw) dX3_work_138 ?_
                refine lv_iload_n hx hb dX3_work_141 rfl (lv_at hl 3 rfl) ?_
                refine lv_iconst (v := (1)) hx hb dX3_work_142 (by decide) ?_
                refine lv_isub hx hb dX3_work_143 ?_
                obtain ⟨g24, h⟩ := gd_ok h
                refine r_lald C hP (iw hw (ff_3_5 hk0).2) (ff_3_5 hk0).1 g24 dX3_work_144 ?_
                refine lv_lconst (v := 0) hx hb dX3_work_145 (by decide) ?_
                refine W.lcmp hx hb dX3_work_146 ?_
                refine lv_if_ne (tgt := 154) hx hb dX3_work_147 (by decide) (fun c25 => ?_) (fun c25 => ?_)
                · replace h := if_f c25 h
                  refine lv_lconst (v := 0) hx hb dX3_work_154 (by decide) ?_
                  exact J155 v2 v3 t0 (0 : Int64) μ  h _ _ _ hP hS (lv_sub hl [1, 2, 3, 4, 0] rfl)
                · replace h := if_t c25 h
                  refine lv_lconst (v := 1) hx hb dX3_work_150 (by decide) ?_
                  refine lv_goto (tgt := 155) hx hb dX3_work_151 (by decide) ?_
                  exact J155 v2 v3 t0 (1 : Int64) μ  h _ _ _ hP hS (lv_sub hl [1, 2, 3, 4, 0] rfl)
            · replace h := if_t c11 h
              refine lv_iload hx hb dX3_work_105 (lv_at hl 5 rfl) ?_
              refine lv_bipush (v := (13)) hx hb dX3_work_107 (by decide) ?_
              refine lv_isub hx hb dX3_work_109 ?_
              refine lv_aload_n hx hb dX3_work_110 rfl (lv_at hl 2 rfl) ?_
              refine r_alen C hP hi1 (Or.inr (Or.inr (Or.inl hk1))) rfl dX3_work_111 ?_
              refine lv_icmp_ge (tgt := 125) hx hb dX3_work_112 (by decide) (fun c26 => ?_) (fun c26 => ?_)
              · replace h := if_t c26 h
                refine lv_lconst (v := 0) hx hb dX3_work_125 (by decide) ?_
                exact J126 v2 v3 t0 (0 : Int64) μ  h _ _ _ hP hS (lv_sub hl [1, 2, 3, 4, 0] rfl)
              · replace h := if_f c26 h
                refine lv_aload_n hx hb dX3_work_115 rfl (lv_at hl 2 rfl) ?_
                refine lv_iload hx hb dX3_work_116 (lv_at hl 5 rfl) ?_
                refine lv_bipush (v := (13)) hx hb dX3_work_118 (by decide) ?_
                refine lv_isub hx hb dX3_work_120 ?_
                obtain ⟨g27, h⟩ := gd_ok h
                refine r_lald C hP hi1 hk1 g27 dX3_work_121 ?_
                refine lv_goto (tgt := 126) hx hb dX3_work_122 (by decide) ?_
                exact J126 v2 v3 t0 (μ.2.1 v1 (Int32.toNatClampNeg (v4 - (13 : Int32)))) μ  h _ _ _ hP hS (lv_sub hl [1, 2, 3, 4, 0] rfl)
          · replace h := if_t c10 h
            refine lv_aload_n hx hb dX3_work_88 rfl (lv_at hl 1 rfl) ?_
            refine r_getF (off := 2) C hP (iw hw (fi_3 hk0)) hk0 fl_X3_26 rfl rfl (zw hw) dX3_work_89 ?_
            refine lv_iload_n hx hb dX3_work_92 rfl (lv_at hl 4 rfl) ?_
            obtain ⟨g28, h⟩ := gd_ok h
            refine r_iald C hP (iw hw (ff_3_4 hk0).2) (ff_3_4 hk0).1 g28 dX3_work_93 ?_
            refine lv_i2l hx hb dX3_work_94 rfl ?_
            refine lv_topl (fun x29 ex29 => ?_)
            replace h := vl_ok ex29 h
            refine lv_lstore (lv' := [(6, .long x29), (5, .int t0), (0, .ref (w.2.2.1 v0)), (1, .ref (w.2.2.1 v1)), (2, .int v2), (3, .int v3), (4, .int v4)]) hx hb dX3_work_95 hl (by decide) rfl (fun ls hl => ?_)
            refine lv_goto (tgt := 214) hx hb dX3_work_97 (by decide) ?_
            exact J214 v2 v3 t0 x29 μ  h _ _ _ hP hS (lv_sub hl [2, 3, 4, 5, 1, 0] rfl)
        · replace h := if_f c9 h
          obtain ⟨rfl, rfl⟩ := leaf h
          exact ((hK0_4 1 rfl).2.1 rfl) _ _ _ hP hS (lv_sub hl [] rfl)
    have J45 : ∀ (v2 : Int32) (v3 : Int32) (v4 : Int32) (μ : fMem), f_X3_work_j45 v0 v1 v2 v3 v4 μ = some (tz4, sz4) → WW p l e rm_X3_work s m args below meth c (MQ below (fQl w r μr) args s 0 0 (fA w)) w μ 8 45 [] [(0, .ref (w.2.2.1 v0)), (1, .ref (w.2.2.1 v1)), (2, .int v2), (3, .int v3), (4, .int v4)] := by
      intro v2 v3 v4 μ  h H locs ls hP hS hl
      unfold f_X3_work_j45 at h
      refine lv_iload hx hb dX3_work_45 (lv_at hl 4 rfl) ?_
      refine lv_bipush (v := (12)) hx hb dX3_work_47 (by decide) ?_
      refine lv_icmp_ne (tgt := 56) hx hb dX3_work_49 (by decide) (fun c7 => ?_) (fun c7 => ?_)
      · replace h := if_f c7 h
        refine lv_iconst (v := (2)) hx hb dX3_work_56 (by decide) ?_
        exact J57 v2 v3 v4 (2 : Int32) μ  h _ _ _ hP hS (lv_sub hl [0, 1, 2, 3, 4] rfl)
      · replace h := if_t c7 h
        refine lv_iconst (v := (1)) hx hb dX3_work_52 (by decide) ?_
        refine lv_goto (tgt := 57) hx hb dX3_work_53 (by decide) ?_
        exact J57 v2 v3 v4 (1 : Int32) μ  h _ _ _ hP hS (lv_sub hl [0, 1, 2, 3, 4] rfl)
    have J41 : ∀ (v2 : Int32) (v3 : Int32) (v4 : Int32) (μ : fMem), f_X3_work_j41 v0 v1 v2 v3 v4 μ = some (tz4, sz4) → WW p l e rm_X3_work s m args below meth c (MQ below (fQl w r μr) args s 0 0 (fA w)) w μ 8 41 [] [(0, .ref (w.2.2.1 v0)), (1, .ref (w.2.2.1 v1)), (2, .int v2), (3, .int v3), (4, .int v4)] := by
      intro v2 v3 v4 μ  h H locs ls hP hS hl
      unfold f_X3_work_j41 at h
      refine lv_iconst (v := (0)) hx hb dX3_work_41 (by decide) ?_
      refine lv_goto (tgt := 57) hx hb dX3_work_42 (by decide) ?_
      exact J57 v2 v3 v4 (0 : Int32) μ  h _ _ _ hP hS (lv_sub hl [0, 1, 2, 3, 4] rfl)
    refine lv_iload_n hx hb dX3_work_4 rfl (lv_at hl 3 rfl) ?_
    refine lv_aload_n hx hb dX3_work_5 rfl (lv_at hl 0 rfl) ?_
    refine r_getI C hP (iw hw (fi_3 hk0)) hk0 fl_X3_15 (Or.inl rfl) dX3_work_6 ?_
    refine lv_icmp_ge (tgt := 258) hx hb dX3_work_9 (by decide) (fun c1 => ?_) (fun c1 => ?_)
    · replace h := if_t c1 h
      obtain ⟨rfl, rfl⟩ := leaf h
      exact ((hK0_4 0 rfl).1 rfl) _ _ _ hP hS (lv_sub hl [0, 2] rfl)
    · replace h := if_f c1 h
      refine lv_aload_n hx hb dX3_work_12 rfl (lv_at hl 0 rfl) ?_
      refine r_getF (off := 1) C hP (iw hw (fi_3 hk0)) hk0 fl_X3_22 rfl rfl (zw hw) dX3_work_13 ?_
      refine lv_iload_n hx hb dX3_work_16 rfl (lv_at hl 3 rfl) ?_
      obtain ⟨g2, h⟩ := gd_ok h
      refine r_iald C hP (iw hw (ff_3_3 hk0).2) (ff_3_3 hk0).1 g2 dX3_work_17 ?_
      refine lv_topi (fun x3 ex3 => ?_)
      replace h := vl_ok ex3 h
      refine lv_istore (lv' := [(4, .int x3), (0, .ref (w.2.2.1 v0)), (1, .ref (w.2.2.1 v1)), (2, .int v2), (3, .int v3)]) hx hb dX3_work_18 hl (by decide) rfl (fun ls hl => ?_)
      refine lv_iload hx hb dX3_work_20 (lv_at hl 0 rfl) ?_
      refine lv_bipush (v := (21)) hx hb dX3_work_22 (by decide) ?_
      refine lv_icmp_eq (tgt := 41) hx hb dX3_work_24 (by decide) (fun c4 => ?_) (fun c4 => ?_)
      · replace h := if_t c4 h
        exact J41 v2 v3 x3 μ  h _ _ _ hP hS (lv_sub hl [1, 2, 3, 4, 0] rfl)
      · replace h := if_f c4 h
        refine lv_iload hx hb dX3_work_27 (lv_at hl 0 rfl) ?_
        refine lv_bipush (v := (13)) hx hb dX3_work_29 (by decide) ?_
        refine lv_icmp_lt (tgt := 45) hx hb dX3_work_31 (by decide) (fun c5 => ?_) (fun c5 => ?_)
        · replace h := if_t c5 h
          exact J45 v2 v3 x3 μ  h _ _ _ hP hS (lv_sub hl [1, 2, 3, 4, 0] rfl)
        · replace h := if_f c5 h
          refine lv_iload hx hb dX3_work_34 (lv_at hl 0 rfl) ?_
          refine lv_bipush (v := (19)) hx hb dX3_work_36 (by decide) ?_
          refine lv_icmp_gt (tgt := 45) hx hb dX3_work_38 (by decide) (fun c6 => ?_) (fun c6 => ?_)
          · replace h := if_t c6 h
            exact J45 v2 v3 x3 μ  h _ _ _ hP hS (lv_sub hl [1, 2, 3, 4, 0] rfl)
          · replace h := if_f c6 h
            exact J41 v2 v3 x3 μ  h _ _ _ hP hS (lv_sub hl [1, 2, 3, 4, 0] rfl)
  · obtain ⟨x39, x40, μ41⟩ := q38
    try dsimp only at h
    refine ⟨fun ht => ?_, fun ht => ?_, fun ht => ?_⟩
    · intro H locs ls hP hS hl
      have hP : fP w μ41 H := hP
      have hl : lv_has ls 8 [(0, .ref (w.2.2.1 v0)), (2, .int x39)] := hl
      replace h := if_t ht h
      refine lv_iload_n hx hb dX3_work_258 rfl (lv_at hl 1 rfl) ?_
      refine lv_iconst (v := (1)) hx hb dX3_work_259 (by decide) ?_
      refine lv_icmp_ne (tgt := 272) hx hb dX3_work_260 (by decide) (fun c42 => ?_) (fun c42 => ?_)
      · replace h := if_f c42 h
        refine lv_ldc2 hx hb hown (hts _ ct_X3_33) dX3_work_272 ?_
        exact r_lret C hr hP hS h dX3_work_275
      · replace h := if_t c42 h
        refine lv_aload_n hx hb dX3_work_263 rfl (lv_at hl 0 rfl) ?_
        refine r_getF (off := 3) C hP (iw hw (fi_3 hk0)) hk0 fl_X3_29 rfl rfl (zw hw) dX3_work_264 ?_
        refine lv_iconst (v := (0)) hx hb dX3_work_267 (by decide) ?_
        refine n_lald (j := 0) C hP (iw hw (ff_3_5 hk0).2) (ff_3_5 hk0).1 (by decide) (by decide) dX3_work_268 ?_
        refine lv_goto (tgt := 275) hx hb dX3_work_269 (by decide) ?_
        exact r_lret C hr hP hS h dX3_work_275
    · intro H locs ls hP hS hl
      have hP : fP w μ41 H := hP
      have hl : lv_has ls 8 [] := hl
      replace h := if_f (by rw [ht]; decide) h
      replace h := if_t ht h
      refine lv_ldc2 hx hb hown (hts _ ct_X3_33) dX3_work_77 ?_
      exact r_lret C hr hP hS h dX3_work_80
    · intro H locs ls hP hS hl
      have hP : fP w μ41 H := hP
      have hl : lv_has ls 8 [] := hl
      replace h := if_f (by rw [ht]; decide) h
      replace h := if_f (by rw [ht]; decide) h
      refine lv_ldc2 hx hb hown (hts _ ct_X3_33) dX3_work_232 ?_
      exact r_lret C hr hP hS h dX3_work_235

def f_X0_isComing (v0 : Nat) (v1 : Int32) (μ : fMem) : Option (Int32 × fMem) :=
  bd (f_X0_tellNames v0 v1 (-1 : Int32) (-1 : Int32) μ) fun r2 μ1 => vl (μ1.2.2 v0 8) fun x4 => gd (kd x4 = (4, 2)) (bd (f_X3_work (x4 + 24) (v0 + 35) μ1) fun r7 μ6 => if (lg_cmp r7 (-9223372036854775808 : Int64)) = 0 then vl (μ6.2.2 v0 8) fun x11 => gd (kd x11 = (4, 2)) (gd (ixo v1 6) (if (μ6.1 v0 10) < (μ6.1 (x11 + 14) (Int32.toNatClampNeg v1)) then gd (bl (0 : Int32)) (some ((0 : Int32), μ6)) else gd (bl (1 : Int32)) (some ((1 : Int32), μ6)))) else if (lg_cmp r7 (0 : Int64)) = 0 then gd (bl (0 : Int32)) (some ((0 : Int32), μ6)) else gd (bl (1 : Int32)) (some ((1 : Int32), μ6)))
def rm_X0_isComing : Room := { frames := 2, cells := 0, slots := 0, locals := 52 }
set_option maxHeartbeats 4000000 in
set_option maxRecDepth 100000 in
theorem m_X0_isComing (l : Launch) (w : fW) (hJ : fJ w) (hw : w.2.2.2 = sd 0) (v0 : Nat) (v1 : Int32) (hk0 : kd v0 = (4, 0)) (μ : fMem) {r : Int32} {μr : fMem} (h : f_X0_isComing v0 v1 μ = some (r, μr)) : Met l yX0_isComing (.code yX0_isComing cX0_isComing 4 (some .boolean) :: gw) rm_X0_isComing (fPc w [.ref (w.2.2.1 v0), .int v1] μ) (fQi w r μr) 0 0 (fA w) := by
  refine met_of hJ (by decide) ?_ (Nat.le_of_ble_eq_true rfl)
  generalize ([.ref (w.2.2.1 v0), .int v1] : List Value).toArray = args
  intro p e s m below meth c ls C hr hP hl hS
  obtain ⟨hx, hb, hml, hown, hts, hK, -, hlk, hT⟩ := id C
  have hl : lv_has ls 4 [(0, .ref (w.2.2.1 v0)), (1, .int v1)] := hl
  unfold f_X0_isComing at h
  refine lv_aload_n hx hb dX0_isComing_0 rfl (lv_at hl 0 rfl) ?_
  refine lv_iload_n hx hb dX0_isComing_1 rfl (lv_at hl 1 rfl) ?_
  refine lv_iconst (v := (-1)) hx hb dX0_isComing_2 (by decide) ?_
  refine lv_iconst (v := (-1)) hx hb dX0_isComing_3 (by decide) ?_
  obtain ⟨r2, μ1, h3, h⟩ := bd_ok h
  refine go_v (callV_run (As := [.int v1, .int (-1 : Int32), .int (-1 : Int32)]) (rest := []) C hl hP (hS.wide hJ).2.1 (iw hw (fi_0 hk0)) hk0 (m_X0_tellNames l w hJ hw v0 v1 (-1 : Int32) (-1 : Int32) hk0 μ h3) mv_X0_131 ⟨rfl, rfl, by decide, by decide⟩ rfl rfl (Nat.le_of_ble_eq_true rfl) ⟨Nat.zero_le _, Nat.zero_le _⟩ dX0_isComing_4) hS (fun H locs hP hS => ?_)
  refine lv_aload_n hx hb dX0_isComing_7 rfl (lv_at hl 0 rfl) ?_
  refine r_getRx C hP (iw hw (fi_0 hk0)) hk0 fl_X0_41 rfl (zw hw) dX0_isComing_8 (fun x4 ex4 => ?_)
  replace h := vl_ok ex4 h
  obtain ⟨g5, h⟩ := gd_ok h
  refine r_getF (off := 24) C hP (iw hw (fi_2 g5)) g5 fl_X0_135 rfl rfl (zw hw) dX0_isComing_11 ?_
  refine lv_aload_n hx hb dX0_isComing_14 rfl (lv_at hl 0 rfl) ?_
  refine r_getF (off := 35) C hP (iw hw (fi_0 hk0)) hk0 fl_X0_55 rfl rfl (zw hw) dX0_isComing_15 ?_
  obtain ⟨r7, μ6, h8, h⟩ := bd_ok h
  refine go_l (callV_run (As := [.ref (w.2.2.1 (v0 + 35))]) (rest := []) C hl hP (hS.wide hJ).2.1 (iw hw (ff_2_15 g5).2) (ff_2_15 g5).1 (m_X3_work l w hJ hw (x4 + 24) (v0 + 35) (ff_2_15 g5).1 (karr (ff_0_11 hk0).1) (iw hw (ff_0_11 hk0).2) μ1 h8) mv_X0_138 ⟨rfl, rfl, by decide, by decide⟩ rfl rfl (Nat.le_of_ble_eq_true rfl) ⟨Nat.zero_le _, Nat.zero_le _⟩ dX0_isComing_18) hS (fun H locs hP hS => ?_)
  refine lv_lstore_n (lv' := [(2, .long r7), (0, .ref (w.2.2.1 v0)), (1, .int v1)]) hx hb dX0_isComing_21 rfl hl (by decide) rfl (fun ls hl => ?_)
  refine lv_lload_n hx hb dX0_isComing_22 rfl (lv_at hl 0 rfl) ?_
  refine lv_ldc2 hx hb hown (hts _ ct_X0_142) dX0_isComing_23 ?_
  refine W.lcmp hx hb dX0_isComing_26 ?_
  refine lv_if_ne (tgt := 54) hx hb dX0_isComing_27 (by decide) (fun c9 => ?_) (fun c9 => ?_)
  · replace h := if_f c9 h
    refine lv_lload_n hx hb dX0_isComing_54 rfl (lv_at hl 0 rfl) ?_
    refine lv_lconst (v := 0) hx hb dX0_isComing_55 (by decide) ?_
    refine W.lcmp hx hb dX0_isComing_56 ?_
    refine lv_if_eq (tgt := 64) hx hb dX0_isComing_57 (by decide) (fun c10 => ?_) (fun c10 => ?_)
    · replace h := if_t c10 h
      refine lv_iconst (v := (0)) hx hb dX0_isComing_64 (by decide) ?_
      exact r_zret C hr hP hS h dX0_isComing_65
    · replace h := if_f c10 h
      refine lv_iconst (v := (1)) hx hb dX0_isComing_60 (by decide) ?_
      refine lv_goto (tgt := 65) hx hb dX0_isComing_61 (by decide) ?_
      exact r_zret C hr hP hS h dX0_isComing_65
  · replace h := if_t c9 h
    refine lv_aload_n hx hb dX0_isComing_30 rfl (lv_at hl 1 rfl) ?_
    refine r_getI C hP (iw hw (fi_0 hk0)) hk0 fl_X0_52 (Or.inl rfl) dX0_isComing_31 ?_
    refine lv_aload_n hx hb dX0_isComing_34 rfl (lv_at hl 1 rfl) ?_
    refine r_getRx C hP (iw hw (fi_0 hk0)) hk0 fl_X0_41 rfl (zw hw) dX0_isComing_35 (fun x11 ex11 => ?_)
    replace h := vl_ok ex11 h
    obtain ⟨g12, h⟩ := gd_ok h
    refine r_getF (off := 14) C hP (iw hw (fi_2 g12)) g12 fl_X0_144 rfl rfl (zw hw) dX0_isComing_38 ?_
    refine lv_iload_n hx hb dX0_isComing_41 rfl (lv_at hl 2 rfl) ?_
    obtain ⟨g13, h⟩ := gd_ok h
    refine r_iald C hP (iw hw (ff_2_11 g12).2) (ff_2_11 g12).1 g13 dX0_isComing_42 ?_
    refine lv_icmp_lt (tgt := 50) hx hb dX0_isComing_43 (by decide) (fun c14 => ?_) (fun c14 => ?_)
    · replace h := if_t c14 h
      refine lv_iconst (v := (0)) hx hb dX0_isComing_50 (by decide) ?_
      refine lv_goto (tgt := 65) hx hb dX0_isComing_51 (by decide) ?_
      exact r_zret C hr hP hS h dX0_isComing_65
    · replace h := if_f c14 h
      refine lv_iconst (v := (1)) hx hb dX0_isComing_46 (by decide) ?_
      refine lv_goto (tgt := 65) hx hb dX0_isComing_47 (by decide) ?_
      exact r_zret C hr hP hS h dX0_isComing_65

def f_X0_comers_j39 (v0 : Nat) (v1 : Int32) (v2 : Int32) (μ : fMem) : Option (Nat × (Int32 × Int32 × fMem)) :=
  vl (v1 ||| (shl (1 : Int32) v2)) fun x15 => vl (v2 + (1 : Int32)) fun x16 => some (0, (x15, x16, μ))
def f_X0_comers_L4 (v0 : Nat) (v1 : Int32) (v2 : Int32) (μ : fMem) : Option (Nat × (Int32 × Int32 × fMem)) :=
  vl (μ.2.2 v0 8) fun x1 => gd (kd x1 = (4, 2)) (bd (f_X2_told x1 (3 : Int32) μ) fun r4 μ3 => if r4 ≤ v2 then some (1, (v1, v2, μ3)) else if v2 = (μ3.1 v0 2) then vl (v2 + (1 : Int32)) fun x8 => some (0, (v1, x8, μ3)) else if (μ3.1 v0 3) = 0 then bd (f_X0_isComing v0 v2 μ3) fun r11 μ10 => if r11 = 0 then vl (v2 + (1 : Int32)) fun x14 => some (0, (v1, x14, μ10)) else f_X0_comers_j39 v0 v1 v2 μ10 else f_X0_comers_j39 v0 v1 v2 μ3)
def f_X0_comers (v0 : Nat) (μ : fMem) : Option (Int32 × fMem) :=
  bd (lpn (fun (q : Int32 × Int32 × fMem) => f_X0_comers_L4 v0 q.1 q.2.1 q.2.2) fuel ((0 : Int32), (0 : Int32), μ)) fun t17 q18 => (fun (x19 : Int32) (x20 : Int32) (μ21 : fMem) => some (x19, μ21)) q18.1 q18.2.1 q18.2.2
def rm_X0_comers : Room := { frames := 3, cells := 0, slots := 0, locals := 75 }
set_option maxHeartbeats 4000000 in
set_option maxRecDepth 100000 in
theorem m_X0_comers (l : Launch) (w : fW) (hJ : fJ w) (hw : w.2.2.2 = sd 0) (v0 : Nat) (hk0 : kd v0 = (4, 0)) (μ : fMem) {r : Int32} {μr : fMem} (h : f_X0_comers v0 μ = some (r, μr)) : Met l yX0_comers (.code yX0_comers cX0_comers 3 (some .int) :: gw) rm_X0_comers (fPc w [.ref (w.2.2.1 v0)] μ) (fQi w r μr) 0 0 (fA w) := by
  refine met_of hJ (by decide) ?_ (Nat.le_of_ble_eq_true rfl)
  generalize ([.ref (w.2.2.1 v0)] : List Value).toArray = args
  intro p e s m below meth c ls C hr hP hl hS
  obtain ⟨hx, hb, hml, hown, hts, hK, -, hlk, hT⟩ := id C
  have hl : lv_has ls 3 [(0, .ref (w.2.2.1 v0))] := hl
  unfold f_X0_comers at h
  refine lv_iconst (v := (0)) hx hb dX0_comers_0 (by decide) ?_
  refine lv_istore_n (lv' := [(1, .int (0 : Int32)), (0, .ref (w.2.2.1 v0))]) hx hb dX0_comers_1 rfl hl (by decide) rfl (fun ls hl => ?_)
  refine lv_iconst (v := (0)) hx hb dX0_comers_2 (by decide) ?_
  refine lv_istore_n (lv' := [(2, .int (0 : Int32)), (1, .int (0 : Int32)), (0, .ref (w.2.2.1 v0))]) hx hb dX0_comers_3 rfl hl (by decide) rfl (fun ls hl => ?_)
  obtain ⟨t17, q18, h22, h⟩ := bd_ok h
  refine lpn_ind (b := (fun (q : Int32 × Int32 × fMem) => f_X0_comers_L4 v0 q.1 q.2.1 q.2.2)) (P := fun (q : Int32 × Int32 × fMem) => WW p l e rm_X0_comers s m args below meth c (MQ below (fQi w r μr) args s 0 0 (fA w)) w q.2.2 3 4 [] [(0, .ref (w.2.2.1 v0)), (1, .int q.1), (2, .int q.2.1)]) (K := fun _ (q : Int32 × Int32 × fMem) => WW p l e rm_X0_comers s m args below meth c (MQ below (fQi w r μr) args s 0 0 (fA w)) w q.2.2 3 51 [] [(1, .int q.1)]) ?_ fuel ((0 : Int32), (0 : Int32), μ) t17 q18 h22 ?_ _ _ _ hP hS (lv_sub hl [2, 1, 0] rfl)
  · intro q tz4 sz4 h hP0_4 hK0_4 H locs ls hP hS hl
    obtain ⟨v1, v2, μ⟩ := q
    have hP : fP w μ H := hP
    have hl : lv_has ls 3 [(0, .ref (w.2.2.1 v0)), (1, .int v1), (2, .int v2)] := hl
    have h : f_X0_comers_L4 v0 v1 v2 μ = some (tz4, sz4) := h
    unfold f_X0_comers_L4 at h
    have J39 : ∀ (v1 : Int32) (v2 : Int32) (μ : fMem), f_X0_comers_j39 v0 v1 v2 μ = some (tz4, sz4) → WW p l e rm_X0_comers s m args below meth c (MQ below (fQi w r μr) args s 0 0 (fA w)) w μ 3 39 [] [(0, .ref (w.2.2.1 v0)), (1, .int v1), (2, .int v2)] := by
      intro v1 v2 μ  h H locs ls hP hS hl
      unfold f_X0_comers_j39 at h
      refine lv_iload_n hx hb dX0_comers_39 rfl (lv_at hl 1 rfl) ?_
      refine lv_iconst (v := (1)) hx hb dX0_comers_40 (by decide) ?_
      refine lv_iload_n hx hb dX0_comers_41 rfl (lv_at hl 2 rfl) ?_
      refine r_ishl hx hb dX0_comers_42 ?_
      refine lv_ior hx hb dX0_comers_43 ?_
      refine lv_topi (fun x15 ex15 => ?_)
      replace h := vl_ok ex15 h
      refine lv_istore_n (lv' := [(1, .int x15), (0, .ref (w.2.2.1 v0)), (2, .int v2)]) hx hb dX0_comers_44 rfl hl (by decide) rfl (fun ls hl => ?_)
      obtain ⟨x16, ex16⟩ : ∃ y : Int32, y = (v2 + (1 : Int32)) := ⟨_, rfl⟩
      replace h := vl_ok ex16 h
      refine lv_iinc (v := x16) (lv' := [(2, .int x16), (1, .int x15), (0, .ref (w.2.2.1 v0))]) hx hb dX0_comers_45 hl (k := 2) rfl (by rw [ex16]; rfl) (by decide) rfl (fun ls hl => ?_)
      refine lv_goto (tgt := 4) hx hb dX0_comers_48 (by decide) ?_
      obtain ⟨rfl, rfl⟩ := leaf h
      exact hP0_4 rfl _ _ _ hP hS (lv_sub hl [2, 1, 0] rfl)
    refine lv_iload_n hx hb dX0_comers_4 rfl (lv_at hl 2 rfl) ?_
    refine lv_aload_n hx hb dX0_comers_5 rfl (lv_at hl 0 rfl) ?_
    refine r_getRx C hP (iw hw (fi_0 hk0)) hk0 fl_X0_41 rfl (zw hw) dX0_comers_6 (fun x1 ex1 => ?_)
    replace h := vl_ok ex1 h
    obtain ⟨g2, h⟩ := gd_ok h
    refine lv_iconst (v := (3)) hx hb dX0_comers_9 (by decide) ?_
    obtain ⟨r4, μ3, h5, h⟩ := bd_ok h
    refine go_i (callV_run (As := [.int (3 : Int32)]) (rest := [.int v2]) C hl hP (hS.wide hJ).2.1 (iw hw (fi_2 g2)) g2 (m_X2_told l w hJ hw x1 (3 : Int32) g2 μ h5) mv_X0_121 ⟨rfl, rfl, by decide, by decide⟩ rfl rfl (Nat.le_of_ble_eq_true rfl) ⟨Nat.zero_le _, Nat.zero_le _⟩ dX0_comers_10) hS (fun H locs hP hS => ?_)
    refine lv_icmp_ge (tgt := 51) hx hb dX0_comers_13 (by decide) (fun c6 => ?_) (fun c6 => ?_)
    · replace h := if_t c6 h
      obtain ⟨rfl, rfl⟩ := leaf h
      exact (hK0_4 0 rfl) _ _ _ hP hS (lv_sub hl [1] rfl)
    · replace h := if_f c6 h
      refine lv_iload_n hx hb dX0_comers_16 rfl (lv_at hl 2 rfl) ?_
      refine lv_aload_n hx hb dX0_comers_17 rfl (lv_at hl 0 rfl) ?_
      refine r_getI C hP (iw hw (fi_0 hk0)) hk0 fl_X0_18 (Or.inl rfl) dX0_comers_18 ?_
      refine lv_icmp_eq (tgt := 45) hx hb dX0_comers_21 (by decide) (fun c7 => ?_) (fun c7 => ?_)
      · replace h := if_t c7 h
        obtain ⟨x8, ex8⟩ : ∃ y : Int32, y = (v2 + (1 : Int32)) := ⟨_, rfl⟩
        replace h := vl_ok ex8 h
        refine lv_iinc (v := x8) (lv' := [(2, .int x8), (0, .ref (w.2.2.1 v0)), (1, .int v1)]) hx hb dX0_comers_45 hl (k := 2) rfl (by rw [ex8]; rfl) (by decide) rfl (fun ls hl => ?_)
        refine lv_goto (tgt := 4) hx hb dX0_comers_48 (by decide) ?_
        obtain ⟨rfl, rfl⟩ := leaf h
        exact hP0_4 rfl _ _ _ hP hS (lv_sub hl [1, 2, 0] rfl)
      · replace h := if_f c7 h
        refine lv_aload_n hx hb dX0_comers_24 rfl (lv_at hl 0 rfl) ?_
        refine r_getI C hP (iw hw (fi_0 hk0)) hk0 fl_X0_21 (Or.inr rfl) dX0_comers_25 ?_
        refine lv_if_ne (tgt := 39) hx hb dX0_comers_28 (by decide) (fun c9 => ?_) (fun c9 => ?_)
        · replace h := if_f c9 h
          exact J39 v1 v2 μ3  h _ _ _ hP hS (lv_sub hl [0, 1, 2] rfl)
        · replace h := if_t c9 h
          refine lv_aload_n hx hb dX0_comers_31 rfl (lv_at hl 0 rfl) ?_
          refine lv_iload_n hx hb dX0_comers_32 rfl (lv_at hl 2 rfl) ?_
          obtain ⟨r11, μ10, h12, h⟩ := bd_ok h
          refine go_i (callV_run (As := [.int v2]) (rest := []) C hl hP (hS.wide hJ).2.1 (iw hw (fi_0 hk0)) hk0 (m_X0_isComing l w hJ hw v0 v2 hk0 μ3 h12) mv_X0_128 ⟨rfl, rfl, by decide, by decide⟩ rfl rfl (Nat.le_of_ble_eq_true rfl) ⟨Nat.zero_le _, Nat.zero_le _⟩ dX0_comers_33) hS (fun H locs hP hS => ?_)
          refine lv_if_eq (tgt := 45) hx hb dX0_comers_36 (by decide) (fun c13 => ?_) (fun c13 => ?_)
          · replace h := if_t c13 h
            obtain ⟨x14, ex14⟩ : ∃ y : Int32, y = (v2 + (1 : Int32)) := ⟨_, rfl⟩
            replace h := vl_ok ex14 h
            refine lv_iinc (v := x14) (lv' := [(2, .int x14), (0, .ref (w.2.2.1 v0)), (1, .int v1)]) hx hb dX0_comers_45 hl (k := 2) rfl (by rw [ex14]; rfl) (by decide) rfl (fun ls hl => ?_)
            refine lv_goto (tgt := 4) hx hb dX0_comers_48 (by decide) ?_
            obtain ⟨rfl, rfl⟩ := leaf h
            exact hP0_4 rfl _ _ _ hP hS (lv_sub hl [1, 2, 0] rfl)
          · replace h := if_f c13 h
            exact J39 v1 v2 μ10  h _ _ _ hP hS (lv_sub hl [0, 1, 2] rfl)
  · obtain ⟨x19, x20, μ21⟩ := q18
    intro H locs ls hP hS hl
    have hP : fP w μ21 H := hP
    have hl : lv_has ls 3 [(1, .int x19)] := hl
    try dsimp only at h
    refine lv_iload_n hx hb dX0_comers_51 rfl (lv_at hl 0 rfl) ?_
    exact r_iret C hr hP hS h dX0_comers_52

